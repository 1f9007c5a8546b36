def R_law : String := "HatOrdersLaw"
def lw_P (b : Addr) (xs : List Int32) (args : Array Value) (s : State) : Prop := args = #[.ref b] ∧ s.IntsAt b xs ∧ xs.length ≤ 384 ∧ (Jvm.Cond.and given_1 narrow_1).before args s = true
def lw_Q (_ : Array Value) (s : State) (o : Outcome) (t : State) : Prop := o = .returned (some (.int 1)) ∧ Framed s o t [] 600000 7302250
def lw_Z (below : List Frame) (a : Array Value) (s : State) : State → Prop := fun t => ∃ o, t.status = .running ∧ Ended t below o ∧ lw_Q a s o t
/-- the law's own end, with 1 on the stack, nothing written that was there before, its room as the claim has it -/
theorem lw_ret {p : Program} {l : Launch} {e : Env} {s : State} {m : MethodId} {below : List Frame} {meth : Method} {c : Code} {b : Nat} (hx : p.tables.exec = Jvm.exec) (hb : c.code = code) (hr : meth.sig.returnType = ret) (hlocks : meth.locks = false) {pc : Nat} {H : Heap} {ls : Array Slot} (hdg : decode code pc = .ok (.ireturn, 1)) : W p l e room_1 s m #[Value.ref b] below meth c H [] 600000 7302250 (lw_Z below #[Value.ref b] s) (F0 m pc ls [.int 1]) := by
  intro T hT X
  obtain ⟨fs, hret, hrun, hended, hW, hframe⟩ := X.leave (v := some (.int 1)) (hlocks := hlocks) (fun h => by rw [hr] at h; cases h)
  have hmeth' : T.vm.method? m = some meth := X.method'
  refine ⟨T.setFrames fs, ?_, .returned (some (.int 1)), hrun, hended, rfl, ⟨_, rfl⟩, hW, hframe⟩
  jvm_step X.here [X.here.top, hx, hb, hdg, hmeth', hr, ret, narrow_b1]
  (try refine ⟨rfl, ?_⟩); (try refine ⟨rfl, ?_⟩)
  first | (intro acts; rw [hret _ acts rfl rfl rfl]) | rw [hret _ _ rfl rfl rfl]
  exact Steps.refl _
/-- what holds at the law's entry: the machine, the code, the tables' words (any of lw_tbl by 'hts w (by decide +kernel)'), the script of L ints xs at the cell b, what the Statement gives of the start (any of its parts by flat_of_before) -/
def lw_At (p : Program) (s : State) (m : MethodId) (meth : Method) (c : Code) (b L : Nat) (xs : Nat → Int32) : Prop :=
  p.tables.exec = Jvm.exec ∧ c.code = code ∧ meth.sig.returnType = ret ∧ c.maxLocals = 4 ∧ s.vm.findClass R_law = some m.cls ∧ (∀ w ∈ lw_tbl, w.before #[Value.ref b] s = true) ∧ va_X b L xs s s.heap ∧ b < s.heap.size ∧ meth.locks = false ∧ (Jvm.Cond.and given_1 narrow_1).before #[Value.ref b] s = true
theorem sx_wao5 : (Jvm.Cond.arrayOver (Jvm.ClassFile.FieldType.object "HatOrders$Row")) ∈ lw_tbl := sx_tk_in 1 _ (List.mem_of_getElem? (i := 28) (by decide +kernel))
theorem sx_wao6 : (Jvm.Cond.arrayOver (Jvm.ClassFile.FieldType.object "HatOrders$Town")) ∈ lw_tbl := sx_tk_in 1 _ (List.mem_of_getElem? (i := 214) (by decide +kernel))
theorem sx_wlsWIDER : (Jvm.Cond.laysStatic "HatOrders$Kinds" "WIDER" "[I") ∈ lw_tbl := sx_tk_in 4 _ (List.mem_of_getElem? (i := 29) (by decide +kernel))
theorem sx_wlsSIZE : (Jvm.Cond.laysStatic "HatOrders$Kinds" "SIZE_BODIES" "[I") ∈ lw_tbl := sx_tk_in 4 _ (List.mem_of_getElem? (i := 46) (by decide +kernel))
theorem sx_wlsMARK : (Jvm.Cond.laysStatic "HatOrders$Kinds" "MARK_BODIES" "[I") ∈ lw_tbl := sx_tk_in 4 _ (List.mem_of_getElem? (i := 48) (by decide +kernel))
theorem sx_wlsCS : (Jvm.Cond.laysStatic "java/lang/String" "COMPACT_STRINGS" "Z") ∈ lw_tbl := sx_tk_in 2 _ (List.mem_of_getElem? (i := 146) (by decide +kernel))
theorem sx_winK : (Jvm.Cond.initialized "HatOrders$Kinds") ∈ lw_tbl := sx_tk_in 1 _ (List.mem_of_getElem? (i := 11) (by decide +kernel))
theorem sx_winS : (Jvm.Cond.initialized "java/lang/String") ∈ lw_tbl := sx_tk_in 1 _ (List.mem_of_getElem? (i := 12) (by decide +kernel))
theorem sx_wsref : (Jvm.Cond.stringRef "HatOrders$Kinds" (9 : Nat) "fstwb") ∈ lw_tbl := sx_tk_in 2 _ (List.mem_of_getElem? (i := 132) (by decide +kernel))
theorem sx_wf_i (L : Nat) : sx_wf L (kg_i L) := by
  refine ⟨Nat.le_refl 1, Nat.le_of_ble_eq_true rfl, ?_, ?_, ?_, rfl, rfl, rfl, rfl, ?_⟩
  · intro k h1 h2
    simp only [kg_i, kg_ish] at h1 h2
    split at h1 <;> simp at h1 h2 <;> split at h2 <;> simp at h2
  · intro k h1
    simp only [kg_i, kg_ish] at h1
    split at h1 <;> simp at h1
  · intro k h1
    simp only [kg_i, kg_ish] at h1
    split at h1 <;> simp at h1 <;> simp
  · intro k h1 h2
    simp only [kg_i, kg_ish] at h1 h2
    split at h1 <;> simp at h1 h2 <;> split at h2 <;> simp at h2
theorem sx_rel_i {Z : sx_Z} {D : va_G} {L : Nat} {xs : Nat → Int32} {H : Heap} (h : H.size = Z.1 + 1) : sx_rel Z D L (kg_m xs) (kg_i L) (kg_m xs) H := by
  refine ⟨sx_wf_i L, fun _ => h, ?_, fun _ _ => rfl⟩
  intro k q hq
  have := (sx_ws_inv hq).1
  exact absurd this (by show ¬ k + 1 < 1; omega)
theorem sx_cls_len {c : Nat} {q : vw_C} (h : sx_cls[c]? = some q) : c < 8 ∧ q = (sx_cn c, sx_T c, sx_nf c) := by
  have hl : c < 8 := (List.getElem?_eq_some_iff.mp h).1
  exact ⟨hl, Option.some.inj (h.symm.trans (sx_cls_at hl))⟩
theorem sx_inst : ∀ ci, ci < 8 → ∃ q ∈ sx_cla, q.2.2 = ci := by decide +kernel
theorem sx_inst_in {ci : Nat} (h : ci < 8) : Jvm.Cond.instantiable (sx_cn ci) (sx_nf ci) ∈ sx_tb := by
  obtain ⟨q, hq, rfl⟩ := sx_inst ci h
  exact (sx_cla_ok q hq).1 _ (by simp)
theorem sx_known {s : State} {args : Array Value} (hts : ∀ w ∈ lw_tbl, w.before args s = true) : ∃ (D : va_G) (cA : Nat → ClassId), ∀ (b0 : Nat) (xa : Nat → Nat), va_K D sx_cls (sx_tys (b0, xa, cA)) s := by
  have ht2 : ∀ w ∈ sx_tb, w.before args s = true := fun w hw => hts w (sx_good w hw).1
  have h0 : ∀ ci : Nat, ∃ q : ClassId × (Nat → Nat), ci < 8 → u_Kn s (sx_cn ci) (sx_T ci) (sx_nf ci) q.1 q.2 := by
    intro ci
    by_cases hci : ci < 8
    · obtain ⟨cC, iS, h⟩ := u_known ht2 (sx_in ci hci) (ht2 _ (sx_inst_in hci))
      exact ⟨(cC, iS), fun _ => h⟩
    · exact ⟨(0, fun _ => 0), fun h => absurd h hci⟩
  obtain ⟨f, hf⟩ := Classical.axiomOfChoice h0
  have hp : ∀ ty : FieldType, Jvm.Cond.arrayClass ty ∈ sx_tb → (∀ C, ty ≠ .object C) → ∃ cA, ArrOfT s cA ty ∧ va_RA s cA ty := by
    intro ty hw hno
    obtain ⟨cA, kA, comp, g1, g2, g3⟩ := Cond.arrayClass_spec (ht2 _ hw)
    refine ⟨cA, fun n z => ⟨fun k h => (by cases h), kA, g2, comp, g3⟩, ?_⟩
    cases ty <;> first | exact g1 | exact absurd rfl (hno _)
  obtain ⟨c2, e2⟩ := hp .int (sx_arr_ok _ (by simp)) (fun _ h => by cases h)
  obtain ⟨c3, e3⟩ := hp .long (sx_arr_ok _ (by simp)) (fun _ h => by cases h)
  obtain ⟨c4, e4⟩ := hp .boolean (sx_arr_ok _ (by simp)) (fun _ h => by cases h)
  have hq : ∀ C : String, (Jvm.Cond.arrayOver (.object C)).before args s = true → ∃ cA, ArrOfT s cA (.object C) ∧ va_RA s cA (.object C) := by
    intro C h
    obtain ⟨comp, c, k, h1, h2, h3, h4, h5⟩ := Cond.arrayOver_spec h
    exact ⟨c, fun n z => ⟨fun k h => (by cases h), k, h3, comp, h4⟩, k, comp, h3, h4, h1, h5⟩
  obtain ⟨c5, e5⟩ := hq "HatOrders$Row" (hts _ sx_wao5)
  obtain ⟨c6, e6⟩ := hq "HatOrders$Town" (hts _ sx_wao6)
  refine ⟨(fun k => (f k).1, fun k => (f k).2), fun k => if k = 2 then c2 else if k = 3 then c3 else if k = 4 then c4 else if k = 5 then c5 else c6, fun b0 xa => ⟨fun c q hq => ?_, fun k q hk => ?_⟩⟩
  · obtain ⟨hc, rfl⟩ := sx_cls_len hq
    exact hf c hc
  · match k, hk with
    | 0, hk => cases hk; exact e2
    | 1, hk => cases hk; exact e3
    | 2, hk => cases hk; exact e4
    | 3, hk => cases hk; exact e5
    | 4, hk => cases hk; exact e6
    | k + 5, hk => simp [sx_tys] at hk

/-- a static table -/
theorem sx_tab {s : State} {b : Nat} {Z1 : Nat} {nm : String} {f : Nat → Value} {v : Nat → Int32} (hZ : Z1 + 1 = s.heap.size) (hl : (Jvm.Cond.laysStatic "HatOrders$Kinds" nm "[I").before #[Value.ref b] s = true) (hi : (Jvm.Cond.initialized "HatOrders$Kinds").before #[Value.ref b] s = true) (ha : (Jvm.Cond.arrayOf (.static "HatOrders$Kinds" nm "[I") .int).before #[Value.ref b] s = true) (hlen : (Jvm.Cond.eq (.length (.static "HatOrders$Kinds" nm "[I")) (.int 6)).before #[Value.ref b] s = true) (hel : ∀ j : Nat, j < 6 → (Jvm.Cond.eq (.elem (.static "HatOrders$Kinds" nm "[I") (.int (Int32.ofNat j))) (.int (v j))).before #[Value.ref b] s = true) (hv : ∀ j : Nat, j < 6 → f j = .int (v j)) : ∃ t : Nat, va_Z "HatOrders$Kinds" nm "[I" (.ref t) (fun q => Z1 < q) s s.heap ∧ va_T .int t 6 f (fun q => Z1 < q) s s.heap := by
  have hA : ∀ a : Nat, a < s.heap.size → ¬ Z1 < a := fun a h => by omega
  obtain ⟨t, h1, h2⟩ := va_Tof (tm := .static "HatOrders$Kinds" nm "[I") (N := 6) (f := f) (A := fun q => Z1 < q) (by decide) ha (va_eqt hlen) (fun j hj => by rw [hv j hj]; exact va_eqt (hel j hj)) hA
  exact ⟨t, va_Zof hl hi h1 hA, h2⟩
theorem sx_begin {p : Program} {s : State} {m : MethodId} {meth : Method} {c : Code} {b L : Nat} {xs : Nat → Int32} (hL : L ≤ 384) (C0 : lw_At p s m meth c b L xs) : ∃ (Z : sx_Z) (D : va_G), Z.1 + 1 = s.heap.size ∧ Z.2.1 104 = b ∧ sx_ext Z D L (kg_m xs) s := by
  obtain ⟨hx, hb, hr, hml, hown, hts, hX, hbl, hlocks, hgv⟩ := C0
  have hs := flat_of_before _ hgv
  obtain ⟨D, cA, hK⟩ := sx_known hts
  have hZ : s.heap.size - 1 + 1 = s.heap.size := by omega
  have hA : ∀ a : Nat, a < s.heap.size → ¬ s.heap.size - 1 < a := fun a h => by omega
  obtain ⟨t1, z1, u1⟩ := sx_tab (nm := "WIDER") (v := fun j => ([0, 0, 1, 1, 0, 4] : List Int32).getD j 0) (f := fun j => .int (Int32.ofInt (kg_m xs 101 j))) hZ (hts _ sx_wlsWIDER) (hts _ sx_winK) (hs _ (by decide +kernel)) (hs _ (by decide +kernel)) (fun j hj => by
    match j, hj with
    | 0, _ => exact hs _ (by decide +kernel)
    | 1, _ => exact hs _ (by decide +kernel)
    | 2, _ => exact hs _ (by decide +kernel)
    | 3, _ => exact hs _ (by decide +kernel)
    | 4, _ => exact hs _ (by decide +kernel)
    | 5, _ => exact hs _ (by decide +kernel)) (fun j hj => by
    match j, hj with
    | 0, _ => rfl
    | 1, _ => rfl
    | 2, _ => rfl
    | 3, _ => rfl
    | 4, _ => rfl
    | 5, _ => rfl)
  obtain ⟨t2, z2, u2⟩ := sx_tab (nm := "SIZE_BODIES") (v := fun j => ([10, 11, 12, 0, 13, 14] : List Int32).getD j 0) (f := fun j => .int (Int32.ofInt (kg_m xs 102 j))) hZ (hts _ sx_wlsSIZE) (hts _ sx_winK) (hs _ (by decide +kernel)) (hs _ (by decide +kernel)) (fun j hj => by
    match j, hj with
    | 0, _ => exact hs _ (by decide +kernel)
    | 1, _ => exact hs _ (by decide +kernel)
    | 2, _ => exact hs _ (by decide +kernel)
    | 3, _ => exact hs _ (by decide +kernel)
    | 4, _ => exact hs _ (by decide +kernel)
    | 5, _ => exact hs _ (by decide +kernel)) (fun j hj => by
    match j, hj with
    | 0, _ => rfl
    | 1, _ => rfl
    | 2, _ => rfl
    | 3, _ => rfl
    | 4, _ => rfl
    | 5, _ => rfl)
  obtain ⟨t3, z3, u3⟩ := sx_tab (nm := "MARK_BODIES") (v := fun j => ([20, 21, 24, 22, 23, 0] : List Int32).getD j 0) (f := fun j => .int (Int32.ofInt (kg_m xs 103 j))) hZ (hts _ sx_wlsMARK) (hts _ sx_winK) (hs _ (by decide +kernel)) (hs _ (by decide +kernel)) (fun j hj => by
    match j, hj with
    | 0, _ => exact hs _ (by decide +kernel)
    | 1, _ => exact hs _ (by decide +kernel)
    | 2, _ => exact hs _ (by decide +kernel)
    | 3, _ => exact hs _ (by decide +kernel)
    | 4, _ => exact hs _ (by decide +kernel)
    | 5, _ => exact hs _ (by decide +kernel)) (fun j hj => by
    match j, hj with
    | 0, _ => rfl
    | 1, _ => rfl
    | 2, _ => rfl
    | 3, _ => rfl
    | 4, _ => rfl
    | 5, _ => rfl)
  obtain ⟨adK, adV, hStr, hadK⟩ := vk_Sof (args := #[Value.ref b]) (s := s) (N := 1) (tm := fun _ => .string "HatOrders$Kinds" 9) (len := [5]) (byt := [[102, 115, 116, 119, 98]]) (A := fun q => s.heap.size - 1 < q)
    (fun i hi => by match i, hi with | 0, _ => decide) (fun i hi => hs _ (by decide +kernel)) (fun i hi => hs _ (by decide +kernel)) (fun i hi => hs _ (by decide +kernel)) (fun i hi => by match i, hi with | 0, _ => exact hs _ (by decide +kernel))
    (fun i hi j hj => by
      match i, hi with
      | 0, _ =>
        match j, hj with
        | 0, _ => exact hs _ (by decide +kernel)
        | 1, _ => exact hs _ (by decide +kernel)
        | 2, _ => exact hs _ (by decide +kernel)
        | 3, _ => exact hs _ (by decide +kernel)
        | 4, _ => exact hs _ (by decide +kernel)) (fun i j hi hj hij => absurd (show i = j by omega) hij) hA
  obtain ⟨o1, o2, o3, o4⟩ := hStr.1 0 (by decide)
  refine ⟨(s.heap.size - 1, fun k => if k = 101 then t1 else if k = 102 then t2 else if k = 103 then t3 else if k = 104 then b else if k = 105 then adK 0 else adV 0, cA), D, hZ, rfl, hK _ _, ?_, ?_, ⟨?_, ?_⟩, by omega, ?_, va_AO.of (hts _ sx_wao5), va_AO.of (hts _ sx_wao6), vk_R.of (hts _ sx_wsref) (hadK 0 (by decide)), o1, o2, o3, ?_, va_Zof (hts _ sx_wlsCS) (hts _ sx_winS) (va_eqi (hs _ (by decide +kernel))) hA⟩
  · show s.heap.size - 1 < s.heap.size
    omega
  · intro k hk
    rcases hk with rfl | rfl | rfl
    · exact ⟨z1, u1⟩
    · exact ⟨z2, u2⟩
    · exact ⟨z3, u3⟩
  · show va_X b L (fun j => Int32.ofInt (kg_m xs 104 j)) s s.heap
    rw [show (fun j : Nat => Int32.ofInt (kg_m xs 104 j)) = xs from funext fun j => by show Int32.ofInt (xs (j : Int).toNat).toInt = xs j; rw [Int32.ofInt_toInt]; rfl]
    exact hX
  · show b ≤ s.heap.size - 1
    omega
  · intro w hw
    exact va_Nw.of (sx_nest_tab hw) (hts w (List.mem_filter.mp hw).1)
  · show va_T .byte (adV 0) 5 (fun j => .int (Int32.ofInt (kg_m xs 106 j))) (fun q => s.heap.size - 1 < q) s s.heap
    obtain ⟨cell, g1, g2, g3, g4, g5, g6, g7⟩ := o4
    refine ⟨cell, g1, g2, g3, g4, g5, fun j hj => ?_, g7⟩
    rw [g6 j hj]
    match j, hj with
    | 0, _ => rfl
    | 1, _ => rfl
    | 2, _ => rfl
    | 3, _ => rfl
    | 4, _ => rfl
