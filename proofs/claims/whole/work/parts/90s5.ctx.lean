/-! what holds in a method: the tables' words, the outer cells -/
def sx_tb : List Jvm.Cond := lw_tbl.filter goodWord
theorem sx_good : ∀ w ∈ sx_tb, w ∈ lw_tbl ∧ goodWord w = true := fun w h => List.mem_filter.mp h
def sx_tys (Z : sx_Z) : List (ClassId × FieldType) := [(Z.2.2 2, .int), (Z.2.2 3, .long), (Z.2.2 4, .boolean), (Z.2.2 5, .object "HatOrders$Row"), (Z.2.2 6, .object "HatOrders$Town")]
def sx_nests : List Jvm.Cond := lw_tbl.filter (fun w => match w with
  | .methodLinkNest _ _ _ _ => true
  | _ => false)
def sx_stn (k : Nat) : String := if k = 101 then "WIDER" else if k = 102 then "SIZE_BODIES" else "MARK_BODIES"
/-- the outer cells: three static tables, the script, the text -/
def sx_ext (Z : sx_Z) (D : va_G) (L : Nat) (μ0 : kx_M) (U : State) : Prop :=
  va_K D sx_cls (sx_tys Z) U ∧ Z.1 < U.heap.size ∧
  (∀ k, k = 101 ∨ k = 102 ∨ k = 103 → va_Z "HatOrders$Kinds" (sx_stn k) "[I" (.ref (Z.2.1 k)) (fun q => Z.1 < q) U U.heap ∧ va_T .int (Z.2.1 k) 6 (fun j => .int (Int32.ofInt (μ0 k j))) (fun q => Z.1 < q) U U.heap) ∧
  (va_X (Z.2.1 104) L (fun j => Int32.ofInt (μ0 104 j)) U U.heap ∧ Z.2.1 104 ≤ Z.1) ∧ L ≤ 5000 ∧
  (∀ w ∈ sx_nests, va_Nw w U) ∧ va_AO "HatOrders$Row" U ∧ va_AO "HatOrders$Town" U ∧
  (vk_R "HatOrders$Kinds" 9 "fstwb" (Z.2.1 105) U ∧ va_O "java/lang/String" (Z.2.1 105) (fun q => Z.1 < q) U U.heap ∧ va_OF "java/lang/String" "coder" "B" (.int 0) (Z.2.1 105) (fun q => Z.1 < q) U U.heap ∧ va_OF "java/lang/String" "value" "[B" (.ref (Z.2.1 106)) (Z.2.1 105) (fun q => Z.1 < q) U U.heap ∧ va_T .byte (Z.2.1 106) 5 (fun j => .int (Int32.ofInt (μ0 106 j))) (fun q => Z.1 < q) U U.heap ∧ va_Z "java/lang/String" "COMPACT_STRINGS" "Z" (.int 1) (fun q => Z.1 < q) U U.heap)
theorem sx_nest_warm {w : Jvm.Cond} (hw : w ∈ sx_nests) {s U : State} (hW : s.WarmedH U.vm) (h : va_Nw w s) : va_Nw w U := by
  have h1 := (List.mem_filter.mp hw).2
  cases w <;> first | (simp at h1; done) | exact va_Nw.warmM hW h
/-- outer cells stay, where the heap below is as it was -/
theorem sx_ext_moved {Z : sx_Z} {D : va_G} {L : Nat} {μ0 : kx_M} {s U : State} (h : sx_ext Z D L μ0 s) (hW : s.WarmedH U.vm) (hs : s.heap.size ≤ U.heap.size) (hq : ∀ q : Nat, q < s.heap.size → ¬ Z.1 < q → U.heap[q]? = s.heap[q]?) : sx_ext Z D L μ0 U := by
  obtain ⟨h1, h2, h3, ⟨h4, h5⟩, h6, h7, h8, h9, t1, t2, t3, t4, t5, t6⟩ := h
  refine ⟨h1.moved hW.alike, by omega, fun k hk => ?_, ⟨?_, h5⟩, h6, fun w hw => sx_nest_warm hw hW (h7 w hw), h8.moved hW.alike, h9.moved hW.alike, t1.warm hW, (t2.kept hq).moved hW.alike, (t3.kept hq).moved hW.alike, (t4.kept hq).moved hW.alike, (t5.kept hq).moved hW.alike, (t6.kept hq).moved hW.alike⟩
  · obtain ⟨g1, g2⟩ := h3 k hk
    exact ⟨(g1.kept hq).moved hW.alike, (g2.kept hq).moved hW.alike⟩
  · exact (h4.kept (hq _ (by omega) (by omega))).moved hW.alike
def sx_C (p : Program) (s : State) (m : MethodId) (args : Array Value) (c : Code) (cc : ByteArray) (nL : Nat) (own : String) (Z : sx_Z) (D : va_G) (L : Nat) (μ0 : kx_M) : Prop :=
  p.tables.exec = Jvm.exec ∧ c.code = cc ∧ c.maxLocals = nL ∧ s.vm.findClass own = some m.cls ∧ (∀ w ∈ sx_tb, w.before args s = true) ∧ sx_ext Z D L μ0 s
def sx_at (p : Program) (l : Launch) (e : Env) (R : Room) (s : State) (m : MethodId) (args : Array Value) (below : List Frame) (meth : Method) (c : Code) (nL : Nat) (Z : sx_Z) (D : va_G) (L : Nat) (μ0 : kx_M) (n0 s0 : Nat) (Qf : State → Prop) (pc : Nat) (ls : kx_L) (st : List kx_V) (G : kx_G) (μ : kx_M) : Prop :=
  ∀ (H : Heap) (locs : List Loc) (lsA : Array Slot), sx_rel Z D L μ0 G μ H → va_S (fun q => Z.1 < q) s.heap H locs → sx_lv Z lsA nL ls → n0 ≤ G.2.1 → s0 ≤ sx_sl G → W p l e R s m args below meth c H locs (G.2.1 - n0) (sx_sl G - s0) Qf (F0 m pc lsA (st.map (sx_c Z)))
