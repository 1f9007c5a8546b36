/-! each question, asked of both -/
def PA (L : Nat) (sc : Int → Int) (m1 m2 : Nat) (as : List kx_V) : Prop := ∀ μ, Inv sc μ → kx_cx (ke 30) m1 (kR 1 :: as) (kg L) μ (fun v1 G1 μ1 => G1 = kg L ∧ μ1 104 = sc ∧ kx_cx (ke 30) m2 (kR 77 :: as) (kg L) μ1 (fun v2 G2 μ2 => ∃ x, kx_in x ∧ v1 = some (kI x) ∧ v2 = some (kI x) ∧ G2 = kg L ∧ Inv sc μ2))
theorem IT_54 {μ μ' : kx_M} {s : Int → Int} (h : IT μ s) (F : F54 μ μ') : IT μ' s := by unfold IT at *; rw [F 77 (by omega)]; exact h
theorem kx_c1 : kx_in (-1000001) := ⟨by omega, by omega⟩
theorem kx_c2 : kx_in (-1000002) := ⟨by omega, by omega⟩
theorem kx_c3 : kx_in (-1000003) := ⟨by omega, by omega⟩
theorem F54_rf (μ : kx_M) : F54 μ μ := fun _ _ => rfl
section PQ
variable {L : Nat} {sc : Int → Int} {a b v w l i n j : Int}
theorem p_who (hv : kx_in v) : PA L sc 85 157 [kI v] := by
  intro μ I
  have I0 := I
  obtain ⟨i1, i2, i3, i4, ⟨N, T, IT0⟩, i6, i7, i8, i9, i10, i11⟩ := I
  obtain ⟨n1, n2, n3⟩ := TN_in N
  refine r_Xwho hv T N (fun a1 => ⟨rfl, i11, ?_⟩) (fun a1 a2 => ⟨rfl, i11, ?_⟩) (fun a1 a2 a3 μ1 F1 => ⟨rfl, by rw [F1 104 (by omega)]; exact i11, ?_⟩)
  · refine r_Mwho hv rfl N IT0 (fun _ => ⟨_, kx_c2, rfl, rfl, rfl, I0⟩) (fun q1 q2 => False.elim (by omega)) (fun q1 q2 q3 μ2 K => False.elim (by omega))
  · refine r_Mwho hv rfl N IT0 (fun q1 => False.elim (by omega)) (fun q1 q2 => ⟨_, kx_c1, rfl, rfl, rfl, I0⟩) (fun q1 q2 q3 μ2 K => False.elim (by omega))
  · obtain ⟨W, Z⟩ := TN_W N (Or.inl (by omega))
    refine r_Mwho (s := μ 81) hv (F1 81 (by omega)) N (IT_54 IT0 F1) (fun q1 => False.elim (by omega)) (fun q1 q2 => False.elim (by omega)) (fun q1 q2 q3 μ2 K => ⟨_, tw_go_4 W (by omega), rfl, rfl, rfl, Inv_q I0 F1 K⟩)
theorem p_ever (hv : kx_in v) : PA L sc 87 159 [kI v] := by
  intro μ I
  have I0 := I
  obtain ⟨i1, i2, i3, i4, ⟨N, T, IT0⟩, i6, i7, i8, i9, i10, i11⟩ := I
  obtain ⟨n1, n2, n3⟩ := TN_in N
  refine r_Xever hv T N (fun a1 => ⟨rfl, i11, ?_⟩) (fun a1 a2 => ⟨rfl, i11, ?_⟩) (fun a1 a2 a3 μ1 F1 => ⟨rfl, by rw [F1 104 (by omega)]; exact i11, ?_⟩)
  · refine r_Mever hv rfl N IT0 (fun _ => ⟨_, kx_c2, rfl, rfl, rfl, I0⟩) (fun q1 q2 => False.elim (by omega)) (fun q1 q2 q3 μ2 K => False.elim (by omega))
  · refine r_Mever hv rfl N IT0 (fun q1 => False.elim (by omega)) (fun q1 q2 => ⟨_, kx_c1, rfl, rfl, rfl, I0⟩) (fun q1 q2 q3 μ2 K => False.elim (by omega))
  · obtain ⟨W, Z⟩ := TN_W N (Or.inl (by omega))
    refine r_Mever (s := μ 81) hv (F1 81 (by omega)) N (IT_54 IT0 F1) (fun q1 => False.elim (by omega)) (fun q1 q2 => False.elim (by omega)) (fun q1 q2 q3 μ2 K => ⟨_, q_ever_in W _, rfl, rfl, rfl, Inv_q I0 F1 K⟩)
theorem p_round (hv : kx_in v) : PA L sc 88 161 [kI v] := by
  intro μ I
  have I0 := I
  obtain ⟨i1, i2, i3, i4, ⟨N, T, IT0⟩, i6, i7, i8, i9, i10, i11⟩ := I
  obtain ⟨n1, n2, n3⟩ := TN_in N
  refine r_Xround hv T N (fun a1 => ⟨rfl, i11, ?_⟩) (fun a1 a2 => ⟨rfl, i11, ?_⟩) (fun a1 a2 a3 μ1 F1 => ⟨rfl, by rw [F1 104 (by omega)]; exact i11, ?_⟩)
  · refine r_Mround hv rfl N IT0 (fun _ => ⟨_, kx_c2, rfl, rfl, rfl, I0⟩) (fun q1 q2 => False.elim (by omega)) (fun q1 q2 q3 μ2 K => False.elim (by omega))
  · refine r_Mround hv rfl N IT0 (fun q1 => False.elim (by omega)) (fun q1 q2 => ⟨_, kx_c1, rfl, rfl, rfl, I0⟩) (fun q1 q2 q3 μ2 K => False.elim (by omega))
  · obtain ⟨W, Z⟩ := TN_W N (Or.inl (by omega))
    refine r_Mround (s := μ 81) hv (F1 81 (by omega)) N (IT_54 IT0 F1) (fun q1 => False.elim (by omega)) (fun q1 q2 => False.elim (by omega)) (fun q1 q2 q3 μ2 K => ⟨_, q_ro_in 60 1 (by omega), rfl, rfl, rfl, Inv_q I0 F1 K⟩)
theorem p_gets (hv : kx_in v) : PA L sc 86 158 [kI v] := by
  intro μ I
  have I0 := I
  obtain ⟨i1, i2, i3, i4, ⟨N, T, IT0⟩, i6, i7, i8, i9, i10, i11⟩ := I
  obtain ⟨n1, n2, n3⟩ := TN_in N
  refine r_Xgets hv T N (fun a1 => ⟨rfl, i11, ?_⟩) (fun a1 a2 μ1 F1 => ⟨rfl, by rw [F1 104 (by omega)]; exact i11, ?_⟩)
  · exact r_Mgets hv rfl N (fun _ => ⟨_, kx_c1, rfl, rfl, rfl, I0⟩) (fun q1 q2 μ2 K => False.elim (by omega))
  · exact r_Mgets (s := μ 81) hv (F1 81 (by omega)) N (fun q1 => False.elim (by omega)) (fun q1 q2 μ2 K => ⟨_, q_gets_in 61 0 (by omega), rfl, rfl, rfl, Inv_q I0 F1 K⟩)
theorem p_by (ha : kx_in a) (hv : kx_in v) : PA L sc 91 165 [kI a, kI v] := by
  intro μ I
  have I0 := I
  obtain ⟨i1, i2, i3, i4, ⟨N, T, IT0⟩, i6, i7, i8, i9, i10, i11⟩ := I
  obtain ⟨n1, n2, n3⟩ := TN_in N
  refine r_Xby ha hv T N (fun a1 => ⟨rfl, i11, ?_⟩) (fun a1 a2 a3 a4 μ1 F1 => ⟨rfl, by rw [F1 104 (by omega)]; exact i11, ?_⟩)
  · exact r_Mby hv ha rfl N (fun _ => ⟨_, kx_c1, rfl, rfl, rfl, I0⟩) (fun q1 q2 q3 q4 μ2 K => False.elim (by omega))
  · obtain ⟨W, Z⟩ := TN_W N (Or.inl (by omega))
    exact r_Mby (s := μ 81) hv ha (F1 81 (by omega)) N (fun q1 => False.elim (by omega)) (fun q1 q2 q3 q4 μ2 K => ⟨_, tw_go_did W q1 q2 (by omega), rfl, rfl, rfl, Inv_q I0 F1 K⟩)
theorem p_winds (ha : kx_in a) (hv : kx_in v) : PA L sc 93 168 [kI a, kI v] := by
  intro μ I
  have I0 := I
  obtain ⟨i1, i2, i3, i4, ⟨N, T, IT0⟩, i6, i7, i8, i9, i10, i11⟩ := I
  obtain ⟨n1, n2, n3⟩ := TN_in N
  refine r_Xwinds ha hv T N (fun a1 => ⟨rfl, i11, ?_⟩) (fun a1 a2 a3 a4 μ1 F1 => ⟨rfl, by rw [F1 104 (by omega)]; exact i11, ?_⟩)
  · exact r_Mwinds hv ha rfl N (fun _ => ⟨_, kx_c1, rfl, rfl, rfl, I0⟩) (fun q1 q2 q3 q4 μ2 K => False.elim (by omega))
  · have hx := q_wi_in (s := μ 81) (h := a) (n := v.toNat) 6 0 0 (by omega) (by omega) (by omega) (by omega)
    exact r_Mwinds (s := μ 81) hv ha (F1 81 (by omega)) N (fun q1 => False.elim (by omega)) (fun q1 q2 q3 q4 μ2 K => ⟨_, ⟨by omega, by omega⟩, rfl, rfl, rfl, Inv_q I0 F1 K⟩)
theorem p_lot (ha : kx_in a) (hv : kx_in v) (hw : kx_in w) : PA L sc 94 169 [kI a, kI v, kI w] := by
  intro μ I
  have I0 := I
  obtain ⟨i1, i2, i3, i4, ⟨N, T, IT0⟩, i6, i7, i8, i9, i10, i11⟩ := I
  obtain ⟨n1, n2, n3⟩ := TN_in N
  refine r_Xlot ha hv hw T N (fun a1 => ⟨rfl, i11, ?_⟩) (fun a1 a2 a3 a4 a5 a6 μ1 F1 => ⟨rfl, by rw [F1 104 (by omega)]; exact i11, ?_⟩)
  · exact r_Mlot hv ha hw rfl N (fun _ => ⟨_, kx_c1, rfl, rfl, rfl, I0⟩) (fun q1 q2 q3 q4 q5 q6 μ2 K => False.elim (by omega))
  · have hx := q_wi_in (s := μ 81) (h := a) (n := v.toNat) 6 0 0 (by omega) (by omega) (by omega) (by omega)
    have hp := q_pc_in hx.1 hx.2
    exact r_Mlot (s := μ 81) hv ha hw (F1 81 (by omega)) N (fun q1 => False.elim (by omega)) (fun q1 q2 q3 q4 q5 q6 μ2 K => ⟨_, lot_in hp.1 hp.2, rfl, rfl, rfl, Inv_q I0 F1 K⟩)
theorem p_done (hv : kx_in v) : PA L sc 89 163 [kI v] := by
  intro μ I
  have I0 := I
  obtain ⟨i1, i2, i3, i4, ⟨N, T, IT0⟩, i6, i7, i8, i9, i10, i11⟩ := I
  obtain ⟨n1, n2, n3⟩ := TN_in N
  refine r_Xdone hv T N (fun a1 => ⟨rfl, i11, ?_⟩) (fun a1 a2 x μ1 hx F1 => ⟨rfl, by rw [F1 104 (by omega)]; exact i11, ?_⟩)
  · exact r_Mdone hv rfl N (fun _ => ⟨_, kx_c1, rfl, rfl, rfl, I0⟩) (fun q1 q2 y μ2 hy K => False.elim (by omega))
  · obtain ⟨W, Z⟩ := TN_W N (Or.inr (by omega))
    exact r_Mdone (s := μ 81) hv (F1 81 (by omega)) N (fun q1 => False.elim (by omega)) (fun q1 q2 y μ2 hy K => ⟨x, q_done_in W q1 q2 hx, rfl, by rw [q_done_u hx hy], rfl, Inv_q I0 F1 K⟩)
theorem p_first : PA L sc 90 164 [] := by
  intro μ I
  have I0 := I
  obtain ⟨i1, i2, i3, i4, ⟨N, T, IT0⟩, i6, i7, i8, i9, i10, i11⟩ := I
  obtain ⟨n1, n2, n3⟩ := TN_in N
  refine r_Xfirst T N (fun a1 => ⟨rfl, i11, ?_⟩) (fun a1 x l μ1 hx F1 => ⟨rfl, by rw [F1 104 (by omega)]; exact i11, ?_⟩)
  · exact r_Mfirst rfl N IT0 (fun _ => ⟨_, kx_c2, rfl, rfl, rfl, I0⟩) (fun q1 y l μ2 hy K => False.elim (by omega))
  · exact r_Mfirst (s := μ 81) (F1 81 (by omega)) N (IT_54 IT0 F1) (fun q1 => False.elim (by omega)) (fun q1 y l' μ2 hy K => ⟨x, q_min_in (by omega) hx, rfl, by rw [(q_min_u hx hy).1], rfl, Inv_q I0 F1 K⟩)
theorem p_toGive (hv : kx_in v) (hw : kx_in w) : PA L sc 92 166 [kI v, kI w] := by
  intro μ I
  have I0 := I
  obtain ⟨i1, i2, i3, i4, ⟨N, T, IT0⟩, i6, i7, i8, i9, i10, i11⟩ := I
  obtain ⟨n1, n2, n3⟩ := TN_in N
  refine r_XtoGive hv hw T N (fun a1 => ⟨rfl, i11, ?_⟩) (fun a1 a2 a3 a4 a5 => ⟨rfl, i11, ?_⟩) (fun a1 a2 a3 a4 a5 x μ1 hx F1 => ⟨rfl, by rw [F1 104 (by omega)]; exact i11, ?_⟩)
  · exact r_MtoGive hv hw rfl N (fun _ => ⟨_, kx_c1, rfl, rfl, rfl, I0⟩) (fun q1 q2 q3 q4 q5 => False.elim (by omega)) (fun q1 q2 q3 q4 q5 y μ2 hy K => False.elim (by omega))
  · exact r_MtoGive hv hw rfl N (fun q1 => False.elim (by omega)) (fun q1 q2 q3 q4 q5 => ⟨_, kx_c2, rfl, rfl, rfl, I0⟩) (fun q1 q2 q3 q4 q5 y μ2 hy K => False.elim (by omega))
  · exact r_MtoGive (s := μ 81) hv hw (F1 81 (by omega)) N (fun q1 => False.elim (by omega)) (fun q1 q2 q3 q4 q5 => False.elim (by omega)) (fun q1 q2 q3 q4 q5 y μ2 hy K => ⟨x, q_tg_in (by omega) hx, rfl, by rw [q_tg_u hx hy], rfl, Inv_q I0 F1 K⟩)
theorem p_head (hv : kx_in v) (hw : kx_in w) : PA L sc 82 150 [kI v, kI w] := by
  intro μ I
  have I0 := I
  obtain ⟨i1, i2, i3, i4, ⟨N, T, IT0⟩, i6, i7, i8, i9, i10, i11⟩ := I
  obtain ⟨n1, n2, n3⟩ := TN_in N
  refine r_Xhead hv hw T N (fun a1 => ⟨rfl, i11, ?_⟩) (fun a1 a2 => ⟨rfl, i11, ?_⟩)
  · exact r_Mhead hv hw rfl N (fun _ => ⟨_, kx_c1, rfl, rfl, rfl, I0⟩) (fun q1 q2 => False.elim (by omega))
  · obtain ⟨W, Z⟩ := TN_W N (Or.inl (by omega))
    exact r_Mhead hv hw rfl N (fun q1 => False.elim (by omega)) (fun q1 q2 => ⟨_, q_hd_in W q1 q2, rfl, rfl, rfl, I0⟩)
theorem p_orderHas (hv : kx_in v) (hw : kx_in w) : PA L sc 83 151 [kI v, kI w] := by
  intro μ I
  have I0 := I
  obtain ⟨i1, i2, i3, i4, ⟨N, T, IT0⟩, i6, i7, i8, i9, i10, i11⟩ := I
  obtain ⟨n1, n2, n3⟩ := TN_in N
  refine r_XorderHas hv hw T N (fun a1 => ⟨rfl, i11, ?_⟩) (fun a1 a2 => ⟨rfl, i11, ?_⟩)
  · exact r_MorderHas hv hw rfl N (fun _ => ⟨_, kx_c1, rfl, rfl, rfl, I0⟩) (fun q1 q2 => False.elim (by omega))
  · obtain ⟨W, Z⟩ := TN_W N (Or.inr (by omega))
    exact r_MorderHas hv hw rfl N (fun q1 => False.elim (by omega)) (fun q1 q2 => ⟨_, q_oh_in W q1 q2, rfl, rfl, rfl, I0⟩)
theorem p_hat (hw : kx_in w) : PA L sc 84 152 [kI w] := by
  intro μ I
  have I0 := I
  obtain ⟨i1, i2, i3, i4, ⟨N, T, IT0⟩, i6, i7, i8, i9, i10, i11⟩ := I
  obtain ⟨n1, n2, n3⟩ := TN_in N
  refine r_Xhat hw T N (fun a1 => ⟨rfl, i11, ?_⟩) (fun a1 => ⟨rfl, i11, ?_⟩)
  · exact r_Mhat hw rfl IT0 (fun _ => ⟨_, kx_c2, rfl, rfl, rfl, I0⟩) (fun q1 => False.elim (by omega))
  · obtain ⟨W, Z⟩ := TN_W N (Or.inl (by omega))
    exact r_Mhat hw rfl IT0 (fun q1 => False.elim (by omega)) (fun q1 => ⟨_, q_ht_in W, rfl, rfl, rfl, I0⟩)
theorem p_fault : PA L sc 75 136 [] := by
  intro μ I
  have I0 := I
  obtain ⟨i1, i2, i3, i4, ⟨N, T, IT0⟩, i6, i7, i8, i9, i10, i11⟩ := I
  obtain ⟨n1, n2, n3⟩ := TN_in N
  refine r_Xfault ⟨rfl, i11, ?_⟩
  refine r_Mfault ⟨μ 77 9, i4.2, ?_, rfl, rfl, I0⟩
  rw [i4.1]
theorem p_status : PA L sc 104 190 [] := by
  intro μ I
  have I0 := I
  obtain ⟨i1, i2, i3, i4, ⟨N, T, IT0⟩, i6, i7, i8, i9, i10, i11⟩ := I
  obtain ⟨n1, n2, n3⟩ := TN_in N
  refine r_Xstatus ⟨rfl, i11, ?_⟩
  refine r_Mstatus ⟨μ 77 3, i2.2, ?_, rfl, rfl, I0⟩
  rw [i2.1]
theorem p_kind (hv : kx_in v) : PA L sc 99 176 [kI v] := by
  intro μ I
  have I0 := I
  obtain ⟨i1, i2, i3, i4, ⟨N, T, IT0⟩, i6, i7, i8, i9, i10, i11⟩ := I
  obtain ⟨n1, n2, n3⟩ := TN_in N
  refine r_Xkind hv T N (fun a1 => ⟨rfl, i11, ?_⟩) (fun a1 a2 => ⟨rfl, i11, ?_⟩)
  · exact r_Mkind hv rfl N (fun _ => ⟨_, kx_c1, rfl, rfl, rfl, I0⟩) (fun q1 q2 => False.elim (by omega))
  · obtain ⟨W, Z⟩ := TN_W N (Or.inl (by omega))
    have w7 := W.2.2.2.2.2.2.1 v a1 a2
    exact r_Mkind hv rfl N (fun q1 => False.elim (by omega)) (fun q1 q2 => ⟨_, ⟨by omega, by omega⟩, rfl, rfl, rfl, I0⟩)
theorem p_count (hw : kx_in w) : PA L sc 103 189 [kI w] := by
  intro μ I
  have I0 := I
  obtain ⟨i1, i2, i3, i4, ⟨N, T, IT0⟩, i6, i7, i8, i9, i10, i11⟩ := I
  obtain ⟨n1, n2, n3⟩ := TN_in N
  obtain ⟨j1, h, j2, j3⟩ := i6
  refine r_Xcount (f := μ 79) (m := μ 77 17) (k := μ 77 8) hw T N (fun i hi => (i1 i hi).1.2) (fun i hi => (i1 i hi).2.2.1) j2.1 i3.1 ⟨rfl, i11, ?_⟩
  refine r_Mcount (f := μ 79) (m := μ 77 17) (k := μ 77 8) hw rfl N rfl (fun i i0 i1' => ?_) rfl rfl ⟨_, q_ct_in N j2.2.1 i3.2.1, rfl, rfl, rfl, I0⟩
  have := (i1 i.toNat (by omega)).2.2.1
  rw [show ((i.toNat : Nat) : Int) = i by omega] at this
  exact this
theorem p_trace (hv : kx_in v) : PA L sc 102 188 [kI v] := by
  intro μ I
  have I0 := I
  obtain ⟨i1, i2, i3, i4, ⟨N, T, IT0⟩, i6, i7, i8, i9, i10, i11⟩ := I
  obtain ⟨n1, n2, n3⟩ := TN_in N
  obtain ⟨j1, j2, j3⟩ := i8
  refine r_Xtrace hv (by rw [j1]; exact j2) (fun a1 => ⟨rfl, i11, ?_⟩) (fun a1 a2 => ⟨rfl, i11, ?_⟩)
  · exact r_Mtrace hv j2 (fun q1 => ⟨_, ⟨by omega, by omega⟩, rfl, rfl, rfl, I0⟩) (fun q1 q2 => False.elim (by omega))
  · exact r_Mtrace hv j2 (fun q1 => False.elim (by omega)) (fun q1 q2 => ⟨_, (j3 v q1 q2).2, by rw [(j3 v q1 q2).1], rfl, rfl, I0⟩)
theorem p_as (hv : kx_in v) (hw : kx_in w) : PA L sc 100 178 [kI v, kI w] := by
  intro μ I
  have I0 := I
  obtain ⟨i1, i2, i3, i4, ⟨N, T, IT0⟩, i6, i7, i8, i9, i10, i11⟩ := I
  obtain ⟨n1, n2, n3⟩ := TN_in N
  refine r_Xas hv hw i9 T N (fun a1 => ⟨rfl, i11, ?_⟩) (fun a1 a2 a3 a4 a5 => ⟨rfl, by rw [kx_up_row (by omega)]; exact i11, ?_⟩) (fun a1 a2 a3 a4 a5 => ⟨rfl, by rw [kx_up_row (by omega)]; exact i11, ?_⟩)
  · exact r_Mas hv hw rfl N (fun _ => ⟨_, kx_c1, rfl, rfl, rfl, I0⟩) (fun q1 q2 q3 q4 q5 => False.elim (by omega)) (fun q1 q2 q3 q4 q5 => False.elim (by omega))
  · exact r_Mas (s := μ 81) hv hw (kx_up_row (by omega)) N (fun q1 => False.elim (by omega)) (fun q1 q2 q3 q4 q5 => ⟨_, ⟨by omega, by omega⟩, rfl, rfl, rfl, Inv_st I0 ⟨by omega, by omega⟩⟩) (fun q1 q2 q3 q4 q5 => absurd q5 a5)
  · exact r_Mas (s := μ 81) hv hw (kx_up_row (by omega)) N (fun q1 => False.elim (by omega)) (fun q1 q2 q3 q4 q5 => absurd a5 q5) (fun q1 q2 q3 q4 q5 => ⟨_, ⟨by omega, by omega⟩, rfl, rfl, rfl, Inv_st I0 ⟨by omega, by omega⟩⟩)
theorem p_ask (hv : kx_in v) (hw : kx_in w) : PA L sc 101 187 [kI v, kI w] := by
  intro μ I
  have I0 := I
  obtain ⟨i1, i2, i3, i4, ⟨N, T, IT0⟩, i6, i7, i8, i9, i10, i11⟩ := I
  obtain ⟨n1, n2, n3⟩ := TN_in N
  refine r_Xask hv hw i9 T N (fun a1 => ⟨rfl, i11, ?_⟩) (fun a1 a2 a3 a4 μ1 A1 F1 => ⟨rfl, by rw [F1 104 (by omega) (by omega)]; exact i11, ?_⟩)
  · exact r_Mask hv hw rfl N (fun _ => ⟨_, kx_c1, rfl, rfl, rfl, I0⟩) (fun q1 q2 q3 q4 μ2 A2 F2 => False.elim (by omega))
  · obtain ⟨W, Z⟩ := TN_W N (Or.inl (by omega))
    refine r_Mask (s := μ 81) hv hw (F1 81 (by omega) (by omega)) N (fun q1 => False.elim (by omega)) (fun q1 q2 q3 q4 μ2 A2 F2 => ⟨_, ?_, rfl, rfl, rfl, ?_⟩)
    · have b1 := q_mv_in W q1 q2
      have b2 := q_sv_in W q1 q2
      split
      · exact ⟨by omega, by omega⟩
      · exact ⟨by omega, by omega⟩
    · have f : ∀ c, c ≠ 55 → c ≠ 56 → c ≠ 77 → c ≠ 90 → μ2 c = μ c := fun c c1 c2 c3 c4 => by rw [F2.2 c c3 c4, F1 c c1 c2]
      have f7 : ∀ j, j ≠ 23 → μ2 77 j = μ 77 j := fun j hj => by rw [F2.1 j hj, F1 77 (by omega) (by omega)]
      have hl := q_l_in (μ 81 (6 + v))
      refine ⟨I_rw_fr i1 (fun c hc => f c (by omega) (by omega) (by omega) (by omega)), ?_, ?_, ?_, ?_, ?_, ?_, ?_, ?_, ?_, ?_⟩
      · unfold I_st at *; rw [f 1 (by omega) (by omega) (by omega) (by omega), f7 3 (by omega)]; exact i2
      · exact I_tp_fr i3 (by rw [f 19 (by omega) (by omega) (by omega) (by omega)]) (f7 8 (by omega)) (f 20 (by omega) (by omega) (by omega) (by omega)) (f 83 (by omega) (by omega) (by omega) (by omega))
      · unfold I_ft at *; rw [f 1 (by omega) (by omega) (by omega) (by omega), f7 9 (by omega)]; exact i4
      · exact I_tw_fr ⟨N, T, IT0⟩ (f 81 (by omega) (by omega) (by omega) (by omega)) (f7 4 (by omega)) (fun c a b => f c (by omega) (by omega) (by omega) (by omega))
      · exact I_ac_fr i6 (f 81 (by omega) (by omega) (by omega) (by omega)) (f7 17 (by omega)) (f 85 (by omega) (by omega) (by omega) (by omega)) (fun c a b => f c (by omega) (by omega) (by omega) (by omega))
      · exact I_im_fr i7 (f 88 (by omega) (by omega) (by omega) (by omega)) (f 89 (by omega) (by omega) (by omega) (by omega)) (f7 4 (by omega)) (fun c a b => f c (by omega) (by omega) (by omega) (by omega))
      · have hlen : ∀ l : List Int, AK μ1 56 55 1 l → AK μ2 90 77 23 l → (∀ i : Nat, kx_in (l.getD i 0)) → l.length ≤ 16 → I_tr μ2 := by
          intro l A B hb hn
          have g5 : μ2 55 = μ1 55 := F2.2 55 (by omega) (by omega)
          have g6 : μ2 56 = μ1 56 := F2.2 56 (by omega) (by omega)
          refine ⟨by rw [g5, A.1, B.1], by rw [B.1]; omega, fun i i0 i1 => ?_⟩
          rw [B.1] at i1
          have e1 := A.2 i.toNat (by omega)
          have e2 := B.2 i.toNat (by omega)
          rw [show ((i.toNat : Nat) : Int) = i by omega] at e1 e2
          rw [g6, e1, e2]
          exact ⟨rfl, hb _⟩
        by_cases ew : w = 0
        · rw [if_pos ew] at A1 A2
          exact hlen _ A1 A2 hl.1 hl.2.2.1
        · rw [if_neg ew] at A1 A2
          exact hlen _ A1 A2 hl.2.1 hl.2.2.2
      · exact TB_fr i9 (fun c hc => f c (by omega) (by omega) (by omega) (by omega))
      · rw [f 84 (by omega) (by omega) (by omega) (by omega)]; exact i10
      · rw [f 104 (by omega) (by omega) (by omega) (by omega)]; exact i11
end PQ
