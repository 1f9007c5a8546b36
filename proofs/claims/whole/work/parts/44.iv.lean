/-! what holds between calls -/
def I_rw (μ : kx_M) : Prop := ∀ r : Nat, r < 8 → (μ (3 + 2 * r) 1 = μ 78 r ∧ μ (3 + 2 * r) 2 = μ 79 r) ∧ (0 ≤ μ 78 r ∧ μ 78 r ≤ 2) ∧ (-1 ≤ μ 79 r ∧ μ 79 r ≤ 40) ∧ ∀ i, 0 ≤ i → i < 40 → μ (3 + 2 * r + 1) i = μ 80 (40 * r + i) ∧ kx_in (μ 80 (40 * r + i))
def I_st (μ : kx_M) : Prop := μ 1 10 = μ 77 3 ∧ kx_in (μ 77 3)
def I_tp (μ : kx_M) : Prop := μ 19 1 = μ 77 8 ∧ (0 ≤ μ 77 8 ∧ μ 77 8 ≤ 120) ∧ μ 20 = μ 83 ∧ ∀ i, 0 ≤ μ 83 i ∧ μ 83 i ≤ 255
def I_ft (μ : kx_M) : Prop := μ 1 9 = μ 77 9 ∧ kx_in (μ 77 9)
def I_tw (μ : kx_M) : Prop := TN (μ 81) ∧ TR μ 30 (μ 81) ∧ IT μ (μ 81)
def I_ac (μ : kx_M) : Prop := (μ 81 1 = 0 → μ 77 17 = 0) ∧ ∃ h, RC μ (μ 77 17) h (μ 81) ∧ RM μ (μ 77 17) h
/-- image k, as the reference keeps it -/
def im (μ : kx_M) (k : Int) : Int → Int := fun j => if 0 ≤ j ∧ j < 46 then μ 89 (46 * k + j) else 0
def I_im (μ : kx_M) : Prop := ∀ k, 0 ≤ k → k ≤ 1 → μ 76 k = μ 88 k ∧ (0 ≤ μ 88 k ∧ μ 88 k ≤ 1) ∧ (μ 88 k = 1 → (tw_W 999 (im μ k) ∧ TR μ (58 + 9 * k.toNat) (im μ k)) ∧ μ 77 4 = 1)
def I_tr (μ : kx_M) : Prop := μ 55 1 = μ 77 23 ∧ (0 ≤ μ 77 23 ∧ μ 77 23 ≤ 16) ∧ ∀ i, 0 ≤ i → i < μ 77 23 → μ 56 i = μ 90 i ∧ kx_in (μ 90 i)
def Inv (sc : Int → Int) (μ : kx_M) : Prop := I_rw μ ∧ I_st μ ∧ I_tp μ ∧ I_ft μ ∧ I_tw μ ∧ I_ac μ ∧ I_im μ ∧ I_tr μ ∧ TB μ ∧ tw_Z (μ 84) ∧ μ 104 = sc
theorem I_rw_fr {μ μ' : kx_M} (h : I_rw μ) (f : ∀ c, 3 ≤ c ∧ c ≤ 18 ∨ 78 ≤ c ∧ c ≤ 80 → μ' c = μ c) : I_rw μ' := by
  intro r hr
  rw [f (3 + 2 * r) (by omega), f (3 + 2 * r + 1) (by omega), f 78 (by omega), f 79 (by omega), f 80 (by omega)]
  exact h r hr
theorem I_tp_fr {μ μ' : kx_M} (h : I_tp μ) (f1 : μ' 19 1 = μ 19 1) (f2 : μ' 77 8 = μ 77 8) (f3 : μ' 20 = μ 20) (f4 : μ' 83 = μ 83) : I_tp μ' := by
  unfold I_tp at *
  rw [f1, f2, f3, f4]; exact h
theorem I_tw_fr {μ μ' : kx_M} (h : I_tw μ) (f1 : μ' 81 = μ 81) (f2 : μ' 77 4 = μ 77 4) (f : ∀ c, 30 ≤ c → c ≤ 38 → μ' c = μ c) : I_tw μ' := by
  obtain ⟨a, b, c⟩ := h
  refine ⟨by rw [f1]; exact a, ?_, ?_⟩
  · rw [f1]; exact TR_fr b (fun c c0 c1 => f c c0 (by omega))
  · unfold IT at *; rw [f1, f2]; exact c
theorem I_ac_fr {μ μ' : kx_M} (h : I_ac μ) (f1 : μ' 81 = μ 81) (f2 : μ' 77 17 = μ 77 17) (f3 : μ' 85 = μ 85) (f : ∀ c, 39 ≤ c → c ≤ 43 → μ' c = μ c) : I_ac μ' := by
  obtain ⟨a, hh, b, c⟩ := h
  refine ⟨by rw [f1, f2]; exact a, hh, ?_, ?_⟩
  · rw [f1, f2]; exact RC_fr b f
  · rw [f2]; exact RM_fr c f2 f3
theorem I_im_fr {μ μ' : kx_M} (h : I_im μ) (f2 : μ' 88 = μ 88) (f3 : μ' 89 = μ 89) (f4 : μ' 77 4 = μ 77 4) (f : ∀ c, 58 ≤ c → c ≤ 76 → μ' c = μ c) : I_im μ' := by
  intro k k0 k1
  have e : im μ' k = im μ k := by unfold im; rw [f3]
  obtain ⟨a, b, c⟩ := h k k0 k1
  rw [e, f2, f4, f 76 (by omega) (by omega)]
  exact ⟨a, b, fun q => ⟨⟨(c q).1.1, TR_fr (c q).1.2 (fun x x0 x1 => f x (by omega) (by omega))⟩, (c q).2⟩⟩
theorem I_tr_fr {μ μ' : kx_M} (h : I_tr μ) (f1 : μ' 55 = μ 55) (f2 : μ' 77 23 = μ 77 23) (f3 : μ' 56 = μ 56) (f4 : μ' 90 = μ 90) : I_tr μ' := by
  unfold I_tr at *
  rw [f1, f2, f3, f4]; exact h
/-- all but the status, and what is scratch, is as it was -/
theorem Inv_gen {sc : Int → Int} {μ μ' : kx_M} (I : Inv sc μ) (f : ∀ c, c ≠ 1 → c ≠ 77 → c < 45 ∨ 54 < c → c ≠ 86 → c ≠ 87 → μ' c = μ c) (f1 : ∀ j, j ≠ 10 → μ' 1 j = μ 1 j) (f7 : ∀ j, j ≠ 3 → μ' 77 j = μ 77 j) (h : μ' 1 10 = μ' 77 3) (hi : kx_in (μ' 77 3)) : Inv sc μ' := by
  obtain ⟨i1, i2, i3, i4, i5, i6, i7, i8, i9, i10, i11⟩ := I
  refine ⟨I_rw_fr i1 (fun c hc => f c (by omega) (by omega) (by omega) (by omega) (by omega)), ⟨h, hi⟩, ?_, ?_, ?_, ?_, ?_, ?_, ?_, ?_, ?_⟩
  · exact I_tp_fr i3 (by rw [f 19 (by omega) (by omega) (by omega) (by omega) (by omega)]) (f7 8 (by omega)) (f 20 (by omega) (by omega) (by omega) (by omega) (by omega)) (f 83 (by omega) (by omega) (by omega) (by omega) (by omega))
  · unfold I_ft at *; rw [f1 9 (by omega), f7 9 (by omega)]; exact i4
  · exact I_tw_fr i5 (f 81 (by omega) (by omega) (by omega) (by omega) (by omega)) (f7 4 (by omega)) (fun c a b => f c (by omega) (by omega) (by omega) (by omega) (by omega))
  · exact I_ac_fr i6 (f 81 (by omega) (by omega) (by omega) (by omega) (by omega)) (f7 17 (by omega)) (f 85 (by omega) (by omega) (by omega) (by omega) (by omega)) (fun c a b => f c (by omega) (by omega) (by omega) (by omega) (by omega))
  · exact I_im_fr i7 (f 88 (by omega) (by omega) (by omega) (by omega) (by omega)) (f 89 (by omega) (by omega) (by omega) (by omega) (by omega)) (f7 4 (by omega)) (fun c a b => f c (by omega) (by omega) (by omega) (by omega) (by omega))
  · exact I_tr_fr i8 (f 55 (by omega) (by omega) (by omega) (by omega) (by omega)) (f7 23 (by omega)) (f 56 (by omega) (by omega) (by omega) (by omega) (by omega)) (f 90 (by omega) (by omega) (by omega) (by omega) (by omega))
  · exact TB_fr i9 (fun c hc => f c (by omega) (by omega) (by omega) (by omega) (by omega))
  · rw [f 84 (by omega) (by omega) (by omega) (by omega) (by omega)]; exact i10
  · rw [f 104 (by omega) (by omega) (by omega) (by omega) (by omega)]; exact i11
/-- a question: only scratch is written -/
theorem Inv_q {sc : Int → Int} {μ μ1 μ2 : kx_M} (I : Inv sc μ) (F : F54 μ μ1) (K : FrQ μ1 μ2) : Inv sc μ2 := by
  have e1 : μ2 1 = μ 1 := by rw [K 1 (by omega) (by omega), F 1 (by omega)]
  have e7 : μ2 77 = μ 77 := by rw [K 77 (by omega) (by omega), F 77 (by omega)]
  refine Inv_gen I (fun c _ _ a b d => by rw [K c b d, F c a]) (fun j _ => by rw [e1]) (fun j _ => by rw [e7]) ?_ ?_
  · rw [e1, e7]; exact I.2.1.1
  · rw [e7]; exact I.2.1.2
/-- a finding -/
theorem Inv_st {sc : Int → Int} {μ : kx_M} {v : Int} (I : Inv sc μ) (hv : kx_in v) : Inv sc (kx_up (kx_up μ 1 10 v) 77 3 v) := by
  refine Inv_gen I (fun c a b _ _ _ => by rw [kx_up_row b, kx_up_row a]) (fun j hj => by rw [kx_up_row (by omega), kx_up_oth hj]) (fun j hj => by rw [kx_up_oth hj, kx_up_row (by omega)]) ?_ ?_
  · rw [kx_up_self, kx_up_row (by omega), kx_up_self]
  · rw [kx_up_self]; exact hv
/-- an act -/
theorem Inv_act {sc : Int → Int} {μ μ1 μ2 : kx_M} {m : Int} {h : Int → Int → Int} {s' : Int → Int} (I : Inv sc μ) (F : FrX μ μ1) (K : FrM μ1 μ2) (W : tw_W 999 s') (Z : tw_Z s') (h1 : 1 ≤ μ 81 1) (e81 : μ2 81 = s') (T : TR μ1 30 s') (C : RC μ1 m h s') (M : RM μ2 m h) : Inv sc μ2 := by
  obtain ⟨i1, i2, i3, i4, i5, i6, i7, i8, i9, i10, i11⟩ := I
  have f : ∀ c, c < 30 ∨ 43 < c → c ≠ 77 → c ≠ 81 → c ≠ 85 → μ2 c = μ c := fun c a b d e => by rw [K.2 c b d e, F c a]
  have f7 : ∀ j, j ≠ 17 → μ2 77 j = μ 77 j := fun j hj => by rw [K.1 j hj, F 77 (by omega)]
  have e17 : μ2 77 17 = m := M.1
  refine ⟨I_rw_fr i1 (fun c hc => f c (by omega) (by omega) (by omega) (by omega)), ?_, ?_, ?_, ?_, ?_, ?_, ?_, ?_, ?_, ?_⟩
  · unfold I_st at *; rw [f 1 (by omega) (by omega) (by omega) (by omega), f7 3 (by omega)]; exact i2
  · exact I_tp_fr i3 (by rw [f 19 (by omega) (by omega) (by omega) (by omega)]) (f7 8 (by omega)) (f 20 (by omega) (by omega) (by omega) (by omega)) (f 83 (by omega) (by omega) (by omega) (by omega))
  · unfold I_ft at *; rw [f 1 (by omega) (by omega) (by omega) (by omega), f7 9 (by omega)]; exact i4
  · refine ⟨by rw [e81]; exact Or.inr ⟨W, Z⟩, ?_, ?_⟩
    · rw [e81]; exact TR_fr T (fun c a b => K.2 c (by omega) (by omega) (by omega))
    · have := i5.2.2
      unfold IT at *
      rw [e81, f7 4 (by omega)]
      have w1 := W.1
      omega
  · refine ⟨fun q => ?_, h, ?_, ?_⟩
    · rw [e81] at q
      have w1 := W.1
      omega
    · rw [e81, e17]; exact RC_fr C (fun c a b => K.2 c (by omega) (by omega) (by omega))
    · rw [e17]; exact M
  · exact I_im_fr i7 (f 88 (by omega) (by omega) (by omega) (by omega)) (f 89 (by omega) (by omega) (by omega) (by omega)) (f7 4 (by omega)) (fun c a b => f c (by omega) (by omega) (by omega) (by omega))
  · exact I_tr_fr i8 (f 55 (by omega) (by omega) (by omega) (by omega)) (f7 23 (by omega)) (f 56 (by omega) (by omega) (by omega) (by omega)) (f 90 (by omega) (by omega) (by omega) (by omega))
  · exact TB_fr i9 (fun c hc => f c (by omega) (by omega) (by omega) (by omega))
  · rw [f 84 (by omega) (by omega) (by omega) (by omega)]; exact i10
  · rw [f 104 (by omega) (by omega) (by omega) (by omega)]; exact i11
/-! bounds of answers -/
theorem q_gets_in {s : Int → Int} {h : Int} : ∀ r n : Nat, n + r ≤ 61 → kx_in (q_gets s h r n) := by
  intro r
  induction r with
  | zero => intro n _; exact ⟨by simp only [q_gets]; omega, by simp only [q_gets]; omega⟩
  | succ r ih =>
    intro n hn
    rw [q_gets]
    split
    · exact ⟨by omega, by omega⟩
    · exact ih (n + 1) (by omega)
theorem q_ro_in {g : Nat → Int} {w : Int} : ∀ r n : Nat, n + r ≤ 61 → kx_in (q_ro g w r n) := by
  intro r
  induction r with
  | zero => intro n _; exact ⟨by simp only [q_ro]; omega, by simp only [q_ro]; omega⟩
  | succ r ih =>
    intro n hn
    rw [q_ro]
    split
    · split
      · exact ⟨by omega, by omega⟩
      · exact ⟨by omega, by omega⟩
    · exact ih (n + 1) (by omega)
theorem q_ever_in {s : Int → Int} (W : tw_W 999 s) (n : Nat) : kx_in (q_ever s n) := by
  cases n with
  | zero =>
    have w3 := W.2.2.1
    have w1 := W.1
    rw [q_ever]
    have hc : s 4 = 0 ∨ s 4 = 1 ∨ s 4 = 2 ∨ s 4 = 3 ∨ s 4 = 4 ∨ s 4 = 5 := by omega
    rcases hc with e | e | e | e | e | e <;> rw [e] <;> decide
  | succ n => exact kx_or_in _ _
theorem q_ke_in {s f : Int → Int} {h : Int} {n : Nat} : ∀ (r : Nat) (k a : Int), kx_in a → kx_in (q_ke s f h n r k a) := by
  intro r
  induction r with
  | zero => intro k a ha; exact ha
  | succ r ih => intro k a ha; rw [q_ke]; exact ih _ _ (kx_or_in _ _)
theorem q_se_in {s f : Int → Int} {n : Nat} : ∀ (r : Nat) (a b : Int), r ≤ 6 → (0 ≤ a ∧ a + r ≤ 6) → (-1000000 ≤ b ∧ b ≤ 6) → kx_in (q_se s f n r a b).1 ∧ kx_in (q_se s f n r a b).2 := by
  intro r
  induction r with
  | zero => intro a b _ ha hb; exact ⟨⟨by show _ ≤ a; omega, by show a ≤ _; omega⟩, ⟨by show _ ≤ b; omega, by show b ≤ _; omega⟩⟩
  | succ r ih =>
    intro a b hr ha hb
    rw [q_se]
    split
    · exact ih _ _ (by omega) (by omega) (by omega)
    · exact ih _ _ (by omega) (by omega) hb
theorem q_done_in {s : Int → Int} {o x : Int} (W : tw_W 999 s) (o0 : 0 ≤ o) (o1 : o < s 2) (h : q_done s o x) : kx_in x := by
  have w5 := W.2.2.2.2.1
  have w8 := W.2.2.2.2.2.2.2 o o0 o1
  rcases h with ⟨a1, a2⟩ | ⟨a1, a2⟩ | ⟨a1, n, a2, a3, a4⟩ | ⟨a1, a2, a3⟩
  · exact ⟨by omega, by omega⟩
  · exact ⟨by omega, by omega⟩
  · exact ⟨by omega, by omega⟩
  · exact ⟨by omega, by omega⟩
theorem q_min_in {P : Int → Nat → Prop} {N b l : Int} (hN : N ≤ 6) (h : q_min P N b l) : kx_in b := by
  rcases h with ⟨a1, _⟩ | ⟨a1, a2, _⟩
  · exact ⟨by omega, by omega⟩
  · exact ⟨by omega, by omega⟩
theorem q_tg_in {s : Int → Int} {o w x : Int} (hN : s 1 ≤ 6) (h : q_tg s o w x) : kx_in x := by
  obtain ⟨b, l, hm, hx⟩ := h
  have hb := q_min_in hN hm
  subst hx
  split
  · exact hb
  · rename_i hne
    split
    · exact hb
    · rcases hm with ⟨a1, _⟩ | ⟨a1, a2, n, a3, a4, a5, _⟩
      · exact absurd a1 hne
      · exact ⟨by omega, by omega⟩
theorem q_tg_u {s : Int → Int} {o w x y : Int} (h : q_tg s o w x) (k : q_tg s o w y) : x = y := by
  obtain ⟨b, l, hm, hx⟩ := h
  obtain ⟨b', l', hm', hy⟩ := k
  obtain ⟨u1, u2⟩ := q_min_u hm hm'
  subst u1
  by_cases e : b = -1000000
  · rw [if_pos e] at hx hy; omega
  · rw [if_neg e] at hx hy
    have := u2 e
    subst this
    rw [hx, hy]
theorem tw_go_did {s : Int → Int} (W : tw_W 999 s) {h : Int} (h0 : 0 ≤ h) (h1 : h < s 1) {n : Nat} (hn : n ≤ 60) : kx_in (tw_go s n (24 + h) - s (24 + h)) := by
  have Wn := tw_W_go60 W (n := n) (by omega)
  have e := (tw_go_12 W n).1
  have a := Wn.2.2.2.2.2.2.1 h h0 (by omega)
  have a5 := Wn.2.2.2.2.1
  have b := W.2.2.2.2.2.2.1 h h0 h1
  have b5 := W.2.2.2.2.1
  exact ⟨by omega, by omega⟩
theorem tw_go_4 {s : Int → Int} (W : tw_W 999 s) {n : Nat} (hn : n ≤ 61) : kx_in (tw_go s n 4) := by
  have Wn := tw_W_go60 W (n := n) hn
  have a := Wn.2.2.1
  have b := Wn.1
  exact ⟨by omega, by omega⟩
theorem q_hd_in {s : Int → Int} {v w : Int} (W : tw_W 999 s) (v0 : 0 ≤ v) (v1 : v < s 1) : kx_in (q_hd s v w) := by
  have a := W.2.2.2.2.2.2.1 v v0 v1
  have a5 := W.2.2.2.2.1
  unfold q_hd
  split
  · exact ⟨by omega, by omega⟩
  split
  · exact ⟨by omega, by omega⟩
  split
  · split
    · exact ⟨by omega, by omega⟩
    · exact ⟨by omega, by omega⟩
  split
  · exact ⟨by omega, by omega⟩
  · exact ⟨by omega, by omega⟩
theorem q_oh_in {s : Int → Int} {v w : Int} (W : tw_W 999 s) (v0 : 0 ≤ v) (v1 : v < s 2) : kx_in (q_oh s v w) := by
  have a := W.2.2.2.2.2.2.2 v v0 v1
  unfold q_oh
  split
  · exact ⟨by omega, by omega⟩
  split
  · exact ⟨by omega, by omega⟩
  split
  · exact ⟨by omega, by omega⟩
  · exact ⟨by omega, by omega⟩
theorem q_ht_in {s : Int → Int} {w : Int} (W : tw_W 999 s) : kx_in (q_ht s w) := by
  obtain ⟨w1, w2, w3, w4, w5, w6, w7, w8⟩ := W
  unfold q_ht
  split
  · exact ⟨by omega, by omega⟩
  split
  · exact ⟨by omega, by omega⟩
  split
  · exact ⟨by omega, by omega⟩
  split
  · exact ⟨by omega, by omega⟩
  · exact ⟨by omega, by omega⟩
theorem q_ct_in {s f : Int → Int} {m k w : Int} (N : TN s) (hm : 0 ≤ m ∧ m ≤ 24) (hk : 0 ≤ k ∧ k ≤ 120) : kx_in (q_ct s f m k w) := by
  obtain ⟨n1, n2, n3⟩ := TN_in N
  have r := q_rc_in (f := f) 8
  have x0 := tw_ox_in s 0 (s 2).toNat
  have x1 := tw_ox_in s 1 (s 2).toNat
  have h3 : 0 ≤ s 3 ∧ s 3 ≤ 999 := by
    rcases N with q | ⟨q, _⟩
    · rw [q 3]; omega
    · exact q.2.2.2.2.1
  unfold q_ct
  split
  · exact ⟨by omega, by omega⟩
  split
  · exact ⟨by omega, by omega⟩
  split
  · exact ⟨by omega, by omega⟩
  split
  · exact ⟨by omega, by omega⟩
  split
  · exact ⟨by omega, by omega⟩
  split
  · exact ⟨by omega, by omega⟩
  split
  · exact ⟨by omega, by omega⟩
  split
  · exact ⟨by omega, by omega⟩
  · exact ⟨by omega, by omega⟩
theorem q_mv_in {s : Int → Int} {h : Int} (W : tw_W 999 s) (h0 : 0 ≤ h) (h1 : h < s 1) : -10000 ≤ q_mv s h ∧ q_mv s h ≤ 10000 := by
  have a := W.2.2.2.2.2.2.1 h h0 h1
  have a5 := W.2.2.2.2.1
  have w1 := W.1
  unfold q_mv
  split
  · omega
  split
  · omega
  split
  · omega
  split
  · omega
  · omega
theorem q_sv_in {s : Int → Int} {h : Int} (W : tw_W 999 s) (h0 : 0 ≤ h) (h1 : h < s 1) : -20000 ≤ q_sv s h ∧ q_sv s h ≤ 20000 := by
  have a := W.2.2.2.2.2.2.1 h h0 h1
  have a5 := W.2.2.2.2.1
  have w1 := W.1
  have b := q_mv_in W h0 h1
  unfold q_sv
  split
  · omega
  split
  · omega
  split
  · omega
  · omega
theorem q_l_in (k : Int) : (∀ i : Nat, kx_in ((q_sl k).getD i 0)) ∧ (∀ i : Nat, kx_in ((q_ml k).getD i 0)) ∧ (q_sl k).length ≤ 16 ∧ (q_ml k).length ≤ 16 := by
  have key : ∀ l : List Int, (∀ x ∈ l, kx_in x) → ∀ i : Nat, kx_in (l.getD i 0) := by
    intro l
    induction l with
    | nil => intro _ i; exact ⟨by show _ ≤ (0 : Int); omega, by show (0 : Int) ≤ _; omega⟩
    | cons a l ih =>
      intro h i
      cases i with
      | zero => exact h a (List.mem_cons_self)
      | succ i => exact ih (fun x hx => h x (List.mem_cons_of_mem _ hx)) i
  refine ⟨key _ ?_, key _ ?_, ?_, ?_⟩
  · unfold q_sl; repeat (first | decide | split)
  · unfold q_ml; repeat (first | decide | split)
  · unfold q_sl; repeat (first | decide | split)
  · unfold q_ml; repeat (first | decide | split)
theorem lot_in {n w : Int} (n0 : 0 ≤ n) (n1 : n ≤ 6) : kx_in (if w = 0 then n.tdiv (q_g n) else (6 : Int).tdiv (q_g n)) := by
  have hc : n = 0 ∨ n = 1 ∨ n = 2 ∨ n = 3 ∨ n = 4 ∨ n = 5 ∨ n = 6 := by omega
  split
  · rcases hc with e | e | e | e | e | e | e <;> subst e <;> decide
  · rcases hc with e | e | e | e | e | e | e <;> subst e <;> decide
