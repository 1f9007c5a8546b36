theorem sx_pr {G : kx_G} {a k : Nat} (h : (G.1 a).1 = k) : G.1 a = (k, (G.1 a).2) := by rw [← h]
theorem kx_br_imp {c : Jvm.ClassFile.Cond} {a b : Int} {t f t' f' : Prop} (h1 : t → t') (h2 : f → f') (h : kx_br c a b t f) : kx_br c a b t' f' := by
  cases c <;> simp only [kx_br] at h ⊢ <;> split at h <;> rename_i q <;> first | (rw [if_pos q]; first | exact h1 h | exact h2 h) | (rw [if_neg q]; first | exact h1 h | exact h2 h)
theorem kx_sw_imp {x : Int} {f g : Nat → Prop} {d : Nat} (hfg : ∀ t, f t → g t) : ∀ (ts : List Nat) (lo : Int), kx_sw x lo f d ts → kx_sw x lo g d ts := by
  intro ts
  induction ts with
  | nil => intro lo h; exact hfg _ h
  | cons t ts ih =>
    intro lo h
    simp only [kx_sw] at h ⊢
    split at h <;> rename_i q
    · rw [if_pos q]; exact hfg _ h
    · rw [if_neg q]; exact ih _ h
theorem sx_cn_on {k : Nat} (h : k < 8) : sx_cn k = sx_on k := by
  match k, h with
  | 0, _ => rfl
  | 1, _ => rfl
  | 2, _ => rfl
  | 3, _ => rfl
  | 4, _ => rfl
  | 5, _ => rfl
  | 6, _ => rfl
  | 7, _ => rfl
section SE
variable {p : Program} {l : Launch} {e : Env} {R : Room} {s : State} {m : MethodId} {args : Array Value} {below : List Frame} {meth : Method} {c : Code} {cc : ByteArray} {nL L n0 s0 : Nat} {Z : sx_Z} {D : va_G} {μ0 : kx_M} {Qf : State → Prop} {pc : Nat} {ls : kx_L} {st : List kx_V} {G GF : kx_G} {μ μF : kx_M} {vF : Option kx_V}
set_option maxHeartbeats 8000000 in
theorem sx_step {d oc : Nat} {ini : Bool} {rt : Option FieldType} (C : sx_C p s m args c cc nL (sx_on oc) Z D L μ0) (hini : ini = true → meth.name = "<init>")
    (hri : ∀ {pc : Nat} {ls : kx_L} {x : Int}, decode cc pc = .ok (.ireturn, 1) → (rt = some .int ∨ (rt = some .boolean ∨ rt = some .byte) ∧ (x = 0 ∨ x = 1)) → some (kI x) = vF → sx_at p l e R s m args below meth c nL Z D L μ0 n0 s0 Qf pc ls [kI x] GF μF)
    (hrl : ∀ {pc : Nat} {ls : kx_L} {x : Int}, decode cc pc = .ok (.lreturn, 1) → rt = some .long → some (kL x) = vF → sx_at p l e R s m args below meth c nL Z D L μ0 n0 s0 Qf pc ls [kL x] GF μF)
    (hrv : ∀ {pc : Nat} {ls : kx_L}, decode cc pc = .ok (.return_, 1) → rt = none → none = vF → sx_at p l e R s m args below meth c nL Z D L μ0 n0 s0 Qf pc ls [] GF μF)
    (hM : ∀ k as G μ v G2 μ2, k < 204 → kx_ev kt_all kt_ml d k as G μ v G2 μ2 → sx_lq G2 GF → 1 ≤ G.2.1 → sx_Mt l Z D L μ0 d k as G μ v G2 μ2)
    (hRf : d + 2 ≤ R.frames) (hRl : 60 * d + 60 ≤ R.locals) (hRc : GF.2.1 - n0 ≤ R.cells) (hRs : sx_sl GF - s0 ≤ R.slots) (h91 : GF.2.1 ≤ 91)
    {i : Instr} {nx r1 r2 : Nat} {r3 : Int} {tg : List Nat} (hok : sx_okb oc cc nL ini rt pc i nx r1 r2 r3 tg = true)
    (h : kx_do i nx r1 r2 r3 tg False (fun pc' ls' st' G' μ' => sx_lq G' GF ∧ sx_at p l e R s m args below meth c nL Z D L μ0 n0 s0 Qf pc' ls' st' G' μ') (fun v1 G1 μ1 => v1 = vF ∧ G1 = GF ∧ μ1 = μF)
      (fun k as G1 μ1 pc' ls' rest => ∃ (v1 : Option kx_V) (G2 : kx_G) (μ2 : kx_M), (kx_ev kt_all kt_ml d k as G1 μ1 v1 G2 μ2 ∧ 1 ≤ G1.2.1) ∧ sx_lq G1 G2 ∧ sx_lq G2 GF ∧ sx_at p l e R s m args below meth c nL Z D L μ0 n0 s0 Qf pc' ls' (v1.toList ++ rest) G2 μ2) ls st G μ) : sx_at p l e R s m args below meth c nL Z D L μ0 n0 s0 Qf pc ls st G μ := by
  cases i
  case iadd =>
    simp only [sx_okb, Bool.and_eq_true, decide_eq_true_eq] at hok
    obtain ⟨⟨hd, hlt⟩, hnx⟩ := hok
    subst hnx
    rw [Nat.add_sub_cancel_left] at hd
    simp only [kx_do] at h
    split at h
    · exact si_iadd C hd h.2
    · exact h.elim
  case isub =>
    simp only [sx_okb, Bool.and_eq_true, decide_eq_true_eq] at hok
    obtain ⟨⟨hd, hlt⟩, hnx⟩ := hok
    subst hnx
    rw [Nat.add_sub_cancel_left] at hd
    simp only [kx_do] at h
    split at h
    · exact si_isub C hd h.2
    · exact h.elim
  case imul =>
    simp only [sx_okb, Bool.and_eq_true, decide_eq_true_eq] at hok
    obtain ⟨⟨hd, hlt⟩, hnx⟩ := hok
    subst hnx
    rw [Nat.add_sub_cancel_left] at hd
    simp only [kx_do] at h
    split at h
    · exact si_imul C hd h.2
    · exact h.elim
  case iand =>
    simp only [sx_okb, Bool.and_eq_true, decide_eq_true_eq] at hok
    obtain ⟨⟨hd, hlt⟩, hnx⟩ := hok
    subst hnx
    rw [Nat.add_sub_cancel_left] at hd
    simp only [kx_do] at h
    split at h
    · exact si_iand C hd h.2
    · exact h.elim
  case ior =>
    simp only [sx_okb, Bool.and_eq_true, decide_eq_true_eq] at hok
    obtain ⟨⟨hd, hlt⟩, hnx⟩ := hok
    subst hnx
    rw [Nat.add_sub_cancel_left] at hd
    simp only [kx_do] at h
    split at h
    · exact si_ior C hd h.2
    · exact h.elim
  case ixor =>
    simp only [sx_okb, Bool.and_eq_true, decide_eq_true_eq] at hok
    obtain ⟨⟨hd, hlt⟩, hnx⟩ := hok
    subst hnx
    rw [Nat.add_sub_cancel_left] at hd
    simp only [kx_do] at h
    split at h
    · exact si_ixor C hd h.2
    · exact h.elim
  case ineg =>
    simp only [sx_okb, Bool.and_eq_true, decide_eq_true_eq] at hok
    obtain ⟨⟨hd, hlt⟩, hnx⟩ := hok
    subst hnx
    rw [Nat.add_sub_cancel_left] at hd
    simp only [kx_do] at h
    split at h
    · exact si_ineg C hd h.2
    · exact h.elim
  case ladd =>
    simp only [sx_okb, Bool.and_eq_true, decide_eq_true_eq] at hok
    obtain ⟨⟨hd, hlt⟩, hnx⟩ := hok
    subst hnx
    rw [Nat.add_sub_cancel_left] at hd
    simp only [kx_do] at h
    split at h
    · exact si_ladd C hd h.2
    · exact h.elim
  case lsub =>
    simp only [sx_okb, Bool.and_eq_true, decide_eq_true_eq] at hok
    obtain ⟨⟨hd, hlt⟩, hnx⟩ := hok
    subst hnx
    rw [Nat.add_sub_cancel_left] at hd
    simp only [kx_do] at h
    split at h
    · exact si_lsub C hd h.2
    · exact h.elim
  case lor =>
    simp only [sx_okb, Bool.and_eq_true, decide_eq_true_eq] at hok
    obtain ⟨⟨hd, hlt⟩, hnx⟩ := hok
    subst hnx
    rw [Nat.add_sub_cancel_left] at hd
    simp only [kx_do] at h
    split at h
    · exact si_lor C hd h.2
    · exact h.elim
  case i2b =>
    simp only [sx_okb, Bool.and_eq_true, decide_eq_true_eq] at hok
    obtain ⟨⟨hd, hlt⟩, hnx⟩ := hok
    subst hnx
    rw [Nat.add_sub_cancel_left] at hd
    simp only [kx_do] at h
    split at h
    · exact si_i2b C hd h.2
    · exact h.elim
  case i2s =>
    simp only [sx_okb, Bool.and_eq_true, decide_eq_true_eq] at hok
    obtain ⟨⟨hd, hlt⟩, hnx⟩ := hok
    subst hnx
    rw [Nat.add_sub_cancel_left] at hd
    simp only [kx_do] at h
    split at h
    · exact si_i2s C hd h.2
    · exact h.elim
  case i2c =>
    simp only [sx_okb, Bool.and_eq_true, decide_eq_true_eq] at hok
    obtain ⟨⟨hd, hlt⟩, hnx⟩ := hok
    subst hnx
    rw [Nat.add_sub_cancel_left] at hd
    simp only [kx_do] at h
    split at h
    · exact si_i2c C hd h.2
    · exact h.elim
  case dup2 =>
    simp only [sx_okb, Bool.and_eq_true, decide_eq_true_eq] at hok
    obtain ⟨⟨hd, hlt⟩, hnx⟩ := hok
    subst hnx
    rw [Nat.add_sub_cancel_left] at hd
    simp only [kx_do] at h
    split at h
    · exact si_dup2 C hd h.2
    · exact h.elim
  case pop =>
    simp only [sx_okb, Bool.and_eq_true, decide_eq_true_eq] at hok
    obtain ⟨⟨hd, hlt⟩, hnx⟩ := hok
    subst hnx
    rw [Nat.add_sub_cancel_left] at hd
    simp only [kx_do] at h
    split at h
    · exact si_pop C hd h.2
    · exact h.elim
  case dup =>
    simp only [sx_okb, Bool.and_eq_true, decide_eq_true_eq] at hok
    obtain ⟨⟨hd, hlt⟩, hnx⟩ := hok
    subst hnx
    rw [Nat.add_sub_cancel_left] at hd
    simp only [kx_do] at h
    split at h
    · exact si_dup C hd h.2
    · exact si_dupR C hd h.2
    · exact h.elim
  case idiv =>
    simp only [sx_okb, Bool.and_eq_true, decide_eq_true_eq] at hok
    obtain ⟨⟨hd, hlt⟩, hnx⟩ := hok
    subst hnx
    rw [Nat.add_sub_cancel_left] at hd
    simp only [kx_do] at h
    split at h
    · split at h
      · rename_i hc; exact si_idiv C hd hc.1 hc.2.1 hc.2.2 h.2
      · exact h.elim
    · exact h.elim
  case irem =>
    simp only [sx_okb, Bool.and_eq_true, decide_eq_true_eq] at hok
    obtain ⟨⟨hd, hlt⟩, hnx⟩ := hok
    subst hnx
    rw [Nat.add_sub_cancel_left] at hd
    simp only [kx_do] at h
    split at h
    · split at h
      · rename_i hc; exact si_irem C hd hc.1 hc.2.1 hc.2.2 h.2
      · exact h.elim
    · exact h.elim
  case ishl =>
    simp only [sx_okb, Bool.and_eq_true, decide_eq_true_eq] at hok
    obtain ⟨⟨hd, hlt⟩, hnx⟩ := hok
    subst hnx
    rw [Nat.add_sub_cancel_left] at hd
    simp only [kx_do] at h
    split at h
    · split at h
      · rename_i hc; exact si_ishl C hd hc.1 hc.2 h.2
      · exact h.elim
    · exact h.elim
  case ishr =>
    simp only [sx_okb, Bool.and_eq_true, decide_eq_true_eq] at hok
    obtain ⟨⟨hd, hlt⟩, hnx⟩ := hok
    subst hnx
    rw [Nat.add_sub_cancel_left] at hd
    simp only [kx_do] at h
    split at h
    · split at h
      · rename_i hc; exact si_ishr C hd hc.1 hc.2 h.2
      · exact h.elim
    · exact h.elim
  case lshl =>
    simp only [sx_okb, Bool.and_eq_true, decide_eq_true_eq] at hok
    obtain ⟨⟨hd, hlt⟩, hnx⟩ := hok
    subst hnx
    rw [Nat.add_sub_cancel_left] at hd
    simp only [kx_do] at h
    split at h
    · split at h
      · rename_i hc; exact si_lshl C hd hc.1 hc.2 h.2
      · exact h.elim
    · exact h.elim
  case iushr =>
    simp only [sx_okb, Bool.and_eq_true, decide_eq_true_eq] at hok
    obtain ⟨⟨hd, hlt⟩, hnx⟩ := hok
    subst hnx
    rw [Nat.add_sub_cancel_left] at hd
    simp only [kx_do] at h
    split at h
    · split at h
      · rename_i hc; exact si_iushr C hd hc.1 hc.2.1 hc.2.2.1 hc.2.2.2 h.2
      · exact h.elim
    · exact h.elim
  case i2l =>
    simp only [sx_okb, Bool.and_eq_true, decide_eq_true_eq] at hok
    obtain ⟨⟨hd, hlt⟩, hnx⟩ := hok
    subst hnx
    rw [Nat.add_sub_cancel_left] at hd
    simp only [kx_do] at h
    split at h
    · split at h
      · rename_i hc; exact si_i2l C hd hc h.2
      · exact h.elim
    · exact h.elim
  case lcmp =>
    simp only [sx_okb, Bool.and_eq_true, decide_eq_true_eq] at hok
    obtain ⟨⟨hd, hlt⟩, hnx⟩ := hok
    subst hnx
    rw [Nat.add_sub_cancel_left] at hd
    simp only [kx_do] at h
    split at h
    · split at h
      · rename_i hc
        refine si_lcmp C hd hc.1 hc.2 ?_
        split at h
        · rw [if_pos ‹_›]; exact h.2
        · rw [if_neg ‹_›]; split at h
          · rw [if_pos ‹_›]; exact h.2
          · rw [if_neg ‹_›]; exact h.2
      · exact h.elim
    · exact h.elim
  case iload_n i =>
    simp only [sx_okb, Bool.and_eq_true, decide_eq_true_eq] at hok
    obtain ⟨⟨hd, hlt⟩, ⟨hi, hnx⟩⟩ := hok
    subst hnx
    rw [Nat.add_sub_cancel_left] at hd
    simp only [kx_do] at h
    simp only [kx_load] at h
    split at h
    · rename_i hg; exact si_iload_n C hd hi hg h.2
    · exact h.elim
    · exact h.elim
    · exact h.elim
  case iload i =>
    simp only [sx_okb, Bool.and_eq_true, decide_eq_true_eq] at hok
    obtain ⟨⟨hd, hlt⟩, ⟨hi, hnx⟩⟩ := hok
    subst hnx
    rw [Nat.add_sub_cancel_left] at hd
    simp only [kx_do] at h
    simp only [kx_load] at h
    split at h
    · rename_i hg; exact si_iload C hd hi hg h.2
    · exact h.elim
    · exact h.elim
    · exact h.elim
  case lload_n i =>
    simp only [sx_okb, Bool.and_eq_true, decide_eq_true_eq] at hok
    obtain ⟨⟨hd, hlt⟩, ⟨hi, hnx⟩⟩ := hok
    subst hnx
    rw [Nat.add_sub_cancel_left] at hd
    simp only [kx_do] at h
    simp only [kx_load] at h
    split at h
    · exact h.elim
    · rename_i hg; exact si_lload_n C hd hi hg h.2
    · exact h.elim
    · exact h.elim
  case lload i =>
    simp only [sx_okb, Bool.and_eq_true, decide_eq_true_eq] at hok
    obtain ⟨⟨hd, hlt⟩, ⟨hi, hnx⟩⟩ := hok
    subst hnx
    rw [Nat.add_sub_cancel_left] at hd
    simp only [kx_do] at h
    simp only [kx_load] at h
    split at h
    · exact h.elim
    · rename_i hg; exact si_lload C hd hi hg h.2
    · exact h.elim
    · exact h.elim
  case aload_n i =>
    simp only [sx_okb, Bool.and_eq_true, decide_eq_true_eq] at hok
    obtain ⟨⟨hd, hlt⟩, ⟨hi, hnx⟩⟩ := hok
    subst hnx
    rw [Nat.add_sub_cancel_left] at hd
    simp only [kx_do] at h
    simp only [kx_load] at h
    split at h
    · exact h.elim
    · exact h.elim
    · rename_i hg; exact si_aload_n C hd hi hg h.2
    · exact h.elim
  case aload i =>
    simp only [sx_okb, Bool.and_eq_true, decide_eq_true_eq] at hok
    obtain ⟨⟨hd, hlt⟩, ⟨hi, hnx⟩⟩ := hok
    subst hnx
    rw [Nat.add_sub_cancel_left] at hd
    simp only [kx_do] at h
    simp only [kx_load] at h
    split at h
    · exact h.elim
    · exact h.elim
    · rename_i hg; exact si_aload C hd hi hg h.2
    · exact h.elim
  case istore_n i =>
    simp only [sx_okb, Bool.and_eq_true, decide_eq_true_eq] at hok
    obtain ⟨⟨hd, hlt⟩, ⟨⟨hi, hr⟩, hnx⟩⟩ := hok
    subst hnx
    rw [Nat.add_sub_cancel_left] at hd
    simp only [kx_do] at h
    split at h
    · exact si_istore_n C hd hi hr h.2
    · exact h.elim
  case istore i =>
    simp only [sx_okb, Bool.and_eq_true, decide_eq_true_eq] at hok
    obtain ⟨⟨hd, hlt⟩, ⟨⟨hi, hr⟩, hnx⟩⟩ := hok
    subst hnx
    rw [Nat.add_sub_cancel_left] at hd
    simp only [kx_do] at h
    split at h
    · exact si_istore C hd hi hr h.2
    · exact h.elim
  case astore_n i =>
    simp only [sx_okb, Bool.and_eq_true, decide_eq_true_eq] at hok
    obtain ⟨⟨hd, hlt⟩, ⟨⟨hi, hr⟩, hnx⟩⟩ := hok
    subst hnx
    rw [Nat.add_sub_cancel_left] at hd
    simp only [kx_do] at h
    split at h
    · exact si_astore_n C hd hi hr h.2
    · exact h.elim
  case astore i =>
    simp only [sx_okb, Bool.and_eq_true, decide_eq_true_eq] at hok
    obtain ⟨⟨hd, hlt⟩, ⟨⟨hi, hr⟩, hnx⟩⟩ := hok
    subst hnx
    rw [Nat.add_sub_cancel_left] at hd
    simp only [kx_do] at h
    split at h
    · exact si_astore C hd hi hr h.2
    · exact h.elim
  case lstore_n i =>
    simp only [sx_okb, Bool.and_eq_true, decide_eq_true_eq] at hok
    obtain ⟨⟨hd, hlt⟩, ⟨⟨hi, hr⟩, hnx⟩⟩ := hok
    subst hnx
    rw [Nat.add_sub_cancel_left] at hd
    simp only [kx_do] at h
    split at h
    · exact si_lstore_n C hd hi hr h.2
    · exact h.elim
  case iinc i q =>
    simp only [sx_okb, Bool.and_eq_true, decide_eq_true_eq] at hok
    obtain ⟨⟨hd, hlt⟩, ⟨⟨⟨hi, hq⟩, hr⟩, hnx⟩⟩ := hok
    subst hnx
    rw [Nat.add_sub_cancel_left] at hd
    simp only [kx_do] at h
    split at h
    · rename_i hg; exact si_iinc C hd hi hq hr hg h.2
    · exact h.elim
  case iconst i =>
    simp only [sx_okb, Bool.and_eq_true, decide_eq_true_eq] at hok
    obtain ⟨⟨hd, hlt⟩, ⟨hi, hnx⟩⟩ := hok
    subst hnx
    rw [Nat.add_sub_cancel_left] at hd
    simp only [kx_do] at h
    exact si_iconst C hd hi h.2
  case bipush i =>
    simp only [sx_okb, Bool.and_eq_true, decide_eq_true_eq] at hok
    obtain ⟨⟨hd, hlt⟩, ⟨hi, hnx⟩⟩ := hok
    subst hnx
    rw [Nat.add_sub_cancel_left] at hd
    simp only [kx_do] at h
    exact si_bipush C hd hi h.2
  case sipush i =>
    simp only [sx_okb, Bool.and_eq_true, decide_eq_true_eq] at hok
    obtain ⟨⟨hd, hlt⟩, ⟨hi, hnx⟩⟩ := hok
    subst hnx
    rw [Nat.add_sub_cancel_left] at hd
    simp only [kx_do] at h
    exact si_sipush C hd hi h.2
  case lconst i =>
    simp only [sx_okb, Bool.and_eq_true, decide_eq_true_eq] at hok
    obtain ⟨⟨hd, hlt⟩, ⟨hi, hnx⟩⟩ := hok
    subst hnx
    rw [Nat.add_sub_cancel_left] at hd
    simp only [kx_do] at h
    exact si_lconst C hd hi h.2
  case ldc i =>
    simp only [sx_okb, Bool.and_eq_true, decide_eq_true_eq] at hok
    obtain ⟨⟨hd, hlt⟩, ⟨hnx, hw⟩⟩ := hok
    subst hnx
    rw [Nat.add_sub_cancel_left] at hd
    simp only [kx_do] at h
    split at h
    · rename_i h1
      rw [if_pos h1, decide_eq_true_eq] at hw
      exact si_ldc C hd ((sx_cst_ok _ hw).1 _ (by simp)) h.2
    · rename_i h1
      rw [if_neg h1] at hw
      simp only [Bool.and_eq_true, decide_eq_true_eq] at hw
      obtain ⟨⟨⟨hr1, hr2⟩, ho⟩, hi⟩ := hw
      subst hi; subst hr2
      exact si_ldcS C hd (by rw [ho]; rfl) h.2
  case ldc_w i =>
    simp only [sx_okb, Bool.and_eq_true, decide_eq_true_eq] at hok
    obtain ⟨⟨hd, hlt⟩, ⟨hnx, hw⟩⟩ := hok
    subst hnx
    rw [Nat.add_sub_cancel_left] at hd
    simp only [kx_do] at h
    exact si_ldc_w C hd ((sx_cst_ok _ hw).1 _ (by simp)) h.2
  case ldc2_w i =>
    simp only [sx_okb, Bool.and_eq_true, decide_eq_true_eq] at hok
    obtain ⟨⟨hd, hlt⟩, ⟨hnx, hw⟩⟩ := hok
    subst hnx
    rw [Nat.add_sub_cancel_left] at hd
    simp only [kx_do] at h
    exact si_ldc2_w C hd ((sx_cstL_ok _ hw).1 _ (by simp)) h.2
  case getstatic i =>
    simp only [sx_okb, Bool.and_eq_true, decide_eq_true_eq] at hok
    obtain ⟨⟨hd, hlt⟩, ⟨hnx, hw⟩⟩ := hok
    subst hnx
    rw [Nat.add_sub_cancel_left] at hd
    simp only [kx_do] at h
    split at h
    · rename_i h1
      rw [if_pos h1, decide_eq_true_eq] at hw
      exact si_getstatic C hd (sx_gst_ok _ hw).2 ((sx_gst_ok _ hw).1 _ (by simp)) h.2
    · rename_i h1
      rw [if_neg h1] at hw
      simp only [Bool.and_eq_true, decide_eq_true_eq] at hw
      obtain ⟨hr3, hw⟩ := hw
      subst hr3
      exact si_getstaticI C hd ((sx_gsz_ok _ hw).1 _ (by simp)) h.2
  case getfield i =>
    simp only [sx_okb, Bool.and_eq_true, decide_eq_true_eq] at hok
    obtain ⟨⟨hd, hlt⟩, ⟨hnx, hw⟩⟩ := hok
    subst hnx
    rw [Nat.add_sub_cancel_left] at hd
    simp only [kx_do] at h
    split at h
    · rename_i a
      split at h
      · rename_i h8
        rw [if_pos h8, decide_eq_true_eq] at hw
        have w := (sx_sfl_ok _ hw).1
        dsimp only at w
        split at h
        · rename_i ha
          subst ha
          split at h
          · rename_i h1
            rw [if_pos h1, if_pos h1] at w
            exact si_getSr C hd (w _ (by simp)) h.2
          · rename_i h1
            rw [if_neg h1, if_neg h1] at w
            exact si_getSi C hd (w _ (by simp)) h.2
        · exact h.elim
      · rename_i h8
        rw [if_neg h8] at hw
        simp only [Bool.and_eq_true, decide_eq_true_eq] at hw
        obtain ⟨⟨h0, hw⟩, ht⟩ := hw
        obtain ⟨k, rfl⟩ := Int.eq_ofNat_of_zero_le h0
        rw [Int.toNat_natCast] at hw ht
        obtain ⟨w, q8, qk⟩ := sx_fl_ok _ hw
        dsimp only at w q8 qk
        split at h
        · rename_i ho
          split at h
          · rename_i h1
            split at h
            · exact h.elim
            · rename_i hz; exact si_getr C hd ho qk (by omega) hz (w _ (by simp)) h.2
          · rename_i h1; exact si_geti C hd ho qk (by omega) (w _ (by simp)) h.2
        · exact h.elim
    · exact h.elim
  case putfield i =>
    simp only [sx_okb, Bool.and_eq_true, decide_eq_true_eq] at hok
    obtain ⟨⟨hd, hlt⟩, ⟨⟨⟨⟨hnx, h0⟩, hw⟩, ht⟩, hf⟩⟩ := hok
    subst hnx
    rw [Nat.add_sub_cancel_left] at hd
    simp only [kx_do] at h
    obtain ⟨k, rfl⟩ := Int.eq_ofNat_of_zero_le h0
    rw [Int.toNat_natCast] at hw ht hf
    obtain ⟨w, q8, qk⟩ := sx_fl_ok _ hw
    dsimp only at w q8 qk
    have hfin : (sx_T r1 k).2.2.2 = false ∨ meth.name = "<init>" ∧ (sx_T r1 k).1 = sx_on oc := by
      simp only [Bool.or_eq_true, Bool.not_eq_true', Bool.and_eq_true, decide_eq_true_eq] at hf
      rcases hf with q | ⟨q, q2⟩
      · exact Or.inl q
      · refine Or.inr ⟨hini q, ?_⟩
        rw [sx_own_ok r1 q8 k qk, q2]
        exact sx_cn_on (by omega)
    split at h
    · split at h
      · rename_i ho
        rcases ho.2 with q | ⟨q, hz⟩
        · exact si_puti C hd ho.1 qk (by omega) hfin (w _ (by simp)) h.2
        · exact si_putz C hd ho.1 qk (by omega) hz hfin (w _ (by simp)) h.2
      · exact h.elim
    · split at h
      · rename_i ho; exact si_putr C hd ho.1 qk (by omega) ho.2.2 hfin (w _ (by simp)) h.2
      · exact h.elim
    · exact h.elim
  case iaload =>
    simp only [sx_okb, Bool.and_eq_true, decide_eq_true_eq] at hok
    obtain ⟨⟨hd, hlt⟩, hnx⟩ := hok
    subst hnx
    rw [Nat.add_sub_cancel_left] at hd
    simp only [kx_do] at h
    split at h
    · split at h
      · rename_i hc
        rcases hc.1 with q | q
        · exact si_iald C hd (sx_pr q) hc.2.1 hc.2.2 h.2
        · exact si_iald7 C hd (sx_pr q) hc.2.1 hc.2.2 h.2
      · exact h.elim
    · exact h.elim
  case baload =>
    simp only [sx_okb, Bool.and_eq_true, decide_eq_true_eq] at hok
    obtain ⟨⟨hd, hlt⟩, hnx⟩ := hok
    subst hnx
    rw [Nat.add_sub_cancel_left] at hd
    simp only [kx_do] at h
    split at h
    · split at h
      · rename_i hc; exact si_zald C hd (sx_pr hc.1) hc.2.1 hc.2.2 h.2
      · split at h
        · rename_i hc; obtain ⟨ha, h0, h1⟩ := hc; subst ha; exact si_bal10 C hd h0 h1 h.2
        · exact h.elim
    · exact h.elim
  case laload =>
    simp only [sx_okb, Bool.and_eq_true, decide_eq_true_eq] at hok
    obtain ⟨⟨hd, hlt⟩, hnx⟩ := hok
    subst hnx
    rw [Nat.add_sub_cancel_left] at hd
    simp only [kx_do] at h
    split at h
    · split at h
      · rename_i hc; exact si_lald C hd (sx_pr hc.1) hc.2.1 hc.2.2 h.2
      · exact h.elim
    · exact h.elim
  case aaload =>
    simp only [sx_okb, Bool.and_eq_true, decide_eq_true_eq] at hok
    obtain ⟨⟨hd, hlt⟩, hnx⟩ := hok
    subst hnx
    rw [Nat.add_sub_cancel_left] at hd
    simp only [kx_do] at h
    split at h
    · split at h
      · rename_i hc
        rcases hc.1 with q | q
        · exact si_aald5 C hd (sx_pr q) hc.2.1 hc.2.2.1 hc.2.2.2 h.2
        · exact si_aald6 C hd (sx_pr q) hc.2.1 hc.2.2.1 hc.2.2.2 h.2
      · exact h.elim
    · exact h.elim
  case iastore =>
    simp only [sx_okb, Bool.and_eq_true, decide_eq_true_eq] at hok
    obtain ⟨⟨hd, hlt⟩, hnx⟩ := hok
    subst hnx
    rw [Nat.add_sub_cancel_left] at hd
    simp only [kx_do] at h
    split at h
    · split at h
      · rename_i hc; exact si_iast C hd (sx_pr hc.1) hc.2.1 hc.2.2 h.2
      · exact h.elim
    · exact h.elim
  case lastore =>
    simp only [sx_okb, Bool.and_eq_true, decide_eq_true_eq] at hok
    obtain ⟨⟨hd, hlt⟩, hnx⟩ := hok
    subst hnx
    rw [Nat.add_sub_cancel_left] at hd
    simp only [kx_do] at h
    split at h
    · split at h
      · rename_i hc; exact si_last C hd (sx_pr hc.1) hc.2.1 hc.2.2 h.2
      · exact h.elim
    · exact h.elim
  case bastore =>
    simp only [sx_okb, Bool.and_eq_true, decide_eq_true_eq] at hok
    obtain ⟨⟨hd, hlt⟩, hnx⟩ := hok
    subst hnx
    rw [Nat.add_sub_cancel_left] at hd
    simp only [kx_do] at h
    split at h
    · split at h
      · rename_i hc; exact si_zast C hd (sx_pr hc.1) hc.2.1 hc.2.2.1 hc.2.2.2 h.2
      · exact h.elim
    · exact h.elim
  case aastore =>
    simp only [sx_okb, Bool.and_eq_true, decide_eq_true_eq] at hok
    obtain ⟨⟨hd, hlt⟩, hnx⟩ := hok
    subst hnx
    rw [Nat.add_sub_cancel_left] at hd
    simp only [kx_do] at h
    split at h
    · split at h
      · rename_i hc
        rcases hc.1 with ⟨q, q2⟩ | ⟨q, q2⟩
        · exact si_aast5 C hd (sx_pr q) q2 hc.2.1 hc.2.2.1 hc.2.2.2 h.2
        · exact si_aast6 C hd (sx_pr q) q2 hc.2.1 hc.2.2.1 hc.2.2.2 h.2
      · exact h.elim
    · exact h.elim
  case arraylength =>
    simp only [sx_okb, Bool.and_eq_true, decide_eq_true_eq] at hok
    obtain ⟨⟨hd, hlt⟩, hnx⟩ := hok
    subst hnx
    rw [Nat.add_sub_cancel_left] at hd
    simp only [kx_do] at h
    split at h
    · split at h
      · rename_i hc
        rcases hc with q | q
        · exact si_alen C hd (sx_pr q) h.2
        · obtain ⟨q, rfl⟩ := q; exact si_alen7 C hd (sx_pr q) h.2
      · split at h
        · rename_i ha; subst ha; exact si_alen10 C hd h.2
        · exact h.elim
    · exact h.elim
  case newarray t =>
    simp only [sx_okb, Bool.and_eq_true, decide_eq_true_eq] at hok
    obtain ⟨⟨hd, hlt⟩, ⟨hnx, ht⟩⟩ := hok
    subst hnx
    rw [Nat.add_sub_cancel_left] at hd
    simp only [kx_do] at h
    split at h
    · split at h
      · rename_i hc
        rcases ht with ⟨rfl, rfl⟩ | ⟨rfl, rfl⟩ | ⟨rfl, rfl⟩
        · exact si_newa2 C hd (sx_arr_ok _ (by simp)) hc.1 hc.2 (by have := h.1.1; exact Nat.le_trans this h91) (by have := h.1.1; exact Nat.le_trans (Nat.sub_le_sub_right this _) hRc) (by have := h.1.2; exact Nat.le_trans (Nat.sub_le_sub_right this _) hRs) h.2
        · exact si_newa3 C hd (sx_arr_ok _ (by simp)) hc.1 hc.2 (by have := h.1.1; exact Nat.le_trans this h91) (by have := h.1.1; exact Nat.le_trans (Nat.sub_le_sub_right this _) hRc) (by have := h.1.2; exact Nat.le_trans (Nat.sub_le_sub_right this _) hRs) h.2
        · exact si_newa4 C hd (sx_arr_ok _ (by simp)) hc.1 hc.2 (by have := h.1.1; exact Nat.le_trans this h91) (by have := h.1.1; exact Nat.le_trans (Nat.sub_le_sub_right this _) hRc) (by have := h.1.2; exact Nat.le_trans (Nat.sub_le_sub_right this _) hRs) h.2
      · exact h.elim
    · exact h.elim
  case anewarray i =>
    simp only [sx_okb, Bool.and_eq_true, decide_eq_true_eq] at hok
    obtain ⟨⟨hd, hlt⟩, ⟨hnx, hw⟩⟩ := hok
    subst hnx
    rw [Nat.add_sub_cancel_left] at hd
    simp only [kx_do] at h
    obtain ⟨w, hk⟩ := sx_clq_ok _ hw
    split at h
    · split at h
      · rename_i hc
        rcases hk with hk | hk
        · simp only at hk; subst hk; exact si_anewa5 C hd (w _ (by simp)) hc.1 hc.2 (by have := h.1.1; exact Nat.le_trans this h91) (by have := h.1.1; exact Nat.le_trans (Nat.sub_le_sub_right this _) hRc) (by have := h.1.2; exact Nat.le_trans (Nat.sub_le_sub_right this _) hRs) h.2
        · simp only at hk; subst hk; exact si_anewa6 C hd (w _ (by simp)) hc.1 hc.2 (by have := h.1.1; exact Nat.le_trans this h91) (by have := h.1.1; exact Nat.le_trans (Nat.sub_le_sub_right this _) hRc) (by have := h.1.2; exact Nat.le_trans (Nat.sub_le_sub_right this _) hRs) h.2
      · exact h.elim
    · exact h.elim
  case new i =>
    simp only [sx_okb, Bool.and_eq_true, decide_eq_true_eq] at hok
    obtain ⟨⟨hd, hlt⟩, ⟨hnx, hw⟩⟩ := hok
    subst hnx
    rw [Nat.add_sub_cancel_left] at hd
    simp only [kx_do] at h
    obtain ⟨w, hk⟩ := sx_cla_ok _ hw
    exact si_new C hd hk (w _ (by simp)) (w _ (by simp)) (w _ (by simp)) (by have := h.1.1; exact Nat.le_trans this h91) (by have := h.1.1; exact Nat.le_trans (Nat.sub_le_sub_right this _) hRc) (by have := h.1.2; exact Nat.le_trans (Nat.sub_le_sub_right this _) hRs) h.2
  case ifCond q i =>
    simp only [sx_okb, Bool.and_eq_true, decide_eq_true_eq] at hok
    obtain ⟨⟨hd, hlt⟩, ⟨hnx, ht⟩⟩ := hok
    subst hnx
    rw [Nat.add_sub_cancel_left] at hd
    simp only [kx_do] at h
    split at h
    · split at h
      · rename_i hc
        cases q
        · exact si_if_eq C hd ht hc (kx_br_imp (fun q => q.2) (fun q => q.2) h)
        · exact si_if_ne C hd ht hc (kx_br_imp (fun q => q.2) (fun q => q.2) h)
        · exact si_if_lt C hd ht hc (kx_br_imp (fun q => q.2) (fun q => q.2) h)
        · exact si_if_ge C hd ht hc (kx_br_imp (fun q => q.2) (fun q => q.2) h)
        · exact si_if_gt C hd ht hc (kx_br_imp (fun q => q.2) (fun q => q.2) h)
        · exact si_if_le C hd ht hc (kx_br_imp (fun q => q.2) (fun q => q.2) h)
      · exact h.elim
    · exact h.elim
  case if_icmp q i =>
    simp only [sx_okb, Bool.and_eq_true, decide_eq_true_eq] at hok
    obtain ⟨⟨hd, hlt⟩, ⟨hnx, ht⟩⟩ := hok
    subst hnx
    rw [Nat.add_sub_cancel_left] at hd
    simp only [kx_do] at h
    split at h
    · split at h
      · rename_i hc
        cases q
        · exact si_icmp_eq C hd ht hc.1 hc.2 (kx_br_imp (fun q => q.2) (fun q => q.2) h)
        · exact si_icmp_ne C hd ht hc.1 hc.2 (kx_br_imp (fun q => q.2) (fun q => q.2) h)
        · exact si_icmp_lt C hd ht hc.1 hc.2 (kx_br_imp (fun q => q.2) (fun q => q.2) h)
        · exact si_icmp_ge C hd ht hc.1 hc.2 (kx_br_imp (fun q => q.2) (fun q => q.2) h)
        · exact si_icmp_gt C hd ht hc.1 hc.2 (kx_br_imp (fun q => q.2) (fun q => q.2) h)
        · exact si_icmp_le C hd ht hc.1 hc.2 (kx_br_imp (fun q => q.2) (fun q => q.2) h)
      · exact h.elim
    · exact h.elim
  case goto i =>
    simp only [sx_okb, Bool.and_eq_true, decide_eq_true_eq] at hok
    obtain ⟨⟨hd, hlt⟩, ⟨hnx, ht⟩⟩ := hok
    subst hnx
    rw [Nat.add_sub_cancel_left] at hd
    simp only [kx_do] at h
    exact si_goto C hd ht h.2
  case tableswitch df lo hi offs =>
    simp only [sx_okb, Bool.and_eq_true, decide_eq_true_eq] at hok
    obtain ⟨⟨hd, hlt⟩, ⟨⟨⟨hdf, hlo⟩, hlen⟩, hoff⟩⟩ := hok

    simp only [kx_do] at h
    subst hlo
    split at h
    · split at h
      · rename_i hc; exact si_tsw C hd hdf hlen hoff hc (kx_sw_imp (fun _ q => q.2) _ _ h)
      · exact h.elim
    · exact h.elim
  case lookupswitch df ps =>
    simp only [sx_okb, Bool.and_eq_true, decide_eq_true_eq] at hok
    obtain ⟨⟨hd, hlt⟩, ⟨⟨hdf, hlo⟩, hps⟩⟩ := hok

    simp only [kx_do] at h
    subst hlo
    split at hps
    · rename_i a x b y t u e1
      simp only [Bool.and_eq_true, decide_eq_true_eq] at hps
      obtain ⟨⟨⟨ha, hb1⟩, hx1⟩, hy1⟩ := hps
      split at h
      · split at h
        · rename_i hc; exact si_lsw C hd e1 ha hb1 hdf hx1 hy1 hc (kx_sw_imp (fun _ q => q.2) _ _ h)
        · exact h.elim
      · exact h.elim
    · cases hps
  case ireturn =>
    simp only [sx_okb, Bool.and_eq_true, decide_eq_true_eq] at hok
    obtain ⟨⟨hd, hlt⟩, ⟨hnx, hr⟩⟩ := hok
    subst hnx
    rw [Nat.add_sub_cancel_left] at hd
    simp only [kx_do] at h
    split at h
    · split at h
      · rename_i hc
        obtain ⟨e1, e2, e3⟩ := h
        subst e2; subst e3
        simp only [Bool.or_eq_true, decide_eq_true_eq] at hr
        refine hri hd ?_ e1
        rcases hr with q | q
        · exact Or.inl q.2
        · exact Or.inr ⟨q.2, by rcases hc with z | z; (exact absurd (z.symm.trans q.1) (by decide)); exact z⟩
      · exact h.elim
    · exact h.elim
  case lreturn =>
    simp only [sx_okb, Bool.and_eq_true, decide_eq_true_eq] at hok
    obtain ⟨⟨hd, hlt⟩, ⟨hnx, hr⟩⟩ := hok
    subst hnx
    rw [Nat.add_sub_cancel_left] at hd
    simp only [kx_do] at h
    split at h
    · obtain ⟨e1, e2, e3⟩ := h; subst e2; subst e3; exact hrl hd hr e1
    · exact h.elim
  case return_ =>
    simp only [sx_okb, Bool.and_eq_true, decide_eq_true_eq] at hok
    obtain ⟨⟨hd, hlt⟩, ⟨hnx, hr⟩⟩ := hok
    subst hnx
    rw [Nat.add_sub_cancel_left] at hd
    simp only [kx_do] at h
    split at h
    · obtain ⟨e1, e2, e3⟩ := h; subst e2; subst e3; exact hrv hd hr e1
    · exact h.elim
  case invokestatic i =>
    simp only [sx_okb, Bool.and_eq_true, decide_eq_true_eq] at hok
    obtain ⟨⟨hd, hlt⟩, ⟨hnx, hw⟩⟩ := hok
    subst hnx
    rw [Nat.add_sub_cancel_left] at hd
    simp only [kx_do] at h
    split at h
    · rename_i h2
      rw [if_pos h2, decide_eq_true_eq] at hw
      split at h
      · split at h
        · rename_i hc
          exact si_acopy C hd ((sx_aco_ok _ hw).1 _ (by simp)) (sx_cpy_ok _ (by simp)) (sx_cpy_ok _ (by simp)) (sx_cpy_ok _ (by simp)) hc.1 (sx_pr hc.2.1) (sx_pr hc.2.2.1) hc.2.2.2.1 hc.2.2.2.2.1 hc.2.2.2.2.2.1 hc.2.2.2.2.2.2.1 hc.2.2.2.2.2.2.2.1 hc.2.2.2.2.2.2.2.2 (by omega) (by omega) h.2
        · exact h.elim
      · exact h.elim
    · rename_i h2
      rw [if_neg h2] at hw
      simp only [Bool.and_eq_true, decide_eq_true_eq] at hw
      split at h
      · rename_i hc
        obtain ⟨v1, G2, μ2, g1, g2, g3, g4⟩ := h
        exact si_callS C hd hw.2 hc.1 hc.2 (hM _ _ _ _ _ _ _ (sx_css_ok _ hw.2).2.2 g1.1 g3 g1.2) g2 hRf hRl (by have := g3.1; exact Nat.le_trans (Nat.sub_le_sub_right this _) hRc) (by have := g3.2; exact Nat.le_trans (Nat.sub_le_sub_right this _) hRs) g4
      · exact h.elim
  case invokespecial i =>
    simp only [sx_okb, Bool.and_eq_true, decide_eq_true_eq] at hok
    obtain ⟨⟨hd, hlt⟩, ⟨hnx, hw⟩⟩ := hok
    subst hnx
    rw [Nat.add_sub_cancel_left] at hd
    simp only [kx_do] at h
    split at h
    · rename_i h2
      rw [if_pos h2, decide_eq_true_eq] at hw
      split at h
      · split at h
        · rename_i hc
          exact si_objinit C hd ((sx_obi_ok _ hw).1 _ (by simp)) (sx_obj_ok _ (by simp)) (sx_obj_ok _ (by simp)) hc (by omega) (by omega) h.2
        · exact h.elim
      · exact h.elim
    · rename_i h2
      rw [if_neg h2] at hw
      simp only [Bool.and_eq_true, Bool.or_eq_true, decide_eq_true_eq] at hw
      split at h
      · rename_i hst
        split at h
        · rename_i hc
          obtain ⟨v1, G2, μ2, g1, g2, g3, g4⟩ := h
          have hk : r1 < 204 := by rcases hw.2 with q | q; exact (sx_cis_ok _ q).2.2.2.2; exact (sx_cns_ok _ q).2.2.2.2
          exact si_callI C hd hw.2 hst hc.1 hc.2 (hM _ _ _ _ _ _ _ hk g1.1 g3 g1.2) g2 hRf hRl (by have := g3.1; exact Nat.le_trans (Nat.sub_le_sub_right this _) hRc) (by have := g3.2; exact Nat.le_trans (Nat.sub_le_sub_right this _) hRs) g4
        · exact h.elim
      · exact h.elim
  case invokevirtual i =>
    simp only [sx_okb, Bool.and_eq_true, decide_eq_true_eq] at hok
    obtain ⟨⟨hd, hlt⟩, ⟨hnx, hw⟩⟩ := hok
    subst hnx
    rw [Nat.add_sub_cancel_left] at hd
    simp only [kx_do] at h
    split at h
    · rename_i o as hst
      by_cases hc : (if tg.headD 0 = 8 then o = 105 else G.1 o = (1, tg.headD 0)) ∧ r2 ≤ st.length ∧ kx_cats (st.drop r2) ≤ 8
      · rw [if_pos hc] at h
        obtain ⟨v1, G2, μ2, g1, g2, g3, g4⟩ := h
        obtain ⟨ho, hc1, hc2⟩ := hc
        by_cases h8 : tg.headD 0 = 8
        · rw [if_pos h8, decide_eq_true_eq] at hw
          rw [if_pos h8] at ho
          subst ho
          exact si_callVS C hd hw hst hc1 hc2 (hM _ _ _ _ _ _ _ (sx_cvt_ok _ hw).2.2.2 g1.1 g3 g1.2) g2 hRf hRl (by have := g3.1; exact Nat.le_trans (Nat.sub_le_sub_right this _) hRc) (by have := g3.2; exact Nat.le_trans (Nat.sub_le_sub_right this _) hRs) g4
        · rw [if_neg h8, decide_eq_true_eq] at hw
          rw [if_neg h8] at ho
          exact si_callV C hd hw hst ho hc1 hc2 (hM _ _ _ _ _ _ _ (sx_cvs_ok _ hw).2.2.2.2 g1.1 g3 g1.2) g2 hRf hRl (by have := g3.1; exact Nat.le_trans (Nat.sub_le_sub_right this _) hRc) (by have := g3.2; exact Nat.le_trans (Nat.sub_le_sub_right this _) hRs) g4
      · rw [if_neg hc] at h; exact h.elim
    · exact h.elim
  all_goals first | exact h.elim | (simp only [kx_do] at h)
end SE
