section SI
variable {p : Program} {l : Launch} {e : Env} {R : Room} {s : State} {m : MethodId} {args : Array Value} {below : List Frame} {meth : Method} {c : Code} {cc : ByteArray} {nL L n0 s0 : Nat} {own : String} {Z : sx_Z} {D : va_G} {μ0 : kx_M} {Qf : State → Prop} {pc : Nat} {ls : kx_L} {st : List kx_V} {G : kx_G} {μ : kx_M}
theorem si_iadd {a b : Int} (C : sx_C p s m args c cc nL own Z D L μ0) (hd : decode cc pc = .ok (.iadd, 1)) (h : sx_at p l e R s m args below meth c nL Z D L μ0 n0 s0 Qf (pc + 1) ls (kI (a + b) :: st) G μ) : sx_at p l e R s m args below meth c nL Z D L μ0 n0 s0 Qf pc ls (kI (b) :: kI (a) :: st) G μ := by
  intro H locs lsA hR hS hl hn hs
  obtain ⟨hx, hb, hml, hown, hts, hE⟩ := C
  have h := h H locs lsA hR hS hl hn hs
  change W p l e R s m args below meth c H locs _ _ Qf (F0 m _ lsA (.int (Int32.ofInt (a + b)) :: st.map (sx_c Z))) at h
  change W p l e R s m args below meth c H locs _ _ Qf (F0 m pc lsA (.int (Int32.ofInt (b)) :: .int (Int32.ofInt (a)) :: st.map (sx_c Z)))
  rw [Int32.ofInt_add] at h
  exact lv_iadd hx hb hd h
theorem si_isub {a b : Int} (C : sx_C p s m args c cc nL own Z D L μ0) (hd : decode cc pc = .ok (.isub, 1)) (h : sx_at p l e R s m args below meth c nL Z D L μ0 n0 s0 Qf (pc + 1) ls (kI (a - b) :: st) G μ) : sx_at p l e R s m args below meth c nL Z D L μ0 n0 s0 Qf pc ls (kI (b) :: kI (a) :: st) G μ := by
  intro H locs lsA hR hS hl hn hs
  obtain ⟨hx, hb, hml, hown, hts, hE⟩ := C
  have h := h H locs lsA hR hS hl hn hs
  change W p l e R s m args below meth c H locs _ _ Qf (F0 m _ lsA (.int (Int32.ofInt (a - b)) :: st.map (sx_c Z))) at h
  change W p l e R s m args below meth c H locs _ _ Qf (F0 m pc lsA (.int (Int32.ofInt (b)) :: .int (Int32.ofInt (a)) :: st.map (sx_c Z)))
  rw [Int32.ofInt_sub] at h
  exact lv_isub hx hb hd h
theorem si_imul {a b : Int} (C : sx_C p s m args c cc nL own Z D L μ0) (hd : decode cc pc = .ok (.imul, 1)) (h : sx_at p l e R s m args below meth c nL Z D L μ0 n0 s0 Qf (pc + 1) ls (kI (a * b) :: st) G μ) : sx_at p l e R s m args below meth c nL Z D L μ0 n0 s0 Qf pc ls (kI (b) :: kI (a) :: st) G μ := by
  intro H locs lsA hR hS hl hn hs
  obtain ⟨hx, hb, hml, hown, hts, hE⟩ := C
  have h := h H locs lsA hR hS hl hn hs
  change W p l e R s m args below meth c H locs _ _ Qf (F0 m _ lsA (.int (Int32.ofInt (a * b)) :: st.map (sx_c Z))) at h
  change W p l e R s m args below meth c H locs _ _ Qf (F0 m pc lsA (.int (Int32.ofInt (b)) :: .int (Int32.ofInt (a)) :: st.map (sx_c Z)))
  rw [Int32.ofInt_mul] at h
  exact lv_imul hx hb hd h
theorem si_iand {a b : Int} (C : sx_C p s m args c cc nL own Z D L μ0) (hd : decode cc pc = .ok (.iand, 1)) (h : sx_at p l e R s m args below meth c nL Z D L μ0 n0 s0 Qf (pc + 1) ls (kI (kx_and a b) :: st) G μ) : sx_at p l e R s m args below meth c nL Z D L μ0 n0 s0 Qf pc ls (kI (b) :: kI (a) :: st) G μ := by
  intro H locs lsA hR hS hl hn hs
  obtain ⟨hx, hb, hml, hown, hts, hE⟩ := C
  have h := h H locs lsA hR hS hl hn hs
  change W p l e R s m args below meth c H locs _ _ Qf (F0 m _ lsA (.int (Int32.ofInt (kx_and a b)) :: st.map (sx_c Z))) at h
  change W p l e R s m args below meth c H locs _ _ Qf (F0 m pc lsA (.int (Int32.ofInt (b)) :: .int (Int32.ofInt (a)) :: st.map (sx_c Z)))
  rw [sx_and] at h
  exact lv_iand hx hb hd h
theorem si_ior {a b : Int} (C : sx_C p s m args c cc nL own Z D L μ0) (hd : decode cc pc = .ok (.ior, 1)) (h : sx_at p l e R s m args below meth c nL Z D L μ0 n0 s0 Qf (pc + 1) ls (kI (kx_or a b) :: st) G μ) : sx_at p l e R s m args below meth c nL Z D L μ0 n0 s0 Qf pc ls (kI (b) :: kI (a) :: st) G μ := by
  intro H locs lsA hR hS hl hn hs
  obtain ⟨hx, hb, hml, hown, hts, hE⟩ := C
  have h := h H locs lsA hR hS hl hn hs
  change W p l e R s m args below meth c H locs _ _ Qf (F0 m _ lsA (.int (Int32.ofInt (kx_or a b)) :: st.map (sx_c Z))) at h
  change W p l e R s m args below meth c H locs _ _ Qf (F0 m pc lsA (.int (Int32.ofInt (b)) :: .int (Int32.ofInt (a)) :: st.map (sx_c Z)))
  rw [sx_or] at h
  exact lv_ior hx hb hd h
theorem si_ixor {a b : Int} (C : sx_C p s m args c cc nL own Z D L μ0) (hd : decode cc pc = .ok (.ixor, 1)) (h : sx_at p l e R s m args below meth c nL Z D L μ0 n0 s0 Qf (pc + 1) ls (kI (kx_xor a b) :: st) G μ) : sx_at p l e R s m args below meth c nL Z D L μ0 n0 s0 Qf pc ls (kI (b) :: kI (a) :: st) G μ := by
  intro H locs lsA hR hS hl hn hs
  obtain ⟨hx, hb, hml, hown, hts, hE⟩ := C
  have h := h H locs lsA hR hS hl hn hs
  change W p l e R s m args below meth c H locs _ _ Qf (F0 m _ lsA (.int (Int32.ofInt (kx_xor a b)) :: st.map (sx_c Z))) at h
  change W p l e R s m args below meth c H locs _ _ Qf (F0 m pc lsA (.int (Int32.ofInt (b)) :: .int (Int32.ofInt (a)) :: st.map (sx_c Z)))
  rw [sx_xor] at h
  exact lv_ixor hx hb hd h
theorem si_idiv {a b : Int} (C : sx_C p s m args c cc nL own Z D L μ0) (hd : decode cc pc = .ok (.idiv, 1)) (ha : kx_in a) (hbb : kx_in b) (hz : b ≠ 0) (h : sx_at p l e R s m args below meth c nL Z D L μ0 n0 s0 Qf (pc + 1) ls (kI (a.tdiv b) :: st) G μ) : sx_at p l e R s m args below meth c nL Z D L μ0 n0 s0 Qf pc ls (kI (b) :: kI (a) :: st) G μ := by
  intro H locs lsA hR hS hl hn hs
  obtain ⟨hx, hb, hml, hown, hts, hE⟩ := C
  have h := h H locs lsA hR hS hl hn hs
  change W p l e R s m args below meth c H locs _ _ Qf (F0 m _ lsA (.int (Int32.ofInt (a.tdiv b)) :: st.map (sx_c Z))) at h
  change W p l e R s m args below meth c H locs _ _ Qf (F0 m pc lsA (.int (Int32.ofInt (b)) :: .int (Int32.ofInt (a)) :: st.map (sx_c Z)))
  rw [sx_div ha hbb] at h
  exact lv_idiv hx hb hd (sx_ne0 hbb hz) h
theorem si_irem {a b : Int} (C : sx_C p s m args c cc nL own Z D L μ0) (hd : decode cc pc = .ok (.irem, 1)) (ha : kx_in a) (hbb : kx_in b) (hz : b ≠ 0) (h : sx_at p l e R s m args below meth c nL Z D L μ0 n0 s0 Qf (pc + 1) ls (kI (a.tmod b) :: st) G μ) : sx_at p l e R s m args below meth c nL Z D L μ0 n0 s0 Qf pc ls (kI (b) :: kI (a) :: st) G μ := by
  intro H locs lsA hR hS hl hn hs
  obtain ⟨hx, hb, hml, hown, hts, hE⟩ := C
  have h := h H locs lsA hR hS hl hn hs
  change W p l e R s m args below meth c H locs _ _ Qf (F0 m _ lsA (.int (Int32.ofInt (a.tmod b)) :: st.map (sx_c Z))) at h
  change W p l e R s m args below meth c H locs _ _ Qf (F0 m pc lsA (.int (Int32.ofInt (b)) :: .int (Int32.ofInt (a)) :: st.map (sx_c Z)))
  rw [sx_rem ha hbb] at h
  exact lv_irem hx hb hd (sx_ne0 hbb hz) h
theorem si_ineg {a : Int} (C : sx_C p s m args c cc nL own Z D L μ0) (hd : decode cc pc = .ok (.ineg, 1)) (h : sx_at p l e R s m args below meth c nL Z D L μ0 n0 s0 Qf (pc + 1) ls (kI (-a) :: st) G μ) : sx_at p l e R s m args below meth c nL Z D L μ0 n0 s0 Qf pc ls (kI (a) :: st) G μ := by
  intro H locs lsA hR hS hl hn hs
  obtain ⟨hx, hb, hml, hown, hts, hE⟩ := C
  have h := h H locs lsA hR hS hl hn hs
  change W p l e R s m args below meth c H locs _ _ Qf (F0 m _ lsA (.int (Int32.ofInt (-a)) :: st.map (sx_c Z))) at h
  change W p l e R s m args below meth c H locs _ _ Qf (F0 m pc lsA (.int (Int32.ofInt (a)) :: st.map (sx_c Z)))
  rw [Int32.ofInt_neg] at h
  exact lv_ineg hx hb hd h
theorem si_ishl {a b : Int} (C : sx_C p s m args c cc nL own Z D L μ0) (hd : decode cc pc = .ok (.ishl, 1)) (h0 : 0 ≤ b) (h1 : b < 32) (h : sx_at p l e R s m args below meth c nL Z D L μ0 n0 s0 Qf (pc + 1) ls (kI (a * 2 ^ b.toNat) :: st) G μ) : sx_at p l e R s m args below meth c nL Z D L μ0 n0 s0 Qf pc ls (kI (b) :: kI (a) :: st) G μ := by
  intro H locs lsA hR hS hl hn hs
  obtain ⟨hx, hb, hml, hown, hts, hE⟩ := C
  have h := h H locs lsA hR hS hl hn hs
  change W p l e R s m args below meth c H locs _ _ Qf (F0 m _ lsA (.int (Int32.ofInt (a * 2 ^ b.toNat)) :: st.map (sx_c Z))) at h
  change W p l e R s m args below meth c H locs _ _ Qf (F0 m pc lsA (.int (Int32.ofInt (b)) :: .int (Int32.ofInt (a)) :: st.map (sx_c Z)))
  rw [sx_shl h0 h1] at h
  exact lv_ishl hx hb hd h
theorem si_ishr {a b : Int} (C : sx_C p s m args c cc nL own Z D L μ0) (hd : decode cc pc = .ok (.ishr, 1)) (h0 : 0 ≤ b) (h1 : b < 32) (h : sx_at p l e R s m args below meth c nL Z D L μ0 n0 s0 Qf (pc + 1) ls (kI (a.bmod 4294967296 / 2 ^ b.toNat) :: st) G μ) : sx_at p l e R s m args below meth c nL Z D L μ0 n0 s0 Qf pc ls (kI (b) :: kI (a) :: st) G μ := by
  intro H locs lsA hR hS hl hn hs
  obtain ⟨hx, hb, hml, hown, hts, hE⟩ := C
  have h := h H locs lsA hR hS hl hn hs
  change W p l e R s m args below meth c H locs _ _ Qf (F0 m _ lsA (.int (Int32.ofInt (a.bmod 4294967296 / 2 ^ b.toNat)) :: st.map (sx_c Z))) at h
  change W p l e R s m args below meth c H locs _ _ Qf (F0 m pc lsA (.int (Int32.ofInt (b)) :: .int (Int32.ofInt (a)) :: st.map (sx_c Z)))
  rw [sx_shr h0 h1] at h
  exact lv_ishr hx hb hd h
theorem si_iushr {a b : Int} (C : sx_C p s m args c cc nL own Z D L μ0) (hd : decode cc pc = .ok (.iushr, 1)) (h0 : 0 ≤ b) (h1 : b < 32) (h2 : 0 ≤ a) (h3 : a ≤ 2147483647) (h : sx_at p l e R s m args below meth c nL Z D L μ0 n0 s0 Qf (pc + 1) ls (kI (a / 2 ^ b.toNat) :: st) G μ) : sx_at p l e R s m args below meth c nL Z D L μ0 n0 s0 Qf pc ls (kI (b) :: kI (a) :: st) G μ := by
  intro H locs lsA hR hS hl hn hs
  obtain ⟨hx, hb, hml, hown, hts, hE⟩ := C
  have h := h H locs lsA hR hS hl hn hs
  change W p l e R s m args below meth c H locs _ _ Qf (F0 m _ lsA (.int (Int32.ofInt (a / 2 ^ b.toNat)) :: st.map (sx_c Z))) at h
  change W p l e R s m args below meth c H locs _ _ Qf (F0 m pc lsA (.int (Int32.ofInt (b)) :: .int (Int32.ofInt (a)) :: st.map (sx_c Z)))
  exact lv_iushr hx hb hd (sx_ushr h0 h1 h2 h3) h
theorem si_ladd {a b : Int} (C : sx_C p s m args c cc nL own Z D L μ0) (hd : decode cc pc = .ok (.ladd, 1)) (h : sx_at p l e R s m args below meth c nL Z D L μ0 n0 s0 Qf (pc + 1) ls (kL (a + b) :: st) G μ) : sx_at p l e R s m args below meth c nL Z D L μ0 n0 s0 Qf pc ls (kL (b) :: kL (a) :: st) G μ := by
  intro H locs lsA hR hS hl hn hs
  obtain ⟨hx, hb, hml, hown, hts, hE⟩ := C
  have h := h H locs lsA hR hS hl hn hs
  change W p l e R s m args below meth c H locs _ _ Qf (F0 m _ lsA (.long (Int64.ofInt (a + b)) :: st.map (sx_c Z))) at h
  change W p l e R s m args below meth c H locs _ _ Qf (F0 m pc lsA (.long (Int64.ofInt (b)) :: .long (Int64.ofInt (a)) :: st.map (sx_c Z)))
  rw [Int64.ofInt_add] at h
  exact lv_ladd hx hb hd h
theorem si_lsub {a b : Int} (C : sx_C p s m args c cc nL own Z D L μ0) (hd : decode cc pc = .ok (.lsub, 1)) (h : sx_at p l e R s m args below meth c nL Z D L μ0 n0 s0 Qf (pc + 1) ls (kL (a - b) :: st) G μ) : sx_at p l e R s m args below meth c nL Z D L μ0 n0 s0 Qf pc ls (kL (b) :: kL (a) :: st) G μ := by
  intro H locs lsA hR hS hl hn hs
  obtain ⟨hx, hb, hml, hown, hts, hE⟩ := C
  have h := h H locs lsA hR hS hl hn hs
  change W p l e R s m args below meth c H locs _ _ Qf (F0 m _ lsA (.long (Int64.ofInt (a - b)) :: st.map (sx_c Z))) at h
  change W p l e R s m args below meth c H locs _ _ Qf (F0 m pc lsA (.long (Int64.ofInt (b)) :: .long (Int64.ofInt (a)) :: st.map (sx_c Z)))
  rw [Int64.ofInt_sub] at h
  exact lv_lsub hx hb hd h
theorem si_lor {a b : Int} (C : sx_C p s m args c cc nL own Z D L μ0) (hd : decode cc pc = .ok (.lor, 1)) (h : sx_at p l e R s m args below meth c nL Z D L μ0 n0 s0 Qf (pc + 1) ls (kL (kx_lor a b) :: st) G μ) : sx_at p l e R s m args below meth c nL Z D L μ0 n0 s0 Qf pc ls (kL (b) :: kL (a) :: st) G μ := by
  intro H locs lsA hR hS hl hn hs
  obtain ⟨hx, hb, hml, hown, hts, hE⟩ := C
  have h := h H locs lsA hR hS hl hn hs
  change W p l e R s m args below meth c H locs _ _ Qf (F0 m _ lsA (.long (Int64.ofInt (kx_lor a b)) :: st.map (sx_c Z))) at h
  change W p l e R s m args below meth c H locs _ _ Qf (F0 m pc lsA (.long (Int64.ofInt (b)) :: .long (Int64.ofInt (a)) :: st.map (sx_c Z)))
  rw [sx_lor] at h
  exact lv_lor hx hb hd h
theorem si_lshl {a b : Int} (C : sx_C p s m args c cc nL own Z D L μ0) (hd : decode cc pc = .ok (.lshl, 1)) (h0 : 0 ≤ b) (h1 : b < 64) (h : sx_at p l e R s m args below meth c nL Z D L μ0 n0 s0 Qf (pc + 1) ls (kL (a * 2 ^ b.toNat) :: st) G μ) : sx_at p l e R s m args below meth c nL Z D L μ0 n0 s0 Qf pc ls (kI (b) :: kL (a) :: st) G μ := by
  intro H locs lsA hR hS hl hn hs
  obtain ⟨hx, hb, hml, hown, hts, hE⟩ := C
  have h := h H locs lsA hR hS hl hn hs
  change W p l e R s m args below meth c H locs _ _ Qf (F0 m _ lsA (.long (Int64.ofInt (a * 2 ^ b.toNat)) :: st.map (sx_c Z))) at h
  change W p l e R s m args below meth c H locs _ _ Qf (F0 m pc lsA (.int (Int32.ofInt (b)) :: .long (Int64.ofInt (a)) :: st.map (sx_c Z)))
  exact lv_lshl hx hb hd (sx_lsh h0 h1 a) h
theorem si_i2l {a : Int} (C : sx_C p s m args c cc nL own Z D L μ0) (hd : decode cc pc = .ok (.i2l, 1)) (ha : kx_in a) (h : sx_at p l e R s m args below meth c nL Z D L μ0 n0 s0 Qf (pc + 1) ls (kL (a) :: st) G μ) : sx_at p l e R s m args below meth c nL Z D L μ0 n0 s0 Qf pc ls (kI (a) :: st) G μ := by
  intro H locs lsA hR hS hl hn hs
  obtain ⟨hx, hb, hml, hown, hts, hE⟩ := C
  have h := h H locs lsA hR hS hl hn hs
  change W p l e R s m args below meth c H locs _ _ Qf (F0 m _ lsA (.long (Int64.ofInt (a)) :: st.map (sx_c Z))) at h
  change W p l e R s m args below meth c H locs _ _ Qf (F0 m pc lsA (.int (Int32.ofInt (a)) :: st.map (sx_c Z)))
  exact lv_i2l hx hb hd (sx_i2l ha) h
theorem si_i2b {a : Int} (C : sx_C p s m args c cc nL own Z D L μ0) (hd : decode cc pc = .ok (.i2b, 1)) (h : sx_at p l e R s m args below meth c nL Z D L μ0 n0 s0 Qf (pc + 1) ls (kI (a.bmod 256) :: st) G μ) : sx_at p l e R s m args below meth c nL Z D L μ0 n0 s0 Qf pc ls (kI (a) :: st) G μ := by
  intro H locs lsA hR hS hl hn hs
  obtain ⟨hx, hb, hml, hown, hts, hE⟩ := C
  have h := h H locs lsA hR hS hl hn hs
  change W p l e R s m args below meth c H locs _ _ Qf (F0 m _ lsA (.int (Int32.ofInt (a.bmod 256)) :: st.map (sx_c Z))) at h
  change W p l e R s m args below meth c H locs _ _ Qf (F0 m pc lsA (.int (Int32.ofInt (a)) :: st.map (sx_c Z)))
  exact lv_i2b hx hb hd (sx_i2b a) h
theorem si_i2s {a : Int} (C : sx_C p s m args c cc nL own Z D L μ0) (hd : decode cc pc = .ok (.i2s, 1)) (h : sx_at p l e R s m args below meth c nL Z D L μ0 n0 s0 Qf (pc + 1) ls (kI (a.bmod 65536) :: st) G μ) : sx_at p l e R s m args below meth c nL Z D L μ0 n0 s0 Qf pc ls (kI (a) :: st) G μ := by
  intro H locs lsA hR hS hl hn hs
  obtain ⟨hx, hb, hml, hown, hts, hE⟩ := C
  have h := h H locs lsA hR hS hl hn hs
  change W p l e R s m args below meth c H locs _ _ Qf (F0 m _ lsA (.int (Int32.ofInt (a.bmod 65536)) :: st.map (sx_c Z))) at h
  change W p l e R s m args below meth c H locs _ _ Qf (F0 m pc lsA (.int (Int32.ofInt (a)) :: st.map (sx_c Z)))
  exact lv_i2s hx hb hd (sx_i2s a) h
theorem si_i2c {a : Int} (C : sx_C p s m args c cc nL own Z D L μ0) (hd : decode cc pc = .ok (.i2c, 1)) (h : sx_at p l e R s m args below meth c nL Z D L μ0 n0 s0 Qf (pc + 1) ls (kI (a % 65536) :: st) G μ) : sx_at p l e R s m args below meth c nL Z D L μ0 n0 s0 Qf pc ls (kI (a) :: st) G μ := by
  intro H locs lsA hR hS hl hn hs
  obtain ⟨hx, hb, hml, hown, hts, hE⟩ := C
  have h := h H locs lsA hR hS hl hn hs
  change W p l e R s m args below meth c H locs _ _ Qf (F0 m _ lsA (.int (Int32.ofInt (a % 65536)) :: st.map (sx_c Z))) at h
  change W p l e R s m args below meth c H locs _ _ Qf (F0 m pc lsA (.int (Int32.ofInt (a)) :: st.map (sx_c Z)))
  exact lv_i2c hx hb hd (sx_i2c a) h
theorem si_dup {a : Int} (C : sx_C p s m args c cc nL own Z D L μ0) (hd : decode cc pc = .ok (.dup, 1)) (h : sx_at p l e R s m args below meth c nL Z D L μ0 n0 s0 Qf (pc + 1) ls (kI (a) :: kI (a) :: st) G μ) : sx_at p l e R s m args below meth c nL Z D L μ0 n0 s0 Qf pc ls (kI (a) :: st) G μ := by
  intro H locs lsA hR hS hl hn hs
  obtain ⟨hx, hb, hml, hown, hts, hE⟩ := C
  have h := h H locs lsA hR hS hl hn hs
  change W p l e R s m args below meth c H locs _ _ Qf (F0 m _ lsA (.int (Int32.ofInt (a)) :: .int (Int32.ofInt (a)) :: st.map (sx_c Z))) at h
  change W p l e R s m args below meth c H locs _ _ Qf (F0 m pc lsA (.int (Int32.ofInt (a)) :: st.map (sx_c Z)))
  exact lv_dup hx hb hd rfl h
theorem si_dupR {a : Nat} (C : sx_C p s m args c cc nL own Z D L μ0) (hd : decode cc pc = .ok (.dup, 1)) (h : sx_at p l e R s m args below meth c nL Z D L μ0 n0 s0 Qf (pc + 1) ls (kR (a) :: kR (a) :: st) G μ) : sx_at p l e R s m args below meth c nL Z D L μ0 n0 s0 Qf pc ls (kR (a) :: st) G μ := by
  intro H locs lsA hR hS hl hn hs
  obtain ⟨hx, hb, hml, hown, hts, hE⟩ := C
  have h := h H locs lsA hR hS hl hn hs
  change W p l e R s m args below meth c H locs _ _ Qf (F0 m _ lsA (.ref (sx_ad Z (a)) :: .ref (sx_ad Z (a)) :: st.map (sx_c Z))) at h
  change W p l e R s m args below meth c H locs _ _ Qf (F0 m pc lsA (.ref (sx_ad Z (a)) :: st.map (sx_c Z)))
  exact lv_dup hx hb hd rfl h
theorem si_dup2 {a : Nat} {b : Int} (C : sx_C p s m args c cc nL own Z D L μ0) (hd : decode cc pc = .ok (.dup2, 1)) (h : sx_at p l e R s m args below meth c nL Z D L μ0 n0 s0 Qf (pc + 1) ls (kI (b) :: kR (a) :: kI (b) :: kR (a) :: st) G μ) : sx_at p l e R s m args below meth c nL Z D L μ0 n0 s0 Qf pc ls (kI (b) :: kR (a) :: st) G μ := by
  intro H locs lsA hR hS hl hn hs
  obtain ⟨hx, hb, hml, hown, hts, hE⟩ := C
  have h := h H locs lsA hR hS hl hn hs
  change W p l e R s m args below meth c H locs _ _ Qf (F0 m _ lsA (.int (Int32.ofInt (b)) :: .ref (sx_ad Z (a)) :: .int (Int32.ofInt (b)) :: .ref (sx_ad Z (a)) :: st.map (sx_c Z))) at h
  change W p l e R s m args below meth c H locs _ _ Qf (F0 m pc lsA (.int (Int32.ofInt (b)) :: .ref (sx_ad Z (a)) :: st.map (sx_c Z)))
  exact lv_dup2_11 hx hb hd rfl rfl h
theorem si_pop {a : Int} (C : sx_C p s m args c cc nL own Z D L μ0) (hd : decode cc pc = .ok (.pop, 1)) (h : sx_at p l e R s m args below meth c nL Z D L μ0 n0 s0 Qf (pc + 1) ls (st) G μ) : sx_at p l e R s m args below meth c nL Z D L μ0 n0 s0 Qf pc ls (kI (a) :: st) G μ := by
  intro H locs lsA hR hS hl hn hs
  obtain ⟨hx, hb, hml, hown, hts, hE⟩ := C
  have h := h H locs lsA hR hS hl hn hs
  change W p l e R s m args below meth c H locs _ _ Qf (F0 m _ lsA (st.map (sx_c Z))) at h
  change W p l e R s m args below meth c H locs _ _ Qf (F0 m pc lsA (.int (Int32.ofInt (a)) :: st.map (sx_c Z)))
  exact lv_pop hx hb hd rfl h
theorem si_iconst {i r : Int} (C : sx_C p s m args c cc nL own Z D L μ0) (hd : decode cc pc = .ok (.iconst i, 1)) (hi : i = r) (h : sx_at p l e R s m args below meth c nL Z D L μ0 n0 s0 Qf (pc + 1) ls (kI (r) :: st) G μ) : sx_at p l e R s m args below meth c nL Z D L μ0 n0 s0 Qf pc ls (st) G μ := by
  intro H locs lsA hR hS hl hn hs
  obtain ⟨hx, hb, hml, hown, hts, hE⟩ := C
  have h := h H locs lsA hR hS hl hn hs
  change W p l e R s m args below meth c H locs _ _ Qf (F0 m _ lsA (.int (Int32.ofInt (r)) :: st.map (sx_c Z))) at h
  change W p l e R s m args below meth c H locs _ _ Qf (F0 m pc lsA (st.map (sx_c Z)))
  exact lv_iconst hx hb hd (by rw [hi]) h
theorem si_bipush {i r : Int} (C : sx_C p s m args c cc nL own Z D L μ0) (hd : decode cc pc = .ok (.bipush i, 2)) (hi : (Int8.ofInt i).toInt32 = Int32.ofInt r) (h : sx_at p l e R s m args below meth c nL Z D L μ0 n0 s0 Qf (pc + 2) ls (kI (r) :: st) G μ) : sx_at p l e R s m args below meth c nL Z D L μ0 n0 s0 Qf pc ls (st) G μ := by
  intro H locs lsA hR hS hl hn hs
  obtain ⟨hx, hb, hml, hown, hts, hE⟩ := C
  have h := h H locs lsA hR hS hl hn hs
  change W p l e R s m args below meth c H locs _ _ Qf (F0 m _ lsA (.int (Int32.ofInt (r)) :: st.map (sx_c Z))) at h
  change W p l e R s m args below meth c H locs _ _ Qf (F0 m pc lsA (st.map (sx_c Z)))
  exact lv_bipush hx hb hd hi h
theorem si_sipush {i r : Int} (C : sx_C p s m args c cc nL own Z D L μ0) (hd : decode cc pc = .ok (.sipush i, 3)) (hi : (Int16.ofInt i).toInt32 = Int32.ofInt r) (h : sx_at p l e R s m args below meth c nL Z D L μ0 n0 s0 Qf (pc + 3) ls (kI (r) :: st) G μ) : sx_at p l e R s m args below meth c nL Z D L μ0 n0 s0 Qf pc ls (st) G μ := by
  intro H locs lsA hR hS hl hn hs
  obtain ⟨hx, hb, hml, hown, hts, hE⟩ := C
  have h := h H locs lsA hR hS hl hn hs
  change W p l e R s m args below meth c H locs _ _ Qf (F0 m _ lsA (.int (Int32.ofInt (r)) :: st.map (sx_c Z))) at h
  change W p l e R s m args below meth c H locs _ _ Qf (F0 m pc lsA (st.map (sx_c Z)))
  exact lv_sipush hx hb hd hi h
theorem si_lconst {i : Fin 2} {r : Int} (C : sx_C p s m args c cc nL own Z D L μ0) (hd : decode cc pc = .ok (.lconst i, 1)) (hi : Int64.ofNat (i : Nat) = Int64.ofInt r) (h : sx_at p l e R s m args below meth c nL Z D L μ0 n0 s0 Qf (pc + 1) ls (kL (r) :: st) G μ) : sx_at p l e R s m args below meth c nL Z D L μ0 n0 s0 Qf pc ls (st) G μ := by
  intro H locs lsA hR hS hl hn hs
  obtain ⟨hx, hb, hml, hown, hts, hE⟩ := C
  have h := h H locs lsA hR hS hl hn hs
  change W p l e R s m args below meth c H locs _ _ Qf (F0 m _ lsA (.long (Int64.ofInt (r)) :: st.map (sx_c Z))) at h
  change W p l e R s m args below meth c H locs _ _ Qf (F0 m pc lsA (st.map (sx_c Z)))
  exact lv_lconst hx hb hd hi h
theorem si_ldc {i : Nat} {r : Int} (C : sx_C p s m args c cc nL own Z D L μ0) (hd : decode cc pc = .ok (.ldc i, 2)) (hw : Jvm.Cond.constant own i (Int32.ofInt r) ∈ sx_tb) (h : sx_at p l e R s m args below meth c nL Z D L μ0 n0 s0 Qf (pc + 2) ls (kI (r) :: st) G μ) : sx_at p l e R s m args below meth c nL Z D L μ0 n0 s0 Qf pc ls (st) G μ := by
  intro H locs lsA hR hS hl hn hs
  obtain ⟨hx, hb, hml, hown, hts, hE⟩ := C
  have h := h H locs lsA hR hS hl hn hs
  change W p l e R s m args below meth c H locs _ _ Qf (F0 m _ lsA (.int (Int32.ofInt (r)) :: st.map (sx_c Z))) at h
  change W p l e R s m args below meth c H locs _ _ Qf (F0 m pc lsA (st.map (sx_c Z)))
  exact lv_ldc hx hb hown (hts _ hw) hd h
theorem si_ldc_w {i : Nat} {r : Int} (C : sx_C p s m args c cc nL own Z D L μ0) (hd : decode cc pc = .ok (.ldc_w i, 3)) (hw : Jvm.Cond.constant own i (Int32.ofInt r) ∈ sx_tb) (h : sx_at p l e R s m args below meth c nL Z D L μ0 n0 s0 Qf (pc + 3) ls (kI (r) :: st) G μ) : sx_at p l e R s m args below meth c nL Z D L μ0 n0 s0 Qf pc ls (st) G μ := by
  intro H locs lsA hR hS hl hn hs
  obtain ⟨hx, hb, hml, hown, hts, hE⟩ := C
  have h := h H locs lsA hR hS hl hn hs
  change W p l e R s m args below meth c H locs _ _ Qf (F0 m _ lsA (.int (Int32.ofInt (r)) :: st.map (sx_c Z))) at h
  change W p l e R s m args below meth c H locs _ _ Qf (F0 m pc lsA (st.map (sx_c Z)))
  exact lv_ldcw hx hb hown (hts _ hw) hd h
theorem si_ldc2_w {i : Nat} {r : Int} (C : sx_C p s m args c cc nL own Z D L μ0) (hd : decode cc pc = .ok (.ldc2_w i, 3)) (hw : Jvm.Cond.constantLong own i (Int64.ofInt r) ∈ sx_tb) (h : sx_at p l e R s m args below meth c nL Z D L μ0 n0 s0 Qf (pc + 3) ls (kL (r) :: st) G μ) : sx_at p l e R s m args below meth c nL Z D L μ0 n0 s0 Qf pc ls (st) G μ := by
  intro H locs lsA hR hS hl hn hs
  obtain ⟨hx, hb, hml, hown, hts, hE⟩ := C
  have h := h H locs lsA hR hS hl hn hs
  change W p l e R s m args below meth c H locs _ _ Qf (F0 m _ lsA (.long (Int64.ofInt (r)) :: st.map (sx_c Z))) at h
  change W p l e R s m args below meth c H locs _ _ Qf (F0 m pc lsA (st.map (sx_c Z)))
  exact lv_ldc2 hx hb hown (hts _ hw) hd h
theorem si_iload_n {i : Fin 4} {r : Nat} {x : Int} (C : sx_C p s m args c cc nL own Z D L μ0) (hd : decode cc pc = .ok (.iload_n i, 1)) (hi : (i : Nat) = r) (hg : kx_get ls r = some (kI x)) (h : sx_at p l e R s m args below meth c nL Z D L μ0 n0 s0 Qf (pc + 1) ls (kI (x) :: st) G μ) : sx_at p l e R s m args below meth c nL Z D L μ0 n0 s0 Qf pc ls (st) G μ := by
  intro H locs lsA hR hS hl hn hs
  obtain ⟨hx, hb, hml, hown, hts, hE⟩ := C
  have h := h H locs lsA hR hS hl hn hs
  change W p l e R s m args below meth c H locs _ _ Qf (F0 m _ lsA (.int (Int32.ofInt (x)) :: st.map (sx_c Z))) at h
  change W p l e R s m args below meth c H locs _ _ Qf (F0 m pc lsA (st.map (sx_c Z)))
  exact lv_iload_n hx hb hd hi (hl.2.2.2 _ _ hg) h
theorem si_iload {i : Nat} {r : Nat} {x : Int} (C : sx_C p s m args c cc nL own Z D L μ0) (hd : decode cc pc = .ok (.iload i, 2)) (hi : i = r) (hg : kx_get ls r = some (kI x)) (h : sx_at p l e R s m args below meth c nL Z D L μ0 n0 s0 Qf (pc + 2) ls (kI (x) :: st) G μ) : sx_at p l e R s m args below meth c nL Z D L μ0 n0 s0 Qf pc ls (st) G μ := by
  intro H locs lsA hR hS hl hn hs
  obtain ⟨hx, hb, hml, hown, hts, hE⟩ := C
  have h := h H locs lsA hR hS hl hn hs
  change W p l e R s m args below meth c H locs _ _ Qf (F0 m _ lsA (.int (Int32.ofInt (x)) :: st.map (sx_c Z))) at h
  change W p l e R s m args below meth c H locs _ _ Qf (F0 m pc lsA (st.map (sx_c Z)))
  subst hi
  exact lv_iload hx hb hd (hl.2.2.2 _ _ hg) h
theorem si_lload_n {i : Fin 4} {r : Nat} {x : Int} (C : sx_C p s m args c cc nL own Z D L μ0) (hd : decode cc pc = .ok (.lload_n i, 1)) (hi : (i : Nat) = r) (hg : kx_get ls r = some (kL x)) (h : sx_at p l e R s m args below meth c nL Z D L μ0 n0 s0 Qf (pc + 1) ls (kL (x) :: st) G μ) : sx_at p l e R s m args below meth c nL Z D L μ0 n0 s0 Qf pc ls (st) G μ := by
  intro H locs lsA hR hS hl hn hs
  obtain ⟨hx, hb, hml, hown, hts, hE⟩ := C
  have h := h H locs lsA hR hS hl hn hs
  change W p l e R s m args below meth c H locs _ _ Qf (F0 m _ lsA (.long (Int64.ofInt (x)) :: st.map (sx_c Z))) at h
  change W p l e R s m args below meth c H locs _ _ Qf (F0 m pc lsA (st.map (sx_c Z)))
  exact lv_lload_n hx hb hd hi (hl.2.2.2 _ _ hg) h
theorem si_lload {i : Nat} {r : Nat} {x : Int} (C : sx_C p s m args c cc nL own Z D L μ0) (hd : decode cc pc = .ok (.lload i, 2)) (hi : i = r) (hg : kx_get ls r = some (kL x)) (h : sx_at p l e R s m args below meth c nL Z D L μ0 n0 s0 Qf (pc + 2) ls (kL (x) :: st) G μ) : sx_at p l e R s m args below meth c nL Z D L μ0 n0 s0 Qf pc ls (st) G μ := by
  intro H locs lsA hR hS hl hn hs
  obtain ⟨hx, hb, hml, hown, hts, hE⟩ := C
  have h := h H locs lsA hR hS hl hn hs
  change W p l e R s m args below meth c H locs _ _ Qf (F0 m _ lsA (.long (Int64.ofInt (x)) :: st.map (sx_c Z))) at h
  change W p l e R s m args below meth c H locs _ _ Qf (F0 m pc lsA (st.map (sx_c Z)))
  subst hi
  exact lv_lload hx hb hd (hl.2.2.2 _ _ hg) h
theorem si_aload_n {i : Fin 4} {r : Nat} {x : Nat} (C : sx_C p s m args c cc nL own Z D L μ0) (hd : decode cc pc = .ok (.aload_n i, 1)) (hi : (i : Nat) = r) (hg : kx_get ls r = some (kR x)) (h : sx_at p l e R s m args below meth c nL Z D L μ0 n0 s0 Qf (pc + 1) ls (kR (x) :: st) G μ) : sx_at p l e R s m args below meth c nL Z D L μ0 n0 s0 Qf pc ls (st) G μ := by
  intro H locs lsA hR hS hl hn hs
  obtain ⟨hx, hb, hml, hown, hts, hE⟩ := C
  have h := h H locs lsA hR hS hl hn hs
  change W p l e R s m args below meth c H locs _ _ Qf (F0 m _ lsA (.ref (sx_ad Z (x)) :: st.map (sx_c Z))) at h
  change W p l e R s m args below meth c H locs _ _ Qf (F0 m pc lsA (st.map (sx_c Z)))
  exact lv_aload_n hx hb hd hi (hl.2.2.2 _ _ hg) h
theorem si_aload {i : Nat} {r : Nat} {x : Nat} (C : sx_C p s m args c cc nL own Z D L μ0) (hd : decode cc pc = .ok (.aload i, 2)) (hi : i = r) (hg : kx_get ls r = some (kR x)) (h : sx_at p l e R s m args below meth c nL Z D L μ0 n0 s0 Qf (pc + 2) ls (kR (x) :: st) G μ) : sx_at p l e R s m args below meth c nL Z D L μ0 n0 s0 Qf pc ls (st) G μ := by
  intro H locs lsA hR hS hl hn hs
  obtain ⟨hx, hb, hml, hown, hts, hE⟩ := C
  have h := h H locs lsA hR hS hl hn hs
  change W p l e R s m args below meth c H locs _ _ Qf (F0 m _ lsA (.ref (sx_ad Z (x)) :: st.map (sx_c Z))) at h
  change W p l e R s m args below meth c H locs _ _ Qf (F0 m pc lsA (st.map (sx_c Z)))
  subst hi
  exact lv_aload hx hb hd (hl.2.2.2 _ _ hg) h
theorem si_istore_n {i : Fin 4} {r : Nat} {x : Int} (C : sx_C p s m args c cc nL own Z D L μ0) (hd : decode cc pc = .ok (.istore_n i, 1)) (hi : (i : Nat) = r) (hr : r < nL) (h : sx_at p l e R s m args below meth c nL Z D L μ0 n0 s0 Qf (pc + 1) (kx_set1 ls r (kI x)) st G μ) : sx_at p l e R s m args below meth c nL Z D L μ0 n0 s0 Qf pc ls (kI x :: st) G μ := by
  intro H locs lsA hR hS hl hn hs
  obtain ⟨hx, hb, hml, hown, hts, hE⟩ := C
  change W p l e R s m args below meth c H locs _ _ Qf (F0 m pc lsA (.int (Int32.ofInt (x)) :: st.map (sx_c Z)))
  refine lv_istore_n hx hb hd hi (sx_lv_has hl) hr rfl (fun ls' hl' => ?_)
  exact h H locs ls' hR hS (sx_lv_set1 (v := kI x) hl.1 hr hl') hn hs
theorem si_istore {i : Nat} {r : Nat} {x : Int} (C : sx_C p s m args c cc nL own Z D L μ0) (hd : decode cc pc = .ok (.istore i, 2)) (hi : i = r) (hr : r < nL) (h : sx_at p l e R s m args below meth c nL Z D L μ0 n0 s0 Qf (pc + 2) (kx_set1 ls r (kI x)) st G μ) : sx_at p l e R s m args below meth c nL Z D L μ0 n0 s0 Qf pc ls (kI x :: st) G μ := by
  intro H locs lsA hR hS hl hn hs
  obtain ⟨hx, hb, hml, hown, hts, hE⟩ := C
  change W p l e R s m args below meth c H locs _ _ Qf (F0 m pc lsA (.int (Int32.ofInt (x)) :: st.map (sx_c Z)))
  subst hi
  refine lv_istore hx hb hd (sx_lv_has hl) hr rfl (fun ls' hl' => ?_)
  exact h H locs ls' hR hS (sx_lv_set1 (v := kI x) hl.1 hr hl') hn hs
theorem si_astore_n {i : Fin 4} {r : Nat} {x : Nat} (C : sx_C p s m args c cc nL own Z D L μ0) (hd : decode cc pc = .ok (.astore_n i, 1)) (hi : (i : Nat) = r) (hr : r < nL) (h : sx_at p l e R s m args below meth c nL Z D L μ0 n0 s0 Qf (pc + 1) (kx_set1 ls r (kR x)) st G μ) : sx_at p l e R s m args below meth c nL Z D L μ0 n0 s0 Qf pc ls (kR x :: st) G μ := by
  intro H locs lsA hR hS hl hn hs
  obtain ⟨hx, hb, hml, hown, hts, hE⟩ := C
  change W p l e R s m args below meth c H locs _ _ Qf (F0 m pc lsA (.ref (sx_ad Z (x)) :: st.map (sx_c Z)))
  refine lv_astore_n hx hb hd hi (sx_lv_has hl) hr rfl (fun ls' hl' => ?_)
  exact h H locs ls' hR hS (sx_lv_set1 (v := kR x) hl.1 hr hl') hn hs
theorem si_astore {i : Nat} {r : Nat} {x : Nat} (C : sx_C p s m args c cc nL own Z D L μ0) (hd : decode cc pc = .ok (.astore i, 2)) (hi : i = r) (hr : r < nL) (h : sx_at p l e R s m args below meth c nL Z D L μ0 n0 s0 Qf (pc + 2) (kx_set1 ls r (kR x)) st G μ) : sx_at p l e R s m args below meth c nL Z D L μ0 n0 s0 Qf pc ls (kR x :: st) G μ := by
  intro H locs lsA hR hS hl hn hs
  obtain ⟨hx, hb, hml, hown, hts, hE⟩ := C
  change W p l e R s m args below meth c H locs _ _ Qf (F0 m pc lsA (.ref (sx_ad Z (x)) :: st.map (sx_c Z)))
  subst hi
  refine lv_astore hx hb hd (sx_lv_has hl) hr rfl (fun ls' hl' => ?_)
  exact h H locs ls' hR hS (sx_lv_set1 (v := kR x) hl.1 hr hl') hn hs
theorem si_lstore_n {i : Fin 4} {r : Nat} {x : Int} (C : sx_C p s m args c cc nL own Z D L μ0) (hd : decode cc pc = .ok (.lstore_n i, 1)) (hi : (i : Nat) = r) (hr : r + 1 < nL) (h : sx_at p l e R s m args below meth c nL Z D L μ0 n0 s0 Qf (pc + 1) (kx_set2 ls r (kL x)) st G μ) : sx_at p l e R s m args below meth c nL Z D L μ0 n0 s0 Qf pc ls (kL x :: st) G μ := by
  intro H locs lsA hR hS hl hn hs
  obtain ⟨hx, hb, hml, hown, hts, hE⟩ := C
  change W p l e R s m args below meth c H locs _ _ Qf (F0 m pc lsA (.long (Int64.ofInt (x)) :: st.map (sx_c Z)))
  refine lv_lstore_n hx hb hd hi (sx_lv_has hl) hr rfl (fun ls' hl' => ?_)
  exact h H locs ls' hR hS (sx_lv_set2 (v := kL x) hl.1 hr hl') hn hs
theorem si_iinc {i r : Nat} {x q r3 : Int} (C : sx_C p s m args c cc nL own Z D L μ0) (hd : decode cc pc = .ok (.iinc i q, 3)) (hi : i = r) (hq : q = r3) (hr : r < nL) (hg : kx_get ls r = some (kI x)) (h : sx_at p l e R s m args below meth c nL Z D L μ0 n0 s0 Qf (pc + 3) (kx_set1 ls r (kI (x + r3))) st G μ) : sx_at p l e R s m args below meth c nL Z D L μ0 n0 s0 Qf pc ls st G μ := by
  intro H locs lsA hR hS hl hn hs
  obtain ⟨hx, hb, hml, hown, hts, hE⟩ := C
  subst hi; subst hq
  have hm : (i, sx_c Z (kI x)) ∈ sx_ll Z ls := sx_ll_mem.mpr ⟨kI x, hg, rfl⟩
  obtain ⟨k, hk⟩ := List.getElem?_of_mem hm
  refine lv_iinc (k := k) (v := Int32.ofInt (x + q)) hx hb hd (sx_lv_has hl) hk (by rw [Int32.ofInt_add]) hr rfl (fun ls' hl' => ?_)
  exact h H locs ls' hR hS (sx_lv_set1 (v := kI (x + q)) hl.1 hr hl') hn hs
theorem si_icmp_eq {a b i : Int} {t : Nat} (C : sx_C p s m args c cc nL own Z D L μ0) (hd : decode cc pc = .ok (.if_icmp .eq i, 3)) (ht : (pc : Int) + i = (t : Int)) (ha : kx_in a) (hbb : kx_in b) (h : kx_br .eq a b (sx_at p l e R s m args below meth c nL Z D L μ0 n0 s0 Qf t ls st G μ) (sx_at p l e R s m args below meth c nL Z D L μ0 n0 s0 Qf (pc + 3) ls st G μ)) : sx_at p l e R s m args below meth c nL Z D L μ0 n0 s0 Qf pc ls (kI b :: kI a :: st) G μ := by
  intro H locs lsA hR hS hl hn hs
  obtain ⟨hx, hb, hml, hown, hts, hE⟩ := C
  simp only [kx_br] at h
  change W p l e R s m args below meth c H locs _ _ Qf (F0 m pc lsA (.int (Int32.ofInt b) :: .int (Int32.ofInt a) :: st.map (sx_c Z)))
  refine lv_icmp_eq hx hb hd ht (fun z => ?_) (fun z => ?_)
  · rw [sx_eq ha hbb] at z
    rw [if_pos z] at h; exact h H locs lsA hR hS hl hn hs
  · rw [sx_eq ha hbb] at z
    rw [if_neg z] at h; exact h H locs lsA hR hS hl hn hs
theorem si_if_eq {a i : Int} {t : Nat} (C : sx_C p s m args c cc nL own Z D L μ0) (hd : decode cc pc = .ok (.ifCond .eq i, 3)) (ht : (pc : Int) + i = (t : Int)) (ha : kx_in a) (h : kx_br .eq a 0 (sx_at p l e R s m args below meth c nL Z D L μ0 n0 s0 Qf t ls st G μ) (sx_at p l e R s m args below meth c nL Z D L μ0 n0 s0 Qf (pc + 3) ls st G μ)) : sx_at p l e R s m args below meth c nL Z D L μ0 n0 s0 Qf pc ls (kI a :: st) G μ := by
  intro H locs lsA hR hS hl hn hs
  obtain ⟨hx, hb, hml, hown, hts, hE⟩ := C
  have hbb : kx_in 0 := by decide
  simp only [kx_br] at h
  change W p l e R s m args below meth c H locs _ _ Qf (F0 m pc lsA (.int (Int32.ofInt a) :: st.map (sx_c Z)))
  refine lv_if_eq hx hb hd ht (fun z => ?_) (fun z => ?_)
  · rw [← sx_zero] at z; rw [sx_eq ha hbb] at z
    rw [if_pos z] at h; exact h H locs lsA hR hS hl hn hs
  · rw [← sx_zero] at z; rw [sx_eq ha hbb] at z
    rw [if_neg z] at h; exact h H locs lsA hR hS hl hn hs
theorem si_icmp_ne {a b i : Int} {t : Nat} (C : sx_C p s m args c cc nL own Z D L μ0) (hd : decode cc pc = .ok (.if_icmp .ne i, 3)) (ht : (pc : Int) + i = (t : Int)) (ha : kx_in a) (hbb : kx_in b) (h : kx_br .ne a b (sx_at p l e R s m args below meth c nL Z D L μ0 n0 s0 Qf t ls st G μ) (sx_at p l e R s m args below meth c nL Z D L μ0 n0 s0 Qf (pc + 3) ls st G μ)) : sx_at p l e R s m args below meth c nL Z D L μ0 n0 s0 Qf pc ls (kI b :: kI a :: st) G μ := by
  intro H locs lsA hR hS hl hn hs
  obtain ⟨hx, hb, hml, hown, hts, hE⟩ := C
  simp only [kx_br] at h
  change W p l e R s m args below meth c H locs _ _ Qf (F0 m pc lsA (.int (Int32.ofInt b) :: .int (Int32.ofInt a) :: st.map (sx_c Z)))
  refine lv_icmp_ne hx hb hd ht (fun z => ?_) (fun z => ?_)
  · first | rw [sx_eq ha hbb] at z | rw [ne_eq, sx_eq ha hbb] at z
    first | (rw [if_neg z] at h; exact h H locs lsA hR hS hl hn hs) | (rw [if_pos z] at h; exact h H locs lsA hR hS hl hn hs) | (rw [if_pos (Decidable.not_not.mp z)] at h; exact h H locs lsA hR hS hl hn hs)
  · first | rw [sx_eq ha hbb] at z | rw [ne_eq, sx_eq ha hbb] at z
    first | (rw [if_neg z] at h; exact h H locs lsA hR hS hl hn hs) | (rw [if_pos z] at h; exact h H locs lsA hR hS hl hn hs) | (rw [if_pos (Decidable.not_not.mp z)] at h; exact h H locs lsA hR hS hl hn hs)
theorem si_if_ne {a i : Int} {t : Nat} (C : sx_C p s m args c cc nL own Z D L μ0) (hd : decode cc pc = .ok (.ifCond .ne i, 3)) (ht : (pc : Int) + i = (t : Int)) (ha : kx_in a) (h : kx_br .ne a 0 (sx_at p l e R s m args below meth c nL Z D L μ0 n0 s0 Qf t ls st G μ) (sx_at p l e R s m args below meth c nL Z D L μ0 n0 s0 Qf (pc + 3) ls st G μ)) : sx_at p l e R s m args below meth c nL Z D L μ0 n0 s0 Qf pc ls (kI a :: st) G μ := by
  intro H locs lsA hR hS hl hn hs
  obtain ⟨hx, hb, hml, hown, hts, hE⟩ := C
  have hbb : kx_in 0 := by decide
  simp only [kx_br] at h
  change W p l e R s m args below meth c H locs _ _ Qf (F0 m pc lsA (.int (Int32.ofInt a) :: st.map (sx_c Z)))
  refine lv_if_ne hx hb hd ht (fun z => ?_) (fun z => ?_)
  · rw [← sx_zero] at z; first | rw [sx_eq ha hbb] at z | rw [ne_eq, sx_eq ha hbb] at z
    first | (rw [if_neg z] at h; exact h H locs lsA hR hS hl hn hs) | (rw [if_pos z] at h; exact h H locs lsA hR hS hl hn hs) | (rw [if_pos (Decidable.not_not.mp z)] at h; exact h H locs lsA hR hS hl hn hs)
  · rw [← sx_zero] at z; first | rw [sx_eq ha hbb] at z | rw [ne_eq, sx_eq ha hbb] at z
    first | (rw [if_neg z] at h; exact h H locs lsA hR hS hl hn hs) | (rw [if_pos z] at h; exact h H locs lsA hR hS hl hn hs) | (rw [if_pos (Decidable.not_not.mp z)] at h; exact h H locs lsA hR hS hl hn hs)
theorem si_icmp_lt {a b i : Int} {t : Nat} (C : sx_C p s m args c cc nL own Z D L μ0) (hd : decode cc pc = .ok (.if_icmp .lt i, 3)) (ht : (pc : Int) + i = (t : Int)) (ha : kx_in a) (hbb : kx_in b) (h : kx_br .lt a b (sx_at p l e R s m args below meth c nL Z D L μ0 n0 s0 Qf t ls st G μ) (sx_at p l e R s m args below meth c nL Z D L μ0 n0 s0 Qf (pc + 3) ls st G μ)) : sx_at p l e R s m args below meth c nL Z D L μ0 n0 s0 Qf pc ls (kI b :: kI a :: st) G μ := by
  intro H locs lsA hR hS hl hn hs
  obtain ⟨hx, hb, hml, hown, hts, hE⟩ := C
  simp only [kx_br] at h
  change W p l e R s m args below meth c H locs _ _ Qf (F0 m pc lsA (.int (Int32.ofInt b) :: .int (Int32.ofInt a) :: st.map (sx_c Z)))
  refine lv_icmp_lt hx hb hd ht (fun z => ?_) (fun z => ?_)
  · rw [sx_lt ha hbb] at z
    rw [if_pos z] at h; exact h H locs lsA hR hS hl hn hs
  · rw [sx_lt ha hbb] at z
    rw [if_neg z] at h; exact h H locs lsA hR hS hl hn hs
theorem si_if_lt {a i : Int} {t : Nat} (C : sx_C p s m args c cc nL own Z D L μ0) (hd : decode cc pc = .ok (.ifCond .lt i, 3)) (ht : (pc : Int) + i = (t : Int)) (ha : kx_in a) (h : kx_br .lt a 0 (sx_at p l e R s m args below meth c nL Z D L μ0 n0 s0 Qf t ls st G μ) (sx_at p l e R s m args below meth c nL Z D L μ0 n0 s0 Qf (pc + 3) ls st G μ)) : sx_at p l e R s m args below meth c nL Z D L μ0 n0 s0 Qf pc ls (kI a :: st) G μ := by
  intro H locs lsA hR hS hl hn hs
  obtain ⟨hx, hb, hml, hown, hts, hE⟩ := C
  have hbb : kx_in 0 := by decide
  simp only [kx_br] at h
  change W p l e R s m args below meth c H locs _ _ Qf (F0 m pc lsA (.int (Int32.ofInt a) :: st.map (sx_c Z)))
  refine lv_if_lt hx hb hd ht (fun z => ?_) (fun z => ?_)
  · rw [← sx_zero] at z; rw [sx_lt ha hbb] at z
    rw [if_pos z] at h; exact h H locs lsA hR hS hl hn hs
  · rw [← sx_zero] at z; rw [sx_lt ha hbb] at z
    rw [if_neg z] at h; exact h H locs lsA hR hS hl hn hs
theorem si_icmp_ge {a b i : Int} {t : Nat} (C : sx_C p s m args c cc nL own Z D L μ0) (hd : decode cc pc = .ok (.if_icmp .ge i, 3)) (ht : (pc : Int) + i = (t : Int)) (ha : kx_in a) (hbb : kx_in b) (h : kx_br .ge a b (sx_at p l e R s m args below meth c nL Z D L μ0 n0 s0 Qf t ls st G μ) (sx_at p l e R s m args below meth c nL Z D L μ0 n0 s0 Qf (pc + 3) ls st G μ)) : sx_at p l e R s m args below meth c nL Z D L μ0 n0 s0 Qf pc ls (kI b :: kI a :: st) G μ := by
  intro H locs lsA hR hS hl hn hs
  obtain ⟨hx, hb, hml, hown, hts, hE⟩ := C
  simp only [kx_br] at h
  change W p l e R s m args below meth c H locs _ _ Qf (F0 m pc lsA (.int (Int32.ofInt b) :: .int (Int32.ofInt a) :: st.map (sx_c Z)))
  refine lv_icmp_ge hx hb hd ht (fun z => ?_) (fun z => ?_)
  · rw [sx_le hbb ha] at z
    rw [if_neg (by omega)] at h; exact h H locs lsA hR hS hl hn hs
  · rw [sx_le hbb ha] at z
    rw [if_pos (by omega)] at h; exact h H locs lsA hR hS hl hn hs
theorem si_if_ge {a i : Int} {t : Nat} (C : sx_C p s m args c cc nL own Z D L μ0) (hd : decode cc pc = .ok (.ifCond .ge i, 3)) (ht : (pc : Int) + i = (t : Int)) (ha : kx_in a) (h : kx_br .ge a 0 (sx_at p l e R s m args below meth c nL Z D L μ0 n0 s0 Qf t ls st G μ) (sx_at p l e R s m args below meth c nL Z D L μ0 n0 s0 Qf (pc + 3) ls st G μ)) : sx_at p l e R s m args below meth c nL Z D L μ0 n0 s0 Qf pc ls (kI a :: st) G μ := by
  intro H locs lsA hR hS hl hn hs
  obtain ⟨hx, hb, hml, hown, hts, hE⟩ := C
  have hbb : kx_in 0 := by decide
  simp only [kx_br] at h
  change W p l e R s m args below meth c H locs _ _ Qf (F0 m pc lsA (.int (Int32.ofInt a) :: st.map (sx_c Z)))
  refine lv_if_ge hx hb hd ht (fun z => ?_) (fun z => ?_)
  · rw [← sx_zero] at z; rw [sx_le hbb ha] at z
    rw [if_neg (by omega)] at h; exact h H locs lsA hR hS hl hn hs
  · rw [← sx_zero] at z; rw [sx_le hbb ha] at z
    rw [if_pos (by omega)] at h; exact h H locs lsA hR hS hl hn hs
theorem si_icmp_gt {a b i : Int} {t : Nat} (C : sx_C p s m args c cc nL own Z D L μ0) (hd : decode cc pc = .ok (.if_icmp .gt i, 3)) (ht : (pc : Int) + i = (t : Int)) (ha : kx_in a) (hbb : kx_in b) (h : kx_br .gt a b (sx_at p l e R s m args below meth c nL Z D L μ0 n0 s0 Qf t ls st G μ) (sx_at p l e R s m args below meth c nL Z D L μ0 n0 s0 Qf (pc + 3) ls st G μ)) : sx_at p l e R s m args below meth c nL Z D L μ0 n0 s0 Qf pc ls (kI b :: kI a :: st) G μ := by
  intro H locs lsA hR hS hl hn hs
  obtain ⟨hx, hb, hml, hown, hts, hE⟩ := C
  simp only [kx_br] at h
  change W p l e R s m args below meth c H locs _ _ Qf (F0 m pc lsA (.int (Int32.ofInt b) :: .int (Int32.ofInt a) :: st.map (sx_c Z)))
  refine lv_icmp_gt hx hb hd ht (fun z => ?_) (fun z => ?_)
  · rw [sx_lt hbb ha] at z
    rw [if_pos z] at h; exact h H locs lsA hR hS hl hn hs
  · rw [sx_lt hbb ha] at z
    rw [if_neg z] at h; exact h H locs lsA hR hS hl hn hs
theorem si_if_gt {a i : Int} {t : Nat} (C : sx_C p s m args c cc nL own Z D L μ0) (hd : decode cc pc = .ok (.ifCond .gt i, 3)) (ht : (pc : Int) + i = (t : Int)) (ha : kx_in a) (h : kx_br .gt a 0 (sx_at p l e R s m args below meth c nL Z D L μ0 n0 s0 Qf t ls st G μ) (sx_at p l e R s m args below meth c nL Z D L μ0 n0 s0 Qf (pc + 3) ls st G μ)) : sx_at p l e R s m args below meth c nL Z D L μ0 n0 s0 Qf pc ls (kI a :: st) G μ := by
  intro H locs lsA hR hS hl hn hs
  obtain ⟨hx, hb, hml, hown, hts, hE⟩ := C
  have hbb : kx_in 0 := by decide
  simp only [kx_br] at h
  change W p l e R s m args below meth c H locs _ _ Qf (F0 m pc lsA (.int (Int32.ofInt a) :: st.map (sx_c Z)))
  refine lv_if_gt hx hb hd ht (fun z => ?_) (fun z => ?_)
  · rw [← sx_zero] at z; rw [sx_lt hbb ha] at z
    rw [if_pos z] at h; exact h H locs lsA hR hS hl hn hs
  · rw [← sx_zero] at z; rw [sx_lt hbb ha] at z
    rw [if_neg z] at h; exact h H locs lsA hR hS hl hn hs
theorem si_icmp_le {a b i : Int} {t : Nat} (C : sx_C p s m args c cc nL own Z D L μ0) (hd : decode cc pc = .ok (.if_icmp .le i, 3)) (ht : (pc : Int) + i = (t : Int)) (ha : kx_in a) (hbb : kx_in b) (h : kx_br .le a b (sx_at p l e R s m args below meth c nL Z D L μ0 n0 s0 Qf t ls st G μ) (sx_at p l e R s m args below meth c nL Z D L μ0 n0 s0 Qf (pc + 3) ls st G μ)) : sx_at p l e R s m args below meth c nL Z D L μ0 n0 s0 Qf pc ls (kI b :: kI a :: st) G μ := by
  intro H locs lsA hR hS hl hn hs
  obtain ⟨hx, hb, hml, hown, hts, hE⟩ := C
  simp only [kx_br] at h
  change W p l e R s m args below meth c H locs _ _ Qf (F0 m pc lsA (.int (Int32.ofInt b) :: .int (Int32.ofInt a) :: st.map (sx_c Z)))
  refine lv_icmp_le hx hb hd ht (fun z => ?_) (fun z => ?_)
  · rw [sx_le ha hbb] at z
    rw [if_neg (by omega)] at h; exact h H locs lsA hR hS hl hn hs
  · rw [sx_le ha hbb] at z
    rw [if_pos (by omega)] at h; exact h H locs lsA hR hS hl hn hs
theorem si_if_le {a i : Int} {t : Nat} (C : sx_C p s m args c cc nL own Z D L μ0) (hd : decode cc pc = .ok (.ifCond .le i, 3)) (ht : (pc : Int) + i = (t : Int)) (ha : kx_in a) (h : kx_br .le a 0 (sx_at p l e R s m args below meth c nL Z D L μ0 n0 s0 Qf t ls st G μ) (sx_at p l e R s m args below meth c nL Z D L μ0 n0 s0 Qf (pc + 3) ls st G μ)) : sx_at p l e R s m args below meth c nL Z D L μ0 n0 s0 Qf pc ls (kI a :: st) G μ := by
  intro H locs lsA hR hS hl hn hs
  obtain ⟨hx, hb, hml, hown, hts, hE⟩ := C
  have hbb : kx_in 0 := by decide
  simp only [kx_br] at h
  change W p l e R s m args below meth c H locs _ _ Qf (F0 m pc lsA (.int (Int32.ofInt a) :: st.map (sx_c Z)))
  refine lv_if_le hx hb hd ht (fun z => ?_) (fun z => ?_)
  · rw [← sx_zero] at z; rw [sx_le ha hbb] at z
    rw [if_neg (by omega)] at h; exact h H locs lsA hR hS hl hn hs
  · rw [← sx_zero] at z; rw [sx_le ha hbb] at z
    rw [if_pos (by omega)] at h; exact h H locs lsA hR hS hl hn hs
theorem si_goto {i : Int} {t : Nat} (C : sx_C p s m args c cc nL own Z D L μ0) (hd : decode cc pc = .ok (.goto i, 3)) (ht : (pc : Int) + i = (t : Int)) (h : sx_at p l e R s m args below meth c nL Z D L μ0 n0 s0 Qf t ls st G μ) : sx_at p l e R s m args below meth c nL Z D L μ0 n0 s0 Qf pc ls st G μ := by
  intro H locs lsA hR hS hl hn hs
  obtain ⟨hx, hb, hml, hown, hts, hE⟩ := C
  exact lv_goto hx hb hd ht (h H locs lsA hR hS hl hn hs)
end SI
