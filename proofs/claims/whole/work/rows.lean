section
/-! A small machine of our own over numbers: its values are whole numbers (an int stands for its class modulo 2^32) and cell numbers; its steps are those of the bytecode. Proved once against the kit's rows (parts sx), then the methods are proved over this machine alone. -/
abbrev kx_V : Type := Int ⊕ (Int ⊕ Nat)
abbrev kI (x : Int) : kx_V := Sum.inl x
abbrev kL (x : Int) : kx_V := Sum.inr (Sum.inl x)
abbrev kR (a : Nat) : kx_V := Sum.inr (Sum.inr a)
/-- the shape of each cell (kind, class or length), the next cell's number, the references that cells hold -/
abbrev kx_G : Type := (Nat → Nat × Nat) × Nat × (Nat → Int → Nat)
/-- the numbers that cells hold -/
abbrev kx_M : Type := Nat → Int → Int
abbrev kx_L : Type := List (Option kx_V)
/-- an instruction with what is found for it: the place behind it, two numbers, a constant, targets -/
abbrev kx_E : Type := Instr × Nat × Nat × Nat × Int × List Nat
abbrev kx_in (a : Int) : Prop := -2147483648 ≤ a ∧ a ≤ 2147483647
abbrev kx_inL (a : Int) : Prop := -9223372036854775808 ≤ a ∧ a ≤ 9223372036854775807
def kx_cat (v : kx_V) : Nat := match v with
  | .inr (.inl _) => 2
  | _ => 1
def kx_cats : List kx_V → Nat
  | [] => 0
  | v :: l => kx_cat v + kx_cats l
def kx_up (μ : kx_M) (a : Nat) (i v : Int) : kx_M := fun b j => if b = a ∧ j = i then v else μ b j
theorem kx_up_at (μ : kx_M) (a : Nat) (i v : Int) (b : Nat) (j : Int) : kx_up μ a i v b j = if b = a ∧ j = i then v else μ b j := rfl
def kx_zero (μ : kx_M) (a : Nat) : kx_M := fun b j => if b = a then 0 else μ b j
def kx_upr (rf : Nat → Int → Nat) (a : Nat) (i : Int) (v : Nat) : Nat → Int → Nat := fun b j => if b = a ∧ j = i then v else rf b j
def kx_zeror (rf : Nat → Int → Nat) (a : Nat) : Nat → Int → Nat := fun b j => if b = a then 0 else rf b j
def kx_shp (sh : Nat → Nat × Nat) (a : Nat) (q : Nat × Nat) : Nat → Nat × Nat := fun b => if b = a then q else sh b
def kx_cpy (μ : kx_M) (src : Nat) (sp : Int) (dst : Nat) (dp n : Int) : kx_M := fun b j => if b = dst ∧ dp ≤ j ∧ j < dp + n then μ src (sp + (j - dp)) else μ b j
def kx_new (G : kx_G) (q : Nat × Nat) : kx_G := (kx_shp G.1 G.2.1 q, G.2.1 + 1, kx_zeror G.2.2 G.2.1)
def kx_and (a b : Int) : Int := (Int32.ofInt a &&& Int32.ofInt b).toInt
def kx_or (a b : Int) : Int := (Int32.ofInt a ||| Int32.ofInt b).toInt
def kx_xor (a b : Int) : Int := (Int32.ofInt a ^^^ Int32.ofInt b).toInt
def kx_lor (a b : Int) : Int := (Int64.ofInt a ||| Int64.ofInt b).toInt
def kx_br {α : Type} (c : Jvm.ClassFile.Cond) (a b : Int) (t f : α) : α := match c with
  | .eq => if a = b then t else f
  | .ne => if a = b then f else t
  | .lt => if a < b then t else f
  | .ge => if a < b then f else t
  | .gt => if b < a then t else f
  | .le => if b < a then f else t
def kx_sw {α : Type} (x lo : Int) (f : Nat → α) (d : Nat) : List Nat → α
  | [] => f d
  | t :: ts => if x = lo then f t else kx_sw x (lo + 1) f d ts
def kx_ent : List kx_V → kx_L
  | [] => []
  | v :: l => if kx_cat v = 2 then some v :: none :: kx_ent l else some v :: kx_ent l
/-- the locals at a method's start -/
def kx_pad (l : kx_L) (n : Nat) : kx_L := l ++ List.replicate (n - l.length) none
def kx_get : kx_L → Nat → Option kx_V
  | [], _ => none
  | x :: _, 0 => x
  | _ :: l, n + 1 => kx_get l n
def kx_put : kx_L → Nat → Option kx_V → kx_L
  | [], _, _ => []
  | _ :: l, 0, v => v :: l
  | x :: l, n + 1, v => x :: kx_put l n v
/-- a long ahead of the place is gone -/
def kx_clr (ls : kx_L) (i : Nat) : kx_L := match i with
  | 0 => ls
  | j + 1 => match kx_get ls j with
    | some (.inr (.inl _)) => kx_put ls j none
    | _ => ls
def kx_set1 (ls : kx_L) (i : Nat) (v : kx_V) : kx_L := kx_put (kx_clr ls i) i (some v)
def kx_set2 (ls : kx_L) (i : Nat) (v : kx_V) : kx_L := kx_put (kx_put (kx_clr ls i) i (some v)) (i + 1) none
section KX
variable {α : Type}
def kx_load (w : Nat) (dead : α) (k : kx_V → α) (ls : kx_L) (i : Nat) : α := match kx_get ls i with
  | some (.inl x) => if w = 0 then k (kI x) else dead
  | some (.inr (.inl x)) => if w = 1 then k (kL x) else dead
  | some (.inr (.inr a)) => if w = 2 then k (kR a) else dead
  | none => dead
/-- one instruction: where it goes, by 'k'; what it returns, by 'ret'; what it calls, by 'call'; else 'dead' -/
def kx_do (i : Instr) (nx r1 r2 : Nat) (r3 : Int) (tg : List Nat) (dead : α) (k : Nat → kx_L → List kx_V → kx_G → kx_M → α) (ret : Option kx_V → kx_G → kx_M → α) (call : Nat → List kx_V → kx_G → kx_M → Nat → kx_L → List kx_V → α) (ls : kx_L) (st : List kx_V) (G : kx_G) (μ : kx_M) : α :=
  match i with
  | .iload_n _ => kx_load 0 dead (fun v => k nx ls (v :: st) G μ) ls r1
  | .iload _ => kx_load 0 dead (fun v => k nx ls (v :: st) G μ) ls r1
  | .lload_n _ => kx_load 1 dead (fun v => k nx ls (v :: st) G μ) ls r1
  | .lload _ => kx_load 1 dead (fun v => k nx ls (v :: st) G μ) ls r1
  | .aload_n _ => kx_load 2 dead (fun v => k nx ls (v :: st) G μ) ls r1
  | .aload _ => kx_load 2 dead (fun v => k nx ls (v :: st) G μ) ls r1
  | .istore_n _ => match st with
    | .inl x :: st => k nx (kx_set1 ls r1 (kI x)) st G μ
    | _ => dead
  | .istore _ => match st with
    | .inl x :: st => k nx (kx_set1 ls r1 (kI x)) st G μ
    | _ => dead
  | .lstore_n _ => match st with
    | .inr (.inl x) :: st => k nx (kx_set2 ls r1 (kL x)) st G μ
    | _ => dead
  | .astore_n _ => match st with
    | .inr (.inr x) :: st => k nx (kx_set1 ls r1 (kR x)) st G μ
    | _ => dead
  | .astore _ => match st with
    | .inr (.inr x) :: st => k nx (kx_set1 ls r1 (kR x)) st G μ
    | _ => dead
  | .iinc _ _ => match kx_get ls r1 with
    | some (.inl x) => k nx (kx_set1 ls r1 (kI (x + r3))) st G μ
    | _ => dead
  | .iconst _ => k nx ls (kI r3 :: st) G μ
  | .bipush _ => k nx ls (kI r3 :: st) G μ
  | .sipush _ => k nx ls (kI r3 :: st) G μ
  | .lconst _ => k nx ls (kL r3 :: st) G μ
  | .ldc _ => if r1 = 0 then k nx ls (kI r3 :: st) G μ else k nx ls (kR r2 :: st) G μ
  | .ldc_w _ => k nx ls (kI r3 :: st) G μ
  | .ldc2_w _ => k nx ls (kL r3 :: st) G μ
  | .getstatic _ => if r1 = 0 then k nx ls (kR r2 :: st) G μ else k nx ls (kI r3 :: st) G μ
  | .getfield _ => match st with
    | .inr (.inr a) :: st => if r1 = 8 then (if a = 105 then (if r2 = 1 then k nx ls (kR 106 :: st) G μ else k nx ls (kI 0 :: st) G μ) else dead) else if G.1 a = (1, r1) then (if r2 = 1 then (if G.2.2 a r3 = 0 then dead else k nx ls (kR (G.2.2 a r3) :: st) G μ) else k nx ls (kI (μ a r3) :: st) G μ) else dead
    | _ => dead
  | .putfield _ => match st with
    | .inl v :: .inr (.inr a) :: st => if G.1 a = (1, r1) ∧ (r2 = 0 ∨ r2 = 2 ∧ (v = 0 ∨ v = 1)) then k nx ls st G (kx_up μ a r3 v) else dead
    | .inr (.inr v) :: .inr (.inr a) :: st => if G.1 a = (1, r1) ∧ r2 = 1 ∧ v ≠ 0 then k nx ls st (G.1, G.2.1, kx_upr G.2.2 a r3 v) μ else dead
    | _ => dead
  | .iaload => match st with
    | .inl i :: .inr (.inr a) :: st => if ((G.1 a).1 = 2 ∨ (G.1 a).1 = 7) ∧ 0 ≤ i ∧ i < (G.1 a).2 then k nx ls (kI (μ a i) :: st) G μ else dead
    | _ => dead
  | .laload => match st with
    | .inl i :: .inr (.inr a) :: st => if (G.1 a).1 = 3 ∧ 0 ≤ i ∧ i < (G.1 a).2 then k nx ls (kL (μ a i) :: st) G μ else dead
    | _ => dead
  | .baload => match st with
    | .inl i :: .inr (.inr a) :: st => if (G.1 a).1 = 4 ∧ 0 ≤ i ∧ i < (G.1 a).2 then k nx ls (kI (μ a i) :: st) G μ else if a = 106 ∧ 0 ≤ i ∧ i < 5 then k nx ls (kI (μ 106 i) :: st) G μ else dead
    | _ => dead
  | .aaload => match st with
    | .inl i :: .inr (.inr a) :: st => if ((G.1 a).1 = 5 ∨ (G.1 a).1 = 6) ∧ 0 ≤ i ∧ i < (G.1 a).2 ∧ G.2.2 a i ≠ 0 then k nx ls (kR (G.2.2 a i) :: st) G μ else dead
    | _ => dead
  | .iastore => match st with
    | .inl v :: .inl i :: .inr (.inr a) :: st => if (G.1 a).1 = 2 ∧ 0 ≤ i ∧ i < (G.1 a).2 then k nx ls st G (kx_up μ a i v) else dead
    | _ => dead
  | .lastore => match st with
    | .inr (.inl v) :: .inl i :: .inr (.inr a) :: st => if (G.1 a).1 = 3 ∧ 0 ≤ i ∧ i < (G.1 a).2 then k nx ls st G (kx_up μ a i v) else dead
    | _ => dead
  | .bastore => match st with
    | .inl v :: .inl i :: .inr (.inr a) :: st => if (G.1 a).1 = 4 ∧ 0 ≤ i ∧ i < (G.1 a).2 ∧ (v = 0 ∨ v = 1) then k nx ls st G (kx_up μ a i v) else dead
    | _ => dead
  | .aastore => match st with
    | .inr (.inr v) :: .inl i :: .inr (.inr a) :: st => if ((G.1 a).1 = 5 ∧ G.1 v = (1, 3) ∨ (G.1 a).1 = 6 ∧ G.1 v = (1, 5)) ∧ 0 ≤ i ∧ i < (G.1 a).2 ∧ v ≠ 0 then k nx ls st (G.1, G.2.1, kx_upr G.2.2 a i v) μ else dead
    | _ => dead
  | .newarray _ => match st with
    | .inl n :: st => if 0 ≤ n ∧ n ≤ 5000 then k nx ls (kR G.2.1 :: st) (kx_new G (r1, n.toNat)) (kx_zero μ G.2.1) else dead
    | _ => dead
  | .anewarray _ => match st with
    | .inl n :: st => if 0 ≤ n ∧ n ≤ 5000 then k nx ls (kR G.2.1 :: st) (kx_new G (r1, n.toNat)) (kx_zero μ G.2.1) else dead
    | _ => dead
  | .new _ => k nx ls (kR G.2.1 :: st) (kx_new G (1, r1)) (kx_zero μ G.2.1)
  | .arraylength => match st with
    | .inr (.inr a) :: st => if (G.1 a).1 = 2 ∨ (G.1 a).1 = 7 ∧ a = 104 then k nx ls (kI (G.1 a).2 :: st) G μ else if a = 106 then k nx ls (kI 5 :: st) G μ else dead
    | _ => dead
  | .dup => match st with
    | .inl x :: st => k nx ls (kI x :: kI x :: st) G μ
    | .inr (.inr x) :: st => k nx ls (kR x :: kR x :: st) G μ
    | _ => dead
  | .dup2 => match st with
    | .inl y :: .inr (.inr x) :: st => k nx ls (kI y :: kR x :: kI y :: kR x :: st) G μ
    | _ => dead
  | .pop => match st with
    | .inl _ :: st => k nx ls st G μ
    | _ => dead
  | .iadd => match st with
    | .inl b :: .inl a :: st => k nx ls (kI (a + b) :: st) G μ
    | _ => dead
  | .isub => match st with
    | .inl b :: .inl a :: st => k nx ls (kI (a - b) :: st) G μ
    | _ => dead
  | .imul => match st with
    | .inl b :: .inl a :: st => k nx ls (kI (a * b) :: st) G μ
    | _ => dead
  | .idiv => match st with
    | .inl b :: .inl a :: st => if kx_in a ∧ kx_in b ∧ b ≠ 0 then k nx ls (kI (a.tdiv b) :: st) G μ else dead
    | _ => dead
  | .irem => match st with
    | .inl b :: .inl a :: st => if kx_in a ∧ kx_in b ∧ b ≠ 0 then k nx ls (kI (a.tmod b) :: st) G μ else dead
    | _ => dead
  | .ineg => match st with
    | .inl a :: st => k nx ls (kI (-a) :: st) G μ
    | _ => dead
  | .iand => match st with
    | .inl b :: .inl a :: st => k nx ls (kI (kx_and a b) :: st) G μ
    | _ => dead
  | .ior => match st with
    | .inl b :: .inl a :: st => k nx ls (kI (kx_or a b) :: st) G μ
    | _ => dead
  | .ixor => match st with
    | .inl b :: .inl a :: st => k nx ls (kI (kx_xor a b) :: st) G μ
    | _ => dead
  | .ishl => match st with
    | .inl b :: .inl a :: st => if 0 ≤ b ∧ b < 32 then k nx ls (kI (a * 2 ^ b.toNat) :: st) G μ else dead
    | _ => dead
  | .ishr => match st with
    | .inl b :: .inl a :: st => if 0 ≤ b ∧ b < 32 then k nx ls (kI (a.bmod 4294967296 / 2 ^ b.toNat) :: st) G μ else dead
    | _ => dead
  | .iushr => match st with
    | .inl b :: .inl a :: st => if 0 ≤ b ∧ b < 32 ∧ 0 ≤ a ∧ a ≤ 2147483647 then k nx ls (kI (a / 2 ^ b.toNat) :: st) G μ else dead
    | _ => dead
  | .ladd => match st with
    | .inr (.inl b) :: .inr (.inl a) :: st => k nx ls (kL (a + b) :: st) G μ
    | _ => dead
  | .lsub => match st with
    | .inr (.inl b) :: .inr (.inl a) :: st => k nx ls (kL (a - b) :: st) G μ
    | _ => dead
  | .lor => match st with
    | .inr (.inl b) :: .inr (.inl a) :: st => k nx ls (kL (kx_lor a b) :: st) G μ
    | _ => dead
  | .lshl => match st with
    | .inl b :: .inr (.inl a) :: st => if 0 ≤ b ∧ b < 64 then k nx ls (kL (a * 2 ^ b.toNat) :: st) G μ else dead
    | _ => dead
  | .lcmp => match st with
    | .inr (.inl b) :: .inr (.inl a) :: st => if kx_inL a ∧ kx_inL b then (if a < b then k nx ls (kI (-1) :: st) G μ else if a = b then k nx ls (kI 0 :: st) G μ else k nx ls (kI 1 :: st) G μ) else dead
    | _ => dead
  | .i2l => match st with
    | .inl a :: st => if kx_in a then k nx ls (kL a :: st) G μ else dead
    | _ => dead
  | .i2b => match st with
    | .inl a :: st => k nx ls (kI (a.bmod 256) :: st) G μ
    | _ => dead
  | .i2s => match st with
    | .inl a :: st => k nx ls (kI (a.bmod 65536) :: st) G μ
    | _ => dead
  | .i2c => match st with
    | .inl a :: st => k nx ls (kI (a % 65536) :: st) G μ
    | _ => dead
  | .ifCond c _ => match st with
    | .inl a :: st => if kx_in a then kx_br c a 0 (k r1 ls st G μ) (k nx ls st G μ) else dead
    | _ => dead
  | .if_icmp c _ => match st with
    | .inl b :: .inl a :: st => if kx_in a ∧ kx_in b then kx_br c a b (k r1 ls st G μ) (k nx ls st G μ) else dead
    | _ => dead
  | .goto _ => k r1 ls st G μ
  | .tableswitch _ _ _ _ => match st with
    | .inl x :: st => if kx_in x then kx_sw x r3 (fun t => k t ls st G μ) r1 tg else dead
    | _ => dead
  | .lookupswitch _ _ => match st with
    | .inl x :: st => if kx_in x then kx_sw x r3 (fun t => k t ls st G μ) r1 tg else dead
    | _ => dead
  | .ireturn => match st with
    | [.inl x] => if r1 = 0 ∨ x = 0 ∨ x = 1 then ret (some (kI x)) G μ else dead
    | _ => dead
  | .lreturn => match st with
    | [.inr (.inl x)] => ret (some (kL x)) G μ
    | _ => dead
  | .return_ => match st with
    | [] => ret none G μ
    | _ => dead
  | .invokestatic _ => if r3 = 2 then (match st with
      | .inl n :: .inl dp :: .inr (.inr d) :: .inl sp :: .inr (.inr s) :: st => if 91 ≤ G.2.1 ∧ (G.1 s).1 = 2 ∧ (G.1 d).1 = 2 ∧ 0 ≤ sp ∧ 0 ≤ dp ∧ 0 ≤ n ∧ sp + n ≤ (G.1 s).2 ∧ dp + n ≤ (G.1 d).2 ∧ kx_cats st ≤ 8 then k nx ls st G (kx_cpy μ s sp d dp n) else dead
      | _ => dead) else if r2 ≤ st.length ∧ kx_cats (st.drop r2) ≤ 8 then call r1 (st.take r2).reverse G μ nx ls (st.drop r2) else dead
  | .invokespecial _ => if r3 = 1 then (match st with
      | .inr (.inr _) :: st => if kx_cats st ≤ 8 then k nx ls st G μ else dead
      | _ => dead) else match (st.take r2).reverse with
      | .inr (.inr o) :: as => if r2 ≤ st.length ∧ kx_cats (st.drop r2) ≤ 8 then call r1 (.inr (.inr o) :: as) G μ nx ls (st.drop r2) else dead
      | _ => dead
  | .invokevirtual _ => match (st.take r2).reverse with
      | .inr (.inr o) :: as => if (if tg.headD 0 = 8 then o = 105 else G.1 o = (1, tg.headD 0)) ∧ r2 ≤ st.length ∧ kx_cats (st.drop r2) ≤ 8 then call r1 (.inr (.inr o) :: as) G μ nx ls (st.drop r2) else dead
      | _ => dead
  | _ => dead
def kx_st (tb : Nat → kx_E) (dead : α) (k : Nat → kx_L → List kx_V → kx_G → kx_M → α) (ret : Option kx_V → kx_G → kx_M → α) (call : Nat → List kx_V → kx_G → kx_M → Nat → kx_L → List kx_V → α) (pc : Nat) (ls : kx_L) (st : List kx_V) (G : kx_G) (μ : kx_M) : α :=
  match tb pc with
  | (i, nx, r1, r2, r3, tg) => kx_do i nx r1 r2 r3 tg dead k ret call ls st G μ
end KX
/-- what a run of a method's code from a place on comes to -/
def kx_run (E : Nat → List kx_V → kx_G → kx_M → Option kx_V → kx_G → kx_M → Prop) (tb : Nat → kx_E) (v : Option kx_V) (G' : kx_G) (μ' : kx_M) : Nat → Nat → kx_L → List kx_V → kx_G → kx_M → Prop
  | 0, _, _, _, _, _ => False
  | n + 1, pc, ls, st, G, μ => kx_st tb False (kx_run E tb v G' μ' n) (fun v1 G1 μ1 => v1 = v ∧ G1 = G' ∧ μ1 = μ')
      (fun m as G1 μ1 pc' ls' rest => ∃ (v1 : Option kx_V) (G2 : kx_G) (μ2 : kx_M), E m as G1 μ1 v1 G2 μ2 ∧ kx_run E tb v G' μ' n pc' ls' (v1.toList ++ rest) G2 μ2) pc ls st G μ
/-- method m of the table of methods, called with these, returns that: calls within calls at most d deep -/
def kx_ev (tbs : Nat → Nat → kx_E) (mls : Nat → Nat) : Nat → Nat → List kx_V → kx_G → kx_M → Option kx_V → kx_G → kx_M → Prop
  | 0 => fun _ _ _ _ _ _ _ => False
  | d + 1 => fun m as G μ v G' μ' => (kx_ent as).length ≤ mls m ∧ ∃ n, kx_run (kx_ev tbs mls d) (tbs m) v G' μ' n 0 (kx_pad (kx_ent as) (mls m)) [] G μ
end
section
section KW
/-- where one instruction goes, as a thing -/
abbrev kx_Lf : Type := (Nat × kx_L × List kx_V × kx_G × kx_M) ⊕ ((Option kx_V × kx_G × kx_M) ⊕ (Nat × List kx_V × kx_G × kx_M × Nat × kx_L × List kx_V))
def kx_lf (tb : Nat → kx_E) (pc : Nat) (ls : kx_L) (st : List kx_V) (G : kx_G) (μ : kx_M) : Option kx_Lf :=
  kx_st tb none (fun pc ls st G μ => some (.inl (pc, ls, st, G, μ))) (fun v G μ => some (.inr (.inl (v, G, μ)))) (fun m as G μ pc ls rest => some (.inr (.inr (m, as, G, μ, pc, ls, rest)))) pc ls st G μ
theorem kx_br_nat {α β : Type} (h : α → β) (c : Jvm.ClassFile.Cond) (a b : Int) (t f : α) : h (kx_br c a b t f) = kx_br c a b (h t) (h f) := by
  cases c <;> simp only [kx_br] <;> split <;> rfl
theorem kx_sw_nat {α β : Type} (h : α → β) (x : Int) (f : Nat → α) (d : Nat) : ∀ (ts : List Nat) (lo : Int), h (kx_sw x lo f d ts) = kx_sw x lo (fun t => h (f t)) d ts := by
  intro ts
  induction ts with
  | nil => intro lo; rfl
  | cons t ts ih => intro lo; simp only [kx_sw]; split <;> first | rfl | exact ih _
theorem kx_load_nat {α β : Type} (h : α → β) (w : Nat) (dead : α) (k : kx_V → α) (ls : kx_L) (i : Nat) : h (kx_load w dead k ls i) = kx_load w (h dead) (fun v => h (k v)) ls i := by
  unfold kx_load
  split <;> first | rfl | (split <;> rfl)
set_option maxHeartbeats 4000000 in
theorem kx_do_nat {α β : Type} (h : α → β) (i : Instr) (nx r1 r2 : Nat) (r3 : Int) (tg : List Nat) (dead : α) (k : Nat → kx_L → List kx_V → kx_G → kx_M → α) (ret : Option kx_V → kx_G → kx_M → α) (call : Nat → List kx_V → kx_G → kx_M → Nat → kx_L → List kx_V → α) (ls : kx_L) (st : List kx_V) (G : kx_G) (μ : kx_M) :
    h (kx_do i nx r1 r2 r3 tg dead k ret call ls st G μ) = kx_do i nx r1 r2 r3 tg (h dead) (fun pc ls st G μ => h (k pc ls st G μ)) (fun v G μ => h (ret v G μ)) (fun m as G μ pc ls rest => h (call m as G μ pc ls rest)) ls st G μ := by
  cases i <;> simp only [kx_do] <;> first
    | rfl
    | exact kx_load_nat h _ _ _ _ _
    | (repeat' (first | rfl | exact kx_br_nat h _ _ _ _ _ | exact kx_sw_nat h _ _ _ _ _ | split))
theorem kx_st_nat {α β : Type} (h : α → β) (tb : Nat → kx_E) (dead : α) (k : Nat → kx_L → List kx_V → kx_G → kx_M → α) (ret : Option kx_V → kx_G → kx_M → α) (call : Nat → List kx_V → kx_G → kx_M → Nat → kx_L → List kx_V → α) (pc : Nat) (ls : kx_L) (st : List kx_V) (G : kx_G) (μ : kx_M) :
    h (kx_st tb dead k ret call pc ls st G μ) = kx_st tb (h dead) (fun pc ls st G μ => h (k pc ls st G μ)) (fun v G μ => h (ret v G μ)) (fun m as G μ pc ls rest => h (call m as G μ pc ls rest)) pc ls st G μ := by
  unfold kx_st
  exact kx_do_nat h _ _ _ _ _ _ _ _ _ _ _ _ _ _
/-- one instruction, by the thing that it is -/
theorem kx_st_lf (tb : Nat → kx_E) (K : Nat → kx_L → List kx_V → kx_G → kx_M → Prop) (R : Option kx_V → kx_G → kx_M → Prop) (C : Nat → List kx_V → kx_G → kx_M → Nat → kx_L → List kx_V → Prop) (pc : Nat) (ls : kx_L) (st : List kx_V) (G : kx_G) (μ : kx_M) :
    kx_st tb False K R C pc ls st G μ = (match kx_lf tb pc ls st G μ with
      | some (.inl (pc, ls, st, G, μ)) => K pc ls st G μ
      | some (.inr (.inl (v, G, μ))) => R v G μ
      | some (.inr (.inr (m, as, G, μ, pc, ls, rest))) => C m as G μ pc ls rest
      | none => False) := by
  unfold kx_lf
  exact (kx_st_nat (fun o : Option kx_Lf => match o with
      | some (.inl (pc, ls, st, G, μ)) => K pc ls st G μ
      | some (.inr (.inl (v, G, μ))) => R v G μ
      | some (.inr (.inr (m, as, G, μ, pc, ls, rest))) => C m as G μ pc ls rest
      | none => False) tb none (fun pc ls st G μ => some (.inl (pc, ls, st, G, μ))) (fun v G μ => some (.inr (.inl (v, G, μ)))) (fun m as G μ pc ls rest => some (.inr (.inr (m, as, G, μ, pc, ls, rest)))) pc ls st G μ).symm
variable {E : Nat → List kx_V → kx_G → kx_M → Option kx_V → kx_G → kx_M → Prop}
def kx_wx (E : Nat → List kx_V → kx_G → kx_M → Option kx_V → kx_G → kx_M → Prop) (tb : Nat → kx_E) (Q : Option kx_V → kx_G → kx_M → Prop) (pc : Nat) (ls : kx_L) (st : List kx_V) (G : kx_G) (μ : kx_M) : Prop :=
  ∃ (n : Nat) (v : Option kx_V) (G' : kx_G) (μ' : kx_M), kx_run E tb v G' μ' n pc ls st G μ ∧ Q v G' μ'
def kx_cx (E : Nat → List kx_V → kx_G → kx_M → Option kx_V → kx_G → kx_M → Prop) (m : Nat) (as : List kx_V) (G : kx_G) (μ : kx_M) (Q : Option kx_V → kx_G → kx_M → Prop) : Prop :=
  ∃ (v : Option kx_V) (G' : kx_G) (μ' : kx_M), E m as G μ v G' μ' ∧ Q v G' μ'
theorem kx_cx_mono {m : Nat} {as : List kx_V} {G : kx_G} {μ : kx_M} {Q Q' : Option kx_V → kx_G → kx_M → Prop} (h : kx_cx E m as G μ Q) (hq : ∀ v G' μ', Q v G' μ' → Q' v G' μ') : kx_cx E m as G μ Q' := by
  obtain ⟨v, G', μ', h1, h2⟩ := h
  exact ⟨v, G', μ', h1, hq _ _ _ h2⟩
theorem kx_wx_mono {tb : Nat → kx_E} {Q Q' : Option kx_V → kx_G → kx_M → Prop} {pc : Nat} {ls : kx_L} {st : List kx_V} {G : kx_G} {μ : kx_M} (h : kx_wx E tb Q pc ls st G μ) (hq : ∀ v G' μ', Q v G' μ' → Q' v G' μ') : kx_wx E tb Q' pc ls st G μ := by
  obtain ⟨n, v, G', μ', h1, h2⟩ := h
  exact ⟨n, v, G', μ', h1, hq _ _ _ h2⟩
/-- one instruction -/
theorem kx_wx_step {tb : Nat → kx_E} {Q : Option kx_V → kx_G → kx_M → Prop} {pc : Nat} {ls : kx_L} {st : List kx_V} {G : kx_G} {μ : kx_M}
    (h : kx_st tb False (kx_wx E tb Q) Q (fun m as G μ pc' ls' rest => kx_cx E m as G μ (fun v G' μ' => kx_wx E tb Q pc' ls' (v.toList ++ rest) G' μ')) pc ls st G μ) : kx_wx E tb Q pc ls st G μ := by
  rw [kx_st_lf] at h
  have key : ∀ (n : Nat) (v : Option kx_V) (G' : kx_G) (μ' : kx_M), kx_run E tb v G' μ' (n + 1) pc ls st G μ = _ := fun n v G' μ' => (kx_st_lf tb (kx_run E tb v G' μ' n) (fun v1 G1 μ1 => v1 = v ∧ G1 = G' ∧ μ1 = μ') (fun m as G1 μ1 pc' ls' rest => ∃ (v1 : Option kx_V) (G2 : kx_G) (μ2 : kx_M), E m as G1 μ1 v1 G2 μ2 ∧ kx_run E tb v G' μ' n pc' ls' (v1.toList ++ rest) G2 μ2) pc ls st G μ)
  cases hl : kx_lf tb pc ls st G μ with
  | none => rw [hl] at h; exact h.elim
  | some x =>
    rw [hl] at h
    match x, hl, h with
    | .inl (pc1, ls1, st1, G1, μ1), hl, h =>
      obtain ⟨n, v, G', μ', h1, h2⟩ := h
      refine ⟨n + 1, v, G', μ', ?_, h2⟩
      rw [key, hl]; exact h1
    | .inr (.inl (v, G1, μ1)), hl, h =>
      refine ⟨1, v, G1, μ1, ?_, h⟩
      rw [key, hl]; exact ⟨rfl, rfl, rfl⟩
    | .inr (.inr (m, as, G1, μ1, pc1, ls1, rest)), hl, h =>
      obtain ⟨v1, G2, μ2, h1, n, v, G', μ', h2, h3⟩ := h
      refine ⟨n + 1, v, G', μ', ?_, h3⟩
      rw [key, hl]; exact ⟨v1, G2, μ2, h1, h2⟩
/-- many instructions, up to places named, calls, and returns -/
def kx_cut (E : Nat → List kx_V → kx_G → kx_M → Option kx_V → kx_G → kx_M → Prop) (tb : Nat → kx_E) (Q : Option kx_V → kx_G → kx_M → Prop) (stops : List Nat) : Nat → Nat → kx_L → List kx_V → kx_G → kx_M → Prop
  | 0, pc, ls, st, G, μ => kx_wx E tb Q pc ls st G μ
  | n + 1, pc, ls, st, G, μ => kx_st tb False (fun pc ls st G μ => if pc ∈ stops then kx_wx E tb Q pc ls st G μ else kx_cut E tb Q stops n pc ls st G μ) Q (fun m as G μ pc' ls' rest => kx_cx E m as G μ (fun v G' μ' => kx_wx E tb Q pc' ls' (v.toList ++ rest) G' μ')) pc ls st G μ
theorem kx_wx_cut {tb : Nat → kx_E} {Q : Option kx_V → kx_G → kx_M → Prop} (stops : List Nat) : ∀ (n : Nat) {pc : Nat} {ls : kx_L} {st : List kx_V} {G : kx_G} {μ : kx_M}, kx_cut E tb Q stops n pc ls st G μ → kx_wx E tb Q pc ls st G μ := by
  intro n
  induction n with
  | zero => intro pc ls st G μ h; exact h
  | succ n ih =>
    intro pc ls st G μ h
    refine kx_wx_step ?_
    unfold kx_cut at h
    rw [kx_st_lf] at h ⊢
    cases hl : kx_lf tb pc ls st G μ with
    | none => rw [hl] at h; exact h
    | some x =>
      rw [hl] at h
      match x, hl, h with
      | .inl (pc1, ls1, st1, G1, μ1), hl, h =>
        by_cases hs : pc1 ∈ stops
        · simp only [hs, if_true] at h; exact h
        · simp only [hs, if_false] at h; exact ih h
      | .inr (.inl (v, G1, μ1)), hl, h => exact h
      | .inr (.inr (m, as, G1, μ1, pc1, ls1, rest)), hl, h => exact h
theorem kx_iteF {c A : Prop} [Decidable c] : (if c then A else False) = (c ∧ A) := by
  by_cases h : c <;> simp [h]
theorem kx_iteB {c A B : Prop} [Decidable c] : (if c then A else B) = ((c → A) ∧ (¬ c → B)) := by
  by_cases h : c <;> simp [h]
end KW
end
section
def kx_nl (o : Option kx_V) : Bool := match o with
  | some (.inr (.inl _)) => false
  | _ => true
theorem kx_get_nl {ls : kx_L} {j : Nat} (h : kx_nl (kx_get ls j) = true) (i : Nat) (hi : i = j + 1) : kx_clr ls i = ls := by
  subst hi
  simp only [kx_clr]
  split
  · rename_i q; rw [q] at h; simp [kx_nl] at h
  · rfl
theorem kx_set1_nl {ls : kx_L} {j : Nat} {v : kx_V} (h : kx_nl (kx_get ls j) = true) : kx_set1 ls (j + 1) v = kx_put ls (j + 1) (some v) := by
  unfold kx_set1
  rw [kx_get_nl h _ rfl]
theorem kx_set2_nl {ls : kx_L} {j : Nat} {v : kx_V} (h : kx_nl (kx_get ls j) = true) : kx_set2 ls (j + 1) v = kx_put (kx_put ls (j + 1) (some v)) (j + 1 + 1) none := by
  unfold kx_set2
  rw [kx_get_nl h _ rfl]
section KS
variable {E : Nat → List kx_V → kx_G → kx_M → Option kx_V → kx_G → kx_M → Prop} {tb : Nat → kx_E} {Q : Option kx_V → kx_G → kx_M → Prop} {pc nx r1 r2 : Nat} {r3 : Int} {tg : List Nat} {ls : kx_L} {st : List kx_V} {G : kx_G} {μ : kx_M}
theorem ks_iload_n {i : Fin 4} {x : Int} (ht : tb pc = (.iload_n i, nx, r1, r2, r3, tg)) (hg : kx_get ls r1 = some (kI x)) (h : kx_wx E tb Q nx ls (kI x :: st) G μ) : kx_wx E tb Q pc ls st G μ := by
  refine kx_wx_step ?_
  unfold kx_st
  rw [ht]
  simp only [kx_do, kx_load, hg]; exact h
theorem ks_iload {i : Nat} {x : Int} (ht : tb pc = (.iload i, nx, r1, r2, r3, tg)) (hg : kx_get ls r1 = some (kI x)) (h : kx_wx E tb Q nx ls (kI x :: st) G μ) : kx_wx E tb Q pc ls st G μ := by
  refine kx_wx_step ?_
  unfold kx_st
  rw [ht]
  simp only [kx_do, kx_load, hg]; exact h
theorem ks_lload_n {i : Fin 4} {x : Int} (ht : tb pc = (.lload_n i, nx, r1, r2, r3, tg)) (hg : kx_get ls r1 = some (kL x)) (h : kx_wx E tb Q nx ls (kL x :: st) G μ) : kx_wx E tb Q pc ls st G μ := by
  refine kx_wx_step ?_
  unfold kx_st
  rw [ht]
  simp only [kx_do, kx_load, hg]; exact h
theorem ks_lload {i : Nat} {x : Int} (ht : tb pc = (.lload i, nx, r1, r2, r3, tg)) (hg : kx_get ls r1 = some (kL x)) (h : kx_wx E tb Q nx ls (kL x :: st) G μ) : kx_wx E tb Q pc ls st G μ := by
  refine kx_wx_step ?_
  unfold kx_st
  rw [ht]
  simp only [kx_do, kx_load, hg]; exact h
theorem ks_aload_n {i : Fin 4} {x : Nat} (ht : tb pc = (.aload_n i, nx, r1, r2, r3, tg)) (hg : kx_get ls r1 = some (kR x)) (h : kx_wx E tb Q nx ls (kR x :: st) G μ) : kx_wx E tb Q pc ls st G μ := by
  refine kx_wx_step ?_
  unfold kx_st
  rw [ht]
  simp only [kx_do, kx_load, hg]; exact h
theorem ks_aload {i : Nat} {x : Nat} (ht : tb pc = (.aload i, nx, r1, r2, r3, tg)) (hg : kx_get ls r1 = some (kR x)) (h : kx_wx E tb Q nx ls (kR x :: st) G μ) : kx_wx E tb Q pc ls st G μ := by
  refine kx_wx_step ?_
  unfold kx_st
  rw [ht]
  simp only [kx_do, kx_load, hg]; exact h
theorem ks_istore_n_0 {i : Fin 4} {x : Int} {l : kx_L} {o : Option kx_V} (ht : tb pc = (.istore_n i, nx, 0, r2, r3, tg)) (h : kx_wx E tb Q nx (some (kI x) :: l) st G μ) : kx_wx E tb Q pc (o :: l) (kI x :: st) G μ := by
  refine kx_wx_step ?_
  unfold kx_st
  rw [ht]
  exact h
theorem ks_istore_n_1 {i : Fin 4} {x : Int} {l : kx_L} {o a0 : Option kx_V} (ht : tb pc = (.istore_n i, nx, 1, r2, r3, tg)) (hn : kx_nl a0 = true) (h : kx_wx E tb Q nx (a0 :: some (kI x) :: l) st G μ) : kx_wx E tb Q pc (a0 :: o :: l) (kI x :: st) G μ := by
  refine kx_wx_step ?_
  unfold kx_st
  rw [ht]
  simp only [kx_do]
  rw [kx_set1_nl (by exact hn)]
  exact h
theorem ks_istore_n_2 {i : Fin 4} {x : Int} {l : kx_L} {o a0 a1 : Option kx_V} (ht : tb pc = (.istore_n i, nx, 2, r2, r3, tg)) (hn : kx_nl a1 = true) (h : kx_wx E tb Q nx (a0 :: a1 :: some (kI x) :: l) st G μ) : kx_wx E tb Q pc (a0 :: a1 :: o :: l) (kI x :: st) G μ := by
  refine kx_wx_step ?_
  unfold kx_st
  rw [ht]
  simp only [kx_do]
  rw [kx_set1_nl (by exact hn)]
  exact h
theorem ks_istore_n_3 {i : Fin 4} {x : Int} {l : kx_L} {o a0 a1 a2 : Option kx_V} (ht : tb pc = (.istore_n i, nx, 3, r2, r3, tg)) (hn : kx_nl a2 = true) (h : kx_wx E tb Q nx (a0 :: a1 :: a2 :: some (kI x) :: l) st G μ) : kx_wx E tb Q pc (a0 :: a1 :: a2 :: o :: l) (kI x :: st) G μ := by
  refine kx_wx_step ?_
  unfold kx_st
  rw [ht]
  simp only [kx_do]
  rw [kx_set1_nl (by exact hn)]
  exact h
theorem ks_istore_4 {i : Nat} {x : Int} {l : kx_L} {o a0 a1 a2 a3 : Option kx_V} (ht : tb pc = (.istore i, nx, 4, r2, r3, tg)) (hn : kx_nl a3 = true) (h : kx_wx E tb Q nx (a0 :: a1 :: a2 :: a3 :: some (kI x) :: l) st G μ) : kx_wx E tb Q pc (a0 :: a1 :: a2 :: a3 :: o :: l) (kI x :: st) G μ := by
  refine kx_wx_step ?_
  unfold kx_st
  rw [ht]
  simp only [kx_do]
  rw [kx_set1_nl (by exact hn)]
  exact h
theorem ks_istore_5 {i : Nat} {x : Int} {l : kx_L} {o a0 a1 a2 a3 a4 : Option kx_V} (ht : tb pc = (.istore i, nx, 5, r2, r3, tg)) (hn : kx_nl a4 = true) (h : kx_wx E tb Q nx (a0 :: a1 :: a2 :: a3 :: a4 :: some (kI x) :: l) st G μ) : kx_wx E tb Q pc (a0 :: a1 :: a2 :: a3 :: a4 :: o :: l) (kI x :: st) G μ := by
  refine kx_wx_step ?_
  unfold kx_st
  rw [ht]
  simp only [kx_do]
  rw [kx_set1_nl (by exact hn)]
  exact h
theorem ks_istore_6 {i : Nat} {x : Int} {l : kx_L} {o a0 a1 a2 a3 a4 a5 : Option kx_V} (ht : tb pc = (.istore i, nx, 6, r2, r3, tg)) (hn : kx_nl a5 = true) (h : kx_wx E tb Q nx (a0 :: a1 :: a2 :: a3 :: a4 :: a5 :: some (kI x) :: l) st G μ) : kx_wx E tb Q pc (a0 :: a1 :: a2 :: a3 :: a4 :: a5 :: o :: l) (kI x :: st) G μ := by
  refine kx_wx_step ?_
  unfold kx_st
  rw [ht]
  simp only [kx_do]
  rw [kx_set1_nl (by exact hn)]
  exact h
theorem ks_istore_7 {i : Nat} {x : Int} {l : kx_L} {o a0 a1 a2 a3 a4 a5 a6 : Option kx_V} (ht : tb pc = (.istore i, nx, 7, r2, r3, tg)) (hn : kx_nl a6 = true) (h : kx_wx E tb Q nx (a0 :: a1 :: a2 :: a3 :: a4 :: a5 :: a6 :: some (kI x) :: l) st G μ) : kx_wx E tb Q pc (a0 :: a1 :: a2 :: a3 :: a4 :: a5 :: a6 :: o :: l) (kI x :: st) G μ := by
  refine kx_wx_step ?_
  unfold kx_st
  rw [ht]
  simp only [kx_do]
  rw [kx_set1_nl (by exact hn)]
  exact h
theorem ks_istore_8 {i : Nat} {x : Int} {l : kx_L} {o a0 a1 a2 a3 a4 a5 a6 a7 : Option kx_V} (ht : tb pc = (.istore i, nx, 8, r2, r3, tg)) (hn : kx_nl a7 = true) (h : kx_wx E tb Q nx (a0 :: a1 :: a2 :: a3 :: a4 :: a5 :: a6 :: a7 :: some (kI x) :: l) st G μ) : kx_wx E tb Q pc (a0 :: a1 :: a2 :: a3 :: a4 :: a5 :: a6 :: a7 :: o :: l) (kI x :: st) G μ := by
  refine kx_wx_step ?_
  unfold kx_st
  rw [ht]
  simp only [kx_do]
  rw [kx_set1_nl (by exact hn)]
  exact h
theorem ks_istore_9 {i : Nat} {x : Int} {l : kx_L} {o a0 a1 a2 a3 a4 a5 a6 a7 a8 : Option kx_V} (ht : tb pc = (.istore i, nx, 9, r2, r3, tg)) (hn : kx_nl a8 = true) (h : kx_wx E tb Q nx (a0 :: a1 :: a2 :: a3 :: a4 :: a5 :: a6 :: a7 :: a8 :: some (kI x) :: l) st G μ) : kx_wx E tb Q pc (a0 :: a1 :: a2 :: a3 :: a4 :: a5 :: a6 :: a7 :: a8 :: o :: l) (kI x :: st) G μ := by
  refine kx_wx_step ?_
  unfold kx_st
  rw [ht]
  simp only [kx_do]
  rw [kx_set1_nl (by exact hn)]
  exact h
theorem ks_istore_10 {i : Nat} {x : Int} {l : kx_L} {o a0 a1 a2 a3 a4 a5 a6 a7 a8 a9 : Option kx_V} (ht : tb pc = (.istore i, nx, 10, r2, r3, tg)) (hn : kx_nl a9 = true) (h : kx_wx E tb Q nx (a0 :: a1 :: a2 :: a3 :: a4 :: a5 :: a6 :: a7 :: a8 :: a9 :: some (kI x) :: l) st G μ) : kx_wx E tb Q pc (a0 :: a1 :: a2 :: a3 :: a4 :: a5 :: a6 :: a7 :: a8 :: a9 :: o :: l) (kI x :: st) G μ := by
  refine kx_wx_step ?_
  unfold kx_st
  rw [ht]
  simp only [kx_do]
  rw [kx_set1_nl (by exact hn)]
  exact h
theorem ks_istore_11 {i : Nat} {x : Int} {l : kx_L} {o a0 a1 a2 a3 a4 a5 a6 a7 a8 a9 a10 : Option kx_V} (ht : tb pc = (.istore i, nx, 11, r2, r3, tg)) (hn : kx_nl a10 = true) (h : kx_wx E tb Q nx (a0 :: a1 :: a2 :: a3 :: a4 :: a5 :: a6 :: a7 :: a8 :: a9 :: a10 :: some (kI x) :: l) st G μ) : kx_wx E tb Q pc (a0 :: a1 :: a2 :: a3 :: a4 :: a5 :: a6 :: a7 :: a8 :: a9 :: a10 :: o :: l) (kI x :: st) G μ := by
  refine kx_wx_step ?_
  unfold kx_st
  rw [ht]
  simp only [kx_do]
  rw [kx_set1_nl (by exact hn)]
  exact h
theorem ks_istore_12 {i : Nat} {x : Int} {l : kx_L} {o a0 a1 a2 a3 a4 a5 a6 a7 a8 a9 a10 a11 : Option kx_V} (ht : tb pc = (.istore i, nx, 12, r2, r3, tg)) (hn : kx_nl a11 = true) (h : kx_wx E tb Q nx (a0 :: a1 :: a2 :: a3 :: a4 :: a5 :: a6 :: a7 :: a8 :: a9 :: a10 :: a11 :: some (kI x) :: l) st G μ) : kx_wx E tb Q pc (a0 :: a1 :: a2 :: a3 :: a4 :: a5 :: a6 :: a7 :: a8 :: a9 :: a10 :: a11 :: o :: l) (kI x :: st) G μ := by
  refine kx_wx_step ?_
  unfold kx_st
  rw [ht]
  simp only [kx_do]
  rw [kx_set1_nl (by exact hn)]
  exact h
theorem ks_istore_13 {i : Nat} {x : Int} {l : kx_L} {o a0 a1 a2 a3 a4 a5 a6 a7 a8 a9 a10 a11 a12 : Option kx_V} (ht : tb pc = (.istore i, nx, 13, r2, r3, tg)) (hn : kx_nl a12 = true) (h : kx_wx E tb Q nx (a0 :: a1 :: a2 :: a3 :: a4 :: a5 :: a6 :: a7 :: a8 :: a9 :: a10 :: a11 :: a12 :: some (kI x) :: l) st G μ) : kx_wx E tb Q pc (a0 :: a1 :: a2 :: a3 :: a4 :: a5 :: a6 :: a7 :: a8 :: a9 :: a10 :: a11 :: a12 :: o :: l) (kI x :: st) G μ := by
  refine kx_wx_step ?_
  unfold kx_st
  rw [ht]
  simp only [kx_do]
  rw [kx_set1_nl (by exact hn)]
  exact h
theorem ks_astore_n_0 {i : Fin 4} {x : Nat} {l : kx_L} {o : Option kx_V} (ht : tb pc = (.astore_n i, nx, 0, r2, r3, tg)) (h : kx_wx E tb Q nx (some (kR x) :: l) st G μ) : kx_wx E tb Q pc (o :: l) (kR x :: st) G μ := by
  refine kx_wx_step ?_
  unfold kx_st
  rw [ht]
  exact h
theorem ks_astore_n_1 {i : Fin 4} {x : Nat} {l : kx_L} {o a0 : Option kx_V} (ht : tb pc = (.astore_n i, nx, 1, r2, r3, tg)) (hn : kx_nl a0 = true) (h : kx_wx E tb Q nx (a0 :: some (kR x) :: l) st G μ) : kx_wx E tb Q pc (a0 :: o :: l) (kR x :: st) G μ := by
  refine kx_wx_step ?_
  unfold kx_st
  rw [ht]
  simp only [kx_do]
  rw [kx_set1_nl (by exact hn)]
  exact h
theorem ks_astore_n_2 {i : Fin 4} {x : Nat} {l : kx_L} {o a0 a1 : Option kx_V} (ht : tb pc = (.astore_n i, nx, 2, r2, r3, tg)) (hn : kx_nl a1 = true) (h : kx_wx E tb Q nx (a0 :: a1 :: some (kR x) :: l) st G μ) : kx_wx E tb Q pc (a0 :: a1 :: o :: l) (kR x :: st) G μ := by
  refine kx_wx_step ?_
  unfold kx_st
  rw [ht]
  simp only [kx_do]
  rw [kx_set1_nl (by exact hn)]
  exact h
theorem ks_astore_n_3 {i : Fin 4} {x : Nat} {l : kx_L} {o a0 a1 a2 : Option kx_V} (ht : tb pc = (.astore_n i, nx, 3, r2, r3, tg)) (hn : kx_nl a2 = true) (h : kx_wx E tb Q nx (a0 :: a1 :: a2 :: some (kR x) :: l) st G μ) : kx_wx E tb Q pc (a0 :: a1 :: a2 :: o :: l) (kR x :: st) G μ := by
  refine kx_wx_step ?_
  unfold kx_st
  rw [ht]
  simp only [kx_do]
  rw [kx_set1_nl (by exact hn)]
  exact h
theorem ks_astore_4 {i : Nat} {x : Nat} {l : kx_L} {o a0 a1 a2 a3 : Option kx_V} (ht : tb pc = (.astore i, nx, 4, r2, r3, tg)) (hn : kx_nl a3 = true) (h : kx_wx E tb Q nx (a0 :: a1 :: a2 :: a3 :: some (kR x) :: l) st G μ) : kx_wx E tb Q pc (a0 :: a1 :: a2 :: a3 :: o :: l) (kR x :: st) G μ := by
  refine kx_wx_step ?_
  unfold kx_st
  rw [ht]
  simp only [kx_do]
  rw [kx_set1_nl (by exact hn)]
  exact h
theorem ks_astore_5 {i : Nat} {x : Nat} {l : kx_L} {o a0 a1 a2 a3 a4 : Option kx_V} (ht : tb pc = (.astore i, nx, 5, r2, r3, tg)) (hn : kx_nl a4 = true) (h : kx_wx E tb Q nx (a0 :: a1 :: a2 :: a3 :: a4 :: some (kR x) :: l) st G μ) : kx_wx E tb Q pc (a0 :: a1 :: a2 :: a3 :: a4 :: o :: l) (kR x :: st) G μ := by
  refine kx_wx_step ?_
  unfold kx_st
  rw [ht]
  simp only [kx_do]
  rw [kx_set1_nl (by exact hn)]
  exact h
theorem ks_astore_6 {i : Nat} {x : Nat} {l : kx_L} {o a0 a1 a2 a3 a4 a5 : Option kx_V} (ht : tb pc = (.astore i, nx, 6, r2, r3, tg)) (hn : kx_nl a5 = true) (h : kx_wx E tb Q nx (a0 :: a1 :: a2 :: a3 :: a4 :: a5 :: some (kR x) :: l) st G μ) : kx_wx E tb Q pc (a0 :: a1 :: a2 :: a3 :: a4 :: a5 :: o :: l) (kR x :: st) G μ := by
  refine kx_wx_step ?_
  unfold kx_st
  rw [ht]
  simp only [kx_do]
  rw [kx_set1_nl (by exact hn)]
  exact h
theorem ks_astore_7 {i : Nat} {x : Nat} {l : kx_L} {o a0 a1 a2 a3 a4 a5 a6 : Option kx_V} (ht : tb pc = (.astore i, nx, 7, r2, r3, tg)) (hn : kx_nl a6 = true) (h : kx_wx E tb Q nx (a0 :: a1 :: a2 :: a3 :: a4 :: a5 :: a6 :: some (kR x) :: l) st G μ) : kx_wx E tb Q pc (a0 :: a1 :: a2 :: a3 :: a4 :: a5 :: a6 :: o :: l) (kR x :: st) G μ := by
  refine kx_wx_step ?_
  unfold kx_st
  rw [ht]
  simp only [kx_do]
  rw [kx_set1_nl (by exact hn)]
  exact h
theorem ks_astore_8 {i : Nat} {x : Nat} {l : kx_L} {o a0 a1 a2 a3 a4 a5 a6 a7 : Option kx_V} (ht : tb pc = (.astore i, nx, 8, r2, r3, tg)) (hn : kx_nl a7 = true) (h : kx_wx E tb Q nx (a0 :: a1 :: a2 :: a3 :: a4 :: a5 :: a6 :: a7 :: some (kR x) :: l) st G μ) : kx_wx E tb Q pc (a0 :: a1 :: a2 :: a3 :: a4 :: a5 :: a6 :: a7 :: o :: l) (kR x :: st) G μ := by
  refine kx_wx_step ?_
  unfold kx_st
  rw [ht]
  simp only [kx_do]
  rw [kx_set1_nl (by exact hn)]
  exact h
theorem ks_astore_9 {i : Nat} {x : Nat} {l : kx_L} {o a0 a1 a2 a3 a4 a5 a6 a7 a8 : Option kx_V} (ht : tb pc = (.astore i, nx, 9, r2, r3, tg)) (hn : kx_nl a8 = true) (h : kx_wx E tb Q nx (a0 :: a1 :: a2 :: a3 :: a4 :: a5 :: a6 :: a7 :: a8 :: some (kR x) :: l) st G μ) : kx_wx E tb Q pc (a0 :: a1 :: a2 :: a3 :: a4 :: a5 :: a6 :: a7 :: a8 :: o :: l) (kR x :: st) G μ := by
  refine kx_wx_step ?_
  unfold kx_st
  rw [ht]
  simp only [kx_do]
  rw [kx_set1_nl (by exact hn)]
  exact h
theorem ks_astore_10 {i : Nat} {x : Nat} {l : kx_L} {o a0 a1 a2 a3 a4 a5 a6 a7 a8 a9 : Option kx_V} (ht : tb pc = (.astore i, nx, 10, r2, r3, tg)) (hn : kx_nl a9 = true) (h : kx_wx E tb Q nx (a0 :: a1 :: a2 :: a3 :: a4 :: a5 :: a6 :: a7 :: a8 :: a9 :: some (kR x) :: l) st G μ) : kx_wx E tb Q pc (a0 :: a1 :: a2 :: a3 :: a4 :: a5 :: a6 :: a7 :: a8 :: a9 :: o :: l) (kR x :: st) G μ := by
  refine kx_wx_step ?_
  unfold kx_st
  rw [ht]
  simp only [kx_do]
  rw [kx_set1_nl (by exact hn)]
  exact h
theorem ks_astore_11 {i : Nat} {x : Nat} {l : kx_L} {o a0 a1 a2 a3 a4 a5 a6 a7 a8 a9 a10 : Option kx_V} (ht : tb pc = (.astore i, nx, 11, r2, r3, tg)) (hn : kx_nl a10 = true) (h : kx_wx E tb Q nx (a0 :: a1 :: a2 :: a3 :: a4 :: a5 :: a6 :: a7 :: a8 :: a9 :: a10 :: some (kR x) :: l) st G μ) : kx_wx E tb Q pc (a0 :: a1 :: a2 :: a3 :: a4 :: a5 :: a6 :: a7 :: a8 :: a9 :: a10 :: o :: l) (kR x :: st) G μ := by
  refine kx_wx_step ?_
  unfold kx_st
  rw [ht]
  simp only [kx_do]
  rw [kx_set1_nl (by exact hn)]
  exact h
theorem ks_astore_12 {i : Nat} {x : Nat} {l : kx_L} {o a0 a1 a2 a3 a4 a5 a6 a7 a8 a9 a10 a11 : Option kx_V} (ht : tb pc = (.astore i, nx, 12, r2, r3, tg)) (hn : kx_nl a11 = true) (h : kx_wx E tb Q nx (a0 :: a1 :: a2 :: a3 :: a4 :: a5 :: a6 :: a7 :: a8 :: a9 :: a10 :: a11 :: some (kR x) :: l) st G μ) : kx_wx E tb Q pc (a0 :: a1 :: a2 :: a3 :: a4 :: a5 :: a6 :: a7 :: a8 :: a9 :: a10 :: a11 :: o :: l) (kR x :: st) G μ := by
  refine kx_wx_step ?_
  unfold kx_st
  rw [ht]
  simp only [kx_do]
  rw [kx_set1_nl (by exact hn)]
  exact h
theorem ks_astore_13 {i : Nat} {x : Nat} {l : kx_L} {o a0 a1 a2 a3 a4 a5 a6 a7 a8 a9 a10 a11 a12 : Option kx_V} (ht : tb pc = (.astore i, nx, 13, r2, r3, tg)) (hn : kx_nl a12 = true) (h : kx_wx E tb Q nx (a0 :: a1 :: a2 :: a3 :: a4 :: a5 :: a6 :: a7 :: a8 :: a9 :: a10 :: a11 :: a12 :: some (kR x) :: l) st G μ) : kx_wx E tb Q pc (a0 :: a1 :: a2 :: a3 :: a4 :: a5 :: a6 :: a7 :: a8 :: a9 :: a10 :: a11 :: a12 :: o :: l) (kR x :: st) G μ := by
  refine kx_wx_step ?_
  unfold kx_st
  rw [ht]
  simp only [kx_do]
  rw [kx_set1_nl (by exact hn)]
  exact h
theorem ks_iinc_0 {i : Nat} {c : Int} {x : Int} {l : kx_L} (ht : tb pc = (.iinc i c, nx, 0, r2, r3, tg)) (h : kx_wx E tb Q nx (some (kI (x + r3)) :: l) st G μ) : kx_wx E tb Q pc (some (kI x) :: l) st G μ := by
  refine kx_wx_step ?_
  unfold kx_st
  rw [ht]
  simp only [kx_do, kx_get]
  exact h
theorem ks_iinc_1 {i : Nat} {c : Int} {x : Int} {l : kx_L} {a0 : Option kx_V} (ht : tb pc = (.iinc i c, nx, 1, r2, r3, tg)) (hn : kx_nl a0 = true) (h : kx_wx E tb Q nx (a0 :: some (kI (x + r3)) :: l) st G μ) : kx_wx E tb Q pc (a0 :: some (kI x) :: l) st G μ := by
  refine kx_wx_step ?_
  unfold kx_st
  rw [ht]
  simp only [kx_do, kx_get]
  rw [kx_set1_nl (by exact hn)]
  exact h
theorem ks_iinc_2 {i : Nat} {c : Int} {x : Int} {l : kx_L} {a0 a1 : Option kx_V} (ht : tb pc = (.iinc i c, nx, 2, r2, r3, tg)) (hn : kx_nl a1 = true) (h : kx_wx E tb Q nx (a0 :: a1 :: some (kI (x + r3)) :: l) st G μ) : kx_wx E tb Q pc (a0 :: a1 :: some (kI x) :: l) st G μ := by
  refine kx_wx_step ?_
  unfold kx_st
  rw [ht]
  simp only [kx_do, kx_get]
  rw [kx_set1_nl (by exact hn)]
  exact h
theorem ks_iinc_3 {i : Nat} {c : Int} {x : Int} {l : kx_L} {a0 a1 a2 : Option kx_V} (ht : tb pc = (.iinc i c, nx, 3, r2, r3, tg)) (hn : kx_nl a2 = true) (h : kx_wx E tb Q nx (a0 :: a1 :: a2 :: some (kI (x + r3)) :: l) st G μ) : kx_wx E tb Q pc (a0 :: a1 :: a2 :: some (kI x) :: l) st G μ := by
  refine kx_wx_step ?_
  unfold kx_st
  rw [ht]
  simp only [kx_do, kx_get]
  rw [kx_set1_nl (by exact hn)]
  exact h
theorem ks_iinc_4 {i : Nat} {c : Int} {x : Int} {l : kx_L} {a0 a1 a2 a3 : Option kx_V} (ht : tb pc = (.iinc i c, nx, 4, r2, r3, tg)) (hn : kx_nl a3 = true) (h : kx_wx E tb Q nx (a0 :: a1 :: a2 :: a3 :: some (kI (x + r3)) :: l) st G μ) : kx_wx E tb Q pc (a0 :: a1 :: a2 :: a3 :: some (kI x) :: l) st G μ := by
  refine kx_wx_step ?_
  unfold kx_st
  rw [ht]
  simp only [kx_do, kx_get]
  rw [kx_set1_nl (by exact hn)]
  exact h
theorem ks_iinc_5 {i : Nat} {c : Int} {x : Int} {l : kx_L} {a0 a1 a2 a3 a4 : Option kx_V} (ht : tb pc = (.iinc i c, nx, 5, r2, r3, tg)) (hn : kx_nl a4 = true) (h : kx_wx E tb Q nx (a0 :: a1 :: a2 :: a3 :: a4 :: some (kI (x + r3)) :: l) st G μ) : kx_wx E tb Q pc (a0 :: a1 :: a2 :: a3 :: a4 :: some (kI x) :: l) st G μ := by
  refine kx_wx_step ?_
  unfold kx_st
  rw [ht]
  simp only [kx_do, kx_get]
  rw [kx_set1_nl (by exact hn)]
  exact h
theorem ks_iinc_6 {i : Nat} {c : Int} {x : Int} {l : kx_L} {a0 a1 a2 a3 a4 a5 : Option kx_V} (ht : tb pc = (.iinc i c, nx, 6, r2, r3, tg)) (hn : kx_nl a5 = true) (h : kx_wx E tb Q nx (a0 :: a1 :: a2 :: a3 :: a4 :: a5 :: some (kI (x + r3)) :: l) st G μ) : kx_wx E tb Q pc (a0 :: a1 :: a2 :: a3 :: a4 :: a5 :: some (kI x) :: l) st G μ := by
  refine kx_wx_step ?_
  unfold kx_st
  rw [ht]
  simp only [kx_do, kx_get]
  rw [kx_set1_nl (by exact hn)]
  exact h
theorem ks_iinc_7 {i : Nat} {c : Int} {x : Int} {l : kx_L} {a0 a1 a2 a3 a4 a5 a6 : Option kx_V} (ht : tb pc = (.iinc i c, nx, 7, r2, r3, tg)) (hn : kx_nl a6 = true) (h : kx_wx E tb Q nx (a0 :: a1 :: a2 :: a3 :: a4 :: a5 :: a6 :: some (kI (x + r3)) :: l) st G μ) : kx_wx E tb Q pc (a0 :: a1 :: a2 :: a3 :: a4 :: a5 :: a6 :: some (kI x) :: l) st G μ := by
  refine kx_wx_step ?_
  unfold kx_st
  rw [ht]
  simp only [kx_do, kx_get]
  rw [kx_set1_nl (by exact hn)]
  exact h
theorem ks_iinc_8 {i : Nat} {c : Int} {x : Int} {l : kx_L} {a0 a1 a2 a3 a4 a5 a6 a7 : Option kx_V} (ht : tb pc = (.iinc i c, nx, 8, r2, r3, tg)) (hn : kx_nl a7 = true) (h : kx_wx E tb Q nx (a0 :: a1 :: a2 :: a3 :: a4 :: a5 :: a6 :: a7 :: some (kI (x + r3)) :: l) st G μ) : kx_wx E tb Q pc (a0 :: a1 :: a2 :: a3 :: a4 :: a5 :: a6 :: a7 :: some (kI x) :: l) st G μ := by
  refine kx_wx_step ?_
  unfold kx_st
  rw [ht]
  simp only [kx_do, kx_get]
  rw [kx_set1_nl (by exact hn)]
  exact h
theorem ks_iinc_9 {i : Nat} {c : Int} {x : Int} {l : kx_L} {a0 a1 a2 a3 a4 a5 a6 a7 a8 : Option kx_V} (ht : tb pc = (.iinc i c, nx, 9, r2, r3, tg)) (hn : kx_nl a8 = true) (h : kx_wx E tb Q nx (a0 :: a1 :: a2 :: a3 :: a4 :: a5 :: a6 :: a7 :: a8 :: some (kI (x + r3)) :: l) st G μ) : kx_wx E tb Q pc (a0 :: a1 :: a2 :: a3 :: a4 :: a5 :: a6 :: a7 :: a8 :: some (kI x) :: l) st G μ := by
  refine kx_wx_step ?_
  unfold kx_st
  rw [ht]
  simp only [kx_do, kx_get]
  rw [kx_set1_nl (by exact hn)]
  exact h
theorem ks_iinc_10 {i : Nat} {c : Int} {x : Int} {l : kx_L} {a0 a1 a2 a3 a4 a5 a6 a7 a8 a9 : Option kx_V} (ht : tb pc = (.iinc i c, nx, 10, r2, r3, tg)) (hn : kx_nl a9 = true) (h : kx_wx E tb Q nx (a0 :: a1 :: a2 :: a3 :: a4 :: a5 :: a6 :: a7 :: a8 :: a9 :: some (kI (x + r3)) :: l) st G μ) : kx_wx E tb Q pc (a0 :: a1 :: a2 :: a3 :: a4 :: a5 :: a6 :: a7 :: a8 :: a9 :: some (kI x) :: l) st G μ := by
  refine kx_wx_step ?_
  unfold kx_st
  rw [ht]
  simp only [kx_do, kx_get]
  rw [kx_set1_nl (by exact hn)]
  exact h
theorem ks_iinc_11 {i : Nat} {c : Int} {x : Int} {l : kx_L} {a0 a1 a2 a3 a4 a5 a6 a7 a8 a9 a10 : Option kx_V} (ht : tb pc = (.iinc i c, nx, 11, r2, r3, tg)) (hn : kx_nl a10 = true) (h : kx_wx E tb Q nx (a0 :: a1 :: a2 :: a3 :: a4 :: a5 :: a6 :: a7 :: a8 :: a9 :: a10 :: some (kI (x + r3)) :: l) st G μ) : kx_wx E tb Q pc (a0 :: a1 :: a2 :: a3 :: a4 :: a5 :: a6 :: a7 :: a8 :: a9 :: a10 :: some (kI x) :: l) st G μ := by
  refine kx_wx_step ?_
  unfold kx_st
  rw [ht]
  simp only [kx_do, kx_get]
  rw [kx_set1_nl (by exact hn)]
  exact h
theorem ks_iinc_12 {i : Nat} {c : Int} {x : Int} {l : kx_L} {a0 a1 a2 a3 a4 a5 a6 a7 a8 a9 a10 a11 : Option kx_V} (ht : tb pc = (.iinc i c, nx, 12, r2, r3, tg)) (hn : kx_nl a11 = true) (h : kx_wx E tb Q nx (a0 :: a1 :: a2 :: a3 :: a4 :: a5 :: a6 :: a7 :: a8 :: a9 :: a10 :: a11 :: some (kI (x + r3)) :: l) st G μ) : kx_wx E tb Q pc (a0 :: a1 :: a2 :: a3 :: a4 :: a5 :: a6 :: a7 :: a8 :: a9 :: a10 :: a11 :: some (kI x) :: l) st G μ := by
  refine kx_wx_step ?_
  unfold kx_st
  rw [ht]
  simp only [kx_do, kx_get]
  rw [kx_set1_nl (by exact hn)]
  exact h
theorem ks_iinc_13 {i : Nat} {c : Int} {x : Int} {l : kx_L} {a0 a1 a2 a3 a4 a5 a6 a7 a8 a9 a10 a11 a12 : Option kx_V} (ht : tb pc = (.iinc i c, nx, 13, r2, r3, tg)) (hn : kx_nl a12 = true) (h : kx_wx E tb Q nx (a0 :: a1 :: a2 :: a3 :: a4 :: a5 :: a6 :: a7 :: a8 :: a9 :: a10 :: a11 :: a12 :: some (kI (x + r3)) :: l) st G μ) : kx_wx E tb Q pc (a0 :: a1 :: a2 :: a3 :: a4 :: a5 :: a6 :: a7 :: a8 :: a9 :: a10 :: a11 :: a12 :: some (kI x) :: l) st G μ := by
  refine kx_wx_step ?_
  unfold kx_st
  rw [ht]
  simp only [kx_do, kx_get]
  rw [kx_set1_nl (by exact hn)]
  exact h
theorem ks_lstore_n_0 {i : Fin 4} {x : Int} {l : kx_L} {o o1 : Option kx_V} (ht : tb pc = (.lstore_n i, nx, 0, r2, r3, tg)) (h : kx_wx E tb Q nx (some (kL x) :: none :: l) st G μ) : kx_wx E tb Q pc (o :: o1 :: l) (kL x :: st) G μ := by
  refine kx_wx_step ?_
  unfold kx_st
  rw [ht]
  exact h
theorem ks_lstore_n_1 {i : Fin 4} {x : Int} {l : kx_L} {o o1 a0 : Option kx_V} (ht : tb pc = (.lstore_n i, nx, 1, r2, r3, tg)) (hn : kx_nl a0 = true) (h : kx_wx E tb Q nx (a0 :: some (kL x) :: none :: l) st G μ) : kx_wx E tb Q pc (a0 :: o :: o1 :: l) (kL x :: st) G μ := by
  refine kx_wx_step ?_
  unfold kx_st
  rw [ht]
  simp only [kx_do]
  rw [kx_set2_nl (by exact hn)]
  exact h
theorem ks_lstore_n_2 {i : Fin 4} {x : Int} {l : kx_L} {o o1 a0 a1 : Option kx_V} (ht : tb pc = (.lstore_n i, nx, 2, r2, r3, tg)) (hn : kx_nl a1 = true) (h : kx_wx E tb Q nx (a0 :: a1 :: some (kL x) :: none :: l) st G μ) : kx_wx E tb Q pc (a0 :: a1 :: o :: o1 :: l) (kL x :: st) G μ := by
  refine kx_wx_step ?_
  unfold kx_st
  rw [ht]
  simp only [kx_do]
  rw [kx_set2_nl (by exact hn)]
  exact h
theorem ks_lstore_n_3 {i : Fin 4} {x : Int} {l : kx_L} {o o1 a0 a1 a2 : Option kx_V} (ht : tb pc = (.lstore_n i, nx, 3, r2, r3, tg)) (hn : kx_nl a2 = true) (h : kx_wx E tb Q nx (a0 :: a1 :: a2 :: some (kL x) :: none :: l) st G μ) : kx_wx E tb Q pc (a0 :: a1 :: a2 :: o :: o1 :: l) (kL x :: st) G μ := by
  refine kx_wx_step ?_
  unfold kx_st
  rw [ht]
  simp only [kx_do]
  rw [kx_set2_nl (by exact hn)]
  exact h
theorem ks_iconst {i : Int} (ht : tb pc = (.iconst i, nx, r1, r2, r3, tg)) (h : kx_wx E tb Q nx ls (kI r3 :: st) G μ) : kx_wx E tb Q pc ls st G μ := by
  refine kx_wx_step ?_
  unfold kx_st
  rw [ht]
  exact h
theorem ks_bipush {i : Int} (ht : tb pc = (.bipush i, nx, r1, r2, r3, tg)) (h : kx_wx E tb Q nx ls (kI r3 :: st) G μ) : kx_wx E tb Q pc ls st G μ := by
  refine kx_wx_step ?_
  unfold kx_st
  rw [ht]
  exact h
theorem ks_sipush {i : Int} (ht : tb pc = (.sipush i, nx, r1, r2, r3, tg)) (h : kx_wx E tb Q nx ls (kI r3 :: st) G μ) : kx_wx E tb Q pc ls st G μ := by
  refine kx_wx_step ?_
  unfold kx_st
  rw [ht]
  exact h
theorem ks_lconst {i : Fin 2} (ht : tb pc = (.lconst i, nx, r1, r2, r3, tg)) (h : kx_wx E tb Q nx ls (kL r3 :: st) G μ) : kx_wx E tb Q pc ls st G μ := by
  refine kx_wx_step ?_
  unfold kx_st
  rw [ht]
  exact h
theorem ks_ldc_w {i : Nat} (ht : tb pc = (.ldc_w i, nx, r1, r2, r3, tg)) (h : kx_wx E tb Q nx ls (kI r3 :: st) G μ) : kx_wx E tb Q pc ls st G μ := by
  refine kx_wx_step ?_
  unfold kx_st
  rw [ht]
  exact h
theorem ks_ldc2_w {i : Nat} (ht : tb pc = (.ldc2_w i, nx, r1, r2, r3, tg)) (h : kx_wx E tb Q nx ls (kL r3 :: st) G μ) : kx_wx E tb Q pc ls st G μ := by
  refine kx_wx_step ?_
  unfold kx_st
  rw [ht]
  exact h
theorem ks_getstatic {i : Nat} (ht : tb pc = (.getstatic i, nx, 0, r2, r3, tg)) (h : kx_wx E tb Q nx ls (kR r2 :: st) G μ) : kx_wx E tb Q pc ls st G μ := by
  refine kx_wx_step ?_
  unfold kx_st
  rw [ht]
  simp only [kx_do, if_true]; exact h
theorem ks_getstaticI {i : Nat} (ht : tb pc = (.getstatic i, nx, 1, r2, r3, tg)) (h : kx_wx E tb Q nx ls (kI r3 :: st) G μ) : kx_wx E tb Q pc ls st G μ := by
  refine kx_wx_step ?_
  unfold kx_st
  rw [ht]
  simp only [kx_do]; exact h
theorem ks_getSr {i : Nat} (ht : tb pc = (.getfield i, nx, 8, 1, r3, tg)) (h : kx_wx E tb Q nx ls (kR 106 :: st) G μ) : kx_wx E tb Q pc ls (kR 105 :: st) G μ := by
  refine kx_wx_step ?_
  unfold kx_st
  rw [ht]
  simp only [kx_do, if_true]; exact h
theorem ks_getSi {i : Nat} (ht : tb pc = (.getfield i, nx, 8, 0, r3, tg)) (h : kx_wx E tb Q nx ls (kI 0 :: st) G μ) : kx_wx E tb Q pc ls (kR 105 :: st) G μ := by
  refine kx_wx_step ?_
  unfold kx_st
  rw [ht]
  simp only [kx_do, if_true]; exact h
theorem ks_ldc {i : Nat} (ht : tb pc = (.ldc i, nx, 0, r2, r3, tg)) (h : kx_wx E tb Q nx ls (kI r3 :: st) G μ) : kx_wx E tb Q pc ls st G μ := by
  refine kx_wx_step ?_
  unfold kx_st
  rw [ht]
  simp only [kx_do, if_true]; exact h
theorem ks_ldcS {i : Nat} (ht : tb pc = (.ldc i, nx, 1, r2, r3, tg)) (h : kx_wx E tb Q nx ls (kR r2 :: st) G μ) : kx_wx E tb Q pc ls st G μ := by
  refine kx_wx_step ?_
  unfold kx_st
  rw [ht]
  simp only [kx_do]; exact h
theorem ks_getr {i a b : Nat} (ht : tb pc = (.getfield i, nx, r1, 1, r3, tg)) (h8 : (r1 == 8) = false) (hs : G.1 a = (1, r1)) (hr : G.2.2 a r3 = b) (hb : b ≠ 0) (h : kx_wx E tb Q nx ls (kR b :: st) G μ) : kx_wx E tb Q pc ls (kR a :: st) G μ := by
  refine kx_wx_step ?_
  unfold kx_st
  rw [ht]
  simp only [kx_do]
  rw [if_neg (by simpa using h8), if_pos hs, if_pos trivial, hr, if_neg hb]; exact h
theorem ks_geti {i a : Nat} {v : Int} (ht : tb pc = (.getfield i, nx, r1, r2, r3, tg)) (h8 : (r1 == 8) = false) (hs : G.1 a = (1, r1)) (hr : (r2 == 1) = false) (hv : μ a r3 = v) (h : kx_wx E tb Q nx ls (kI v :: st) G μ) : kx_wx E tb Q pc ls (kR a :: st) G μ := by
  refine kx_wx_step ?_
  unfold kx_st
  rw [ht]
  simp only [kx_do]
  rw [if_neg (by simpa using h8), if_pos hs, if_neg (by simpa using hr), hv]; exact h
theorem ks_puti {i a : Nat} {v : Int} (ht : tb pc = (.putfield i, nx, r1, 0, r3, tg)) (hs : G.1 a = (1, r1)) (h : kx_wx E tb Q nx ls st G (kx_up μ a r3 v)) : kx_wx E tb Q pc ls (kI v :: kR a :: st) G μ := by
  refine kx_wx_step ?_
  unfold kx_st
  rw [ht]
  simp only [kx_do]
  rw [if_pos ⟨hs, Or.inl trivial⟩]; exact h
theorem ks_putz {i a : Nat} {v : Int} (ht : tb pc = (.putfield i, nx, r1, 2, r3, tg)) (hs : G.1 a = (1, r1)) (hz : v = 0 ∨ v = 1) (h : kx_wx E tb Q nx ls st G (kx_up μ a r3 v)) : kx_wx E tb Q pc ls (kI v :: kR a :: st) G μ := by
  refine kx_wx_step ?_
  unfold kx_st
  rw [ht]
  simp only [kx_do]
  rw [if_pos ⟨hs, Or.inr ⟨trivial, hz⟩⟩]; exact h
theorem ks_iaload {a n : Nat} {i v : Int} (ht : tb pc = (.iaload, nx, r1, r2, r3, tg)) (hs : G.1 a = (2, n)) (h0 : 0 ≤ i) (h1 : i < n) (hv : μ a i = v) (h : kx_wx E tb Q nx ls (kI v :: st) G μ) : kx_wx E tb Q pc ls (kI i :: kR a :: st) G μ := by
  refine kx_wx_step ?_
  unfold kx_st
  rw [ht]
  simp only [kx_do]
  rw [if_pos ⟨Or.inl (by rw [hs]), h0, by rw [hs]; exact h1⟩, hv]; exact h
theorem ks_laload {a n : Nat} {i v : Int} (ht : tb pc = (.laload, nx, r1, r2, r3, tg)) (hs : G.1 a = (3, n)) (h0 : 0 ≤ i) (h1 : i < n) (hv : μ a i = v) (h : kx_wx E tb Q nx ls (kL v :: st) G μ) : kx_wx E tb Q pc ls (kI i :: kR a :: st) G μ := by
  refine kx_wx_step ?_
  unfold kx_st
  rw [ht]
  simp only [kx_do]
  rw [if_pos ⟨by rw [hs], h0, by rw [hs]; exact h1⟩, hv]; exact h
theorem ks_baload {a n : Nat} {i v : Int} (ht : tb pc = (.baload, nx, r1, r2, r3, tg)) (hs : G.1 a = (4, n)) (h0 : 0 ≤ i) (h1 : i < n) (hv : μ a i = v) (h : kx_wx E tb Q nx ls (kI v :: st) G μ) : kx_wx E tb Q pc ls (kI i :: kR a :: st) G μ := by
  refine kx_wx_step ?_
  unfold kx_st
  rw [ht]
  simp only [kx_do]
  rw [if_pos ⟨by rw [hs], h0, by rw [hs]; exact h1⟩, hv]; exact h
theorem ks_iaload7 {a n : Nat} {i v : Int} (ht : tb pc = (.iaload, nx, r1, r2, r3, tg)) (hs : G.1 a = (7, n)) (h0 : 0 ≤ i) (h1 : i < n) (hv : μ a i = v) (h : kx_wx E tb Q nx ls (kI v :: st) G μ) : kx_wx E tb Q pc ls (kI i :: kR a :: st) G μ := by
  refine kx_wx_step ?_
  unfold kx_st
  rw [ht]
  simp only [kx_do]
  rw [if_pos ⟨Or.inr (by rw [hs]), h0, by rw [hs]; exact h1⟩, hv]; exact h
theorem ks_baload10 {i v : Int} (ht : tb pc = (.baload, nx, r1, r2, r3, tg)) (hs : (G.1 106).1 ≠ 4) (h0 : 0 ≤ i) (h1 : i < 5) (hv : μ 106 i = v) (h : kx_wx E tb Q nx ls (kI v :: st) G μ) : kx_wx E tb Q pc ls (kI i :: kR 106 :: st) G μ := by
  refine kx_wx_step ?_
  unfold kx_st
  rw [ht]
  simp only [kx_do]
  rw [if_neg (fun q => hs q.1), if_pos ⟨trivial, h0, h1⟩, hv]; exact h
theorem ks_aaload {a n b k : Nat} {i : Int} (ht : tb pc = (.aaload, nx, r1, r2, r3, tg)) (hs : G.1 a = (k, n)) (hk : k = 5 ∨ k = 6) (h0 : 0 ≤ i) (h1 : i < n) (hr : G.2.2 a i = b) (hb : b ≠ 0) (h : kx_wx E tb Q nx ls (kR b :: st) G μ) : kx_wx E tb Q pc ls (kI i :: kR a :: st) G μ := by
  refine kx_wx_step ?_
  unfold kx_st
  rw [ht]
  simp only [kx_do]
  rw [if_pos ⟨by rw [hs]; exact hk, h0, by rw [hs]; exact h1, by rw [hr]; exact hb⟩, hr]; exact h
theorem ks_iastore {a n : Nat} {i v : Int} (ht : tb pc = (.iastore, nx, r1, r2, r3, tg)) (hs : G.1 a = (2, n)) (h0 : 0 ≤ i) (h1 : i < n) (h : kx_wx E tb Q nx ls st G (kx_up μ a i v)) : kx_wx E tb Q pc ls (kI v :: kI i :: kR a :: st) G μ := by
  refine kx_wx_step ?_
  unfold kx_st
  rw [ht]
  simp only [kx_do]
  rw [if_pos ⟨by rw [hs], h0, by rw [hs]; exact h1⟩]; exact h
theorem ks_lastore {a n : Nat} {i v : Int} (ht : tb pc = (.lastore, nx, r1, r2, r3, tg)) (hs : G.1 a = (3, n)) (h0 : 0 ≤ i) (h1 : i < n) (h : kx_wx E tb Q nx ls st G (kx_up μ a i v)) : kx_wx E tb Q pc ls (kL v :: kI i :: kR a :: st) G μ := by
  refine kx_wx_step ?_
  unfold kx_st
  rw [ht]
  simp only [kx_do]
  rw [if_pos ⟨by rw [hs], h0, by rw [hs]; exact h1⟩]; exact h
theorem ks_bastore {a n : Nat} {i v : Int} (ht : tb pc = (.bastore, nx, r1, r2, r3, tg)) (hs : G.1 a = (4, n)) (h0 : 0 ≤ i) (h1 : i < n) (hz : v = 0 ∨ v = 1) (h : kx_wx E tb Q nx ls st G (kx_up μ a i v)) : kx_wx E tb Q pc ls (kI v :: kI i :: kR a :: st) G μ := by
  refine kx_wx_step ?_
  unfold kx_st
  rw [ht]
  simp only [kx_do]
  rw [if_pos ⟨by rw [hs], h0, by rw [hs]; exact h1, hz⟩]; exact h
theorem ks_arraylength {a n : Nat} (ht : tb pc = (.arraylength, nx, r1, r2, r3, tg)) (hs : G.1 a = (2, n)) (h : kx_wx E tb Q nx ls (kI n :: st) G μ) : kx_wx E tb Q pc ls (kR a :: st) G μ := by
  refine kx_wx_step ?_
  unfold kx_st
  rw [ht]
  simp only [kx_do]
  rw [if_pos (Or.inl (by rw [hs])), hs]; exact h
theorem ks_arraylength7 {n : Nat} (ht : tb pc = (.arraylength, nx, r1, r2, r3, tg)) (hs : G.1 104 = (7, n)) (h : kx_wx E tb Q nx ls (kI n :: st) G μ) : kx_wx E tb Q pc ls (kR 104 :: st) G μ := by
  refine kx_wx_step ?_
  unfold kx_st
  rw [ht]
  simp only [kx_do]
  rw [if_pos (Or.inr ⟨by rw [hs], trivial⟩), hs]; exact h
theorem ks_arraylength10 (ht : tb pc = (.arraylength, nx, r1, r2, r3, tg)) (hs : (G.1 106).1 ≠ 2) (h : kx_wx E tb Q nx ls (kI 5 :: st) G μ) : kx_wx E tb Q pc ls (kR 106 :: st) G μ := by
  refine kx_wx_step ?_
  unfold kx_st
  rw [ht]
  simp only [kx_do]
  rw [if_neg (fun q => by rcases q with q | q; exact hs q; exact absurd q.2 (by decide)), if_pos trivial]; exact h
theorem ks_dup {x : Int} (ht : tb pc = (.dup, nx, r1, r2, r3, tg)) (h : kx_wx E tb Q nx ls (kI x :: kI x :: st) G μ) : kx_wx E tb Q pc ls (kI x :: st) G μ := by
  refine kx_wx_step ?_
  unfold kx_st
  rw [ht]
  exact h
theorem ks_dupR {x : Nat} (ht : tb pc = (.dup, nx, r1, r2, r3, tg)) (h : kx_wx E tb Q nx ls (kR x :: kR x :: st) G μ) : kx_wx E tb Q pc ls (kR x :: st) G μ := by
  refine kx_wx_step ?_
  unfold kx_st
  rw [ht]
  exact h
theorem ks_dup2 {y : Int} {x : Nat} (ht : tb pc = (.dup2, nx, r1, r2, r3, tg)) (h : kx_wx E tb Q nx ls (kI y :: kR x :: kI y :: kR x :: st) G μ) : kx_wx E tb Q pc ls (kI y :: kR x :: st) G μ := by
  refine kx_wx_step ?_
  unfold kx_st
  rw [ht]
  exact h
theorem ks_pop {x : Int} (ht : tb pc = (.pop, nx, r1, r2, r3, tg)) (h : kx_wx E tb Q nx ls st G μ) : kx_wx E tb Q pc ls (kI x :: st) G μ := by
  refine kx_wx_step ?_
  unfold kx_st
  rw [ht]
  exact h
theorem ks_iadd {a b : Int} (ht : tb pc = (.iadd, nx, r1, r2, r3, tg)) (h : kx_wx E tb Q nx ls (kI (a + b) :: st) G μ) : kx_wx E tb Q pc ls (kI b :: kI a :: st) G μ := by
  refine kx_wx_step ?_
  unfold kx_st
  rw [ht]
  exact h
theorem ks_isub {a b : Int} (ht : tb pc = (.isub, nx, r1, r2, r3, tg)) (h : kx_wx E tb Q nx ls (kI (a - b) :: st) G μ) : kx_wx E tb Q pc ls (kI b :: kI a :: st) G μ := by
  refine kx_wx_step ?_
  unfold kx_st
  rw [ht]
  exact h
theorem ks_imul {a b : Int} (ht : tb pc = (.imul, nx, r1, r2, r3, tg)) (h : kx_wx E tb Q nx ls (kI (a * b) :: st) G μ) : kx_wx E tb Q pc ls (kI b :: kI a :: st) G μ := by
  refine kx_wx_step ?_
  unfold kx_st
  rw [ht]
  exact h
theorem ks_iand {a b : Int} (ht : tb pc = (.iand, nx, r1, r2, r3, tg)) (h : kx_wx E tb Q nx ls (kI (kx_and a b) :: st) G μ) : kx_wx E tb Q pc ls (kI b :: kI a :: st) G μ := by
  refine kx_wx_step ?_
  unfold kx_st
  rw [ht]
  exact h
theorem ks_ior {a b : Int} (ht : tb pc = (.ior, nx, r1, r2, r3, tg)) (h : kx_wx E tb Q nx ls (kI (kx_or a b) :: st) G μ) : kx_wx E tb Q pc ls (kI b :: kI a :: st) G μ := by
  refine kx_wx_step ?_
  unfold kx_st
  rw [ht]
  exact h
theorem ks_ixor {a b : Int} (ht : tb pc = (.ixor, nx, r1, r2, r3, tg)) (h : kx_wx E tb Q nx ls (kI (kx_xor a b) :: st) G μ) : kx_wx E tb Q pc ls (kI b :: kI a :: st) G μ := by
  refine kx_wx_step ?_
  unfold kx_st
  rw [ht]
  exact h
theorem ks_ladd {a b : Int} (ht : tb pc = (.ladd, nx, r1, r2, r3, tg)) (h : kx_wx E tb Q nx ls (kL (a + b) :: st) G μ) : kx_wx E tb Q pc ls (kL b :: kL a :: st) G μ := by
  refine kx_wx_step ?_
  unfold kx_st
  rw [ht]
  exact h
theorem ks_lsub {a b : Int} (ht : tb pc = (.lsub, nx, r1, r2, r3, tg)) (h : kx_wx E tb Q nx ls (kL (a - b) :: st) G μ) : kx_wx E tb Q pc ls (kL b :: kL a :: st) G μ := by
  refine kx_wx_step ?_
  unfold kx_st
  rw [ht]
  exact h
theorem ks_lor {a b : Int} (ht : tb pc = (.lor, nx, r1, r2, r3, tg)) (h : kx_wx E tb Q nx ls (kL (kx_lor a b) :: st) G μ) : kx_wx E tb Q pc ls (kL b :: kL a :: st) G μ := by
  refine kx_wx_step ?_
  unfold kx_st
  rw [ht]
  exact h
theorem ks_idiv {a b : Int} (ht : tb pc = (.idiv, nx, r1, r2, r3, tg)) (ha : kx_in a) (hb : kx_in b) (hz : b ≠ 0) (h : kx_wx E tb Q nx ls (kI (a.tdiv b) :: st) G μ) : kx_wx E tb Q pc ls (kI b :: kI a :: st) G μ := by
  refine kx_wx_step ?_
  unfold kx_st
  rw [ht]
  simp only [kx_do]
  rw [if_pos ⟨ha, hb, hz⟩]; exact h
theorem ks_irem {a b : Int} (ht : tb pc = (.irem, nx, r1, r2, r3, tg)) (ha : kx_in a) (hb : kx_in b) (hz : b ≠ 0) (h : kx_wx E tb Q nx ls (kI (a.tmod b) :: st) G μ) : kx_wx E tb Q pc ls (kI b :: kI a :: st) G μ := by
  refine kx_wx_step ?_
  unfold kx_st
  rw [ht]
  simp only [kx_do]
  rw [if_pos ⟨ha, hb, hz⟩]; exact h
theorem ks_ineg {a : Int} (ht : tb pc = (.ineg, nx, r1, r2, r3, tg)) (h : kx_wx E tb Q nx ls (kI (-a) :: st) G μ) : kx_wx E tb Q pc ls (kI a :: st) G μ := by
  refine kx_wx_step ?_
  unfold kx_st
  rw [ht]
  exact h
theorem ks_ishl {a b : Int} (ht : tb pc = (.ishl, nx, r1, r2, r3, tg)) (h0 : 0 ≤ b) (h1 : b < 32) (h : kx_wx E tb Q nx ls (kI (a * 2 ^ b.toNat) :: st) G μ) : kx_wx E tb Q pc ls (kI b :: kI a :: st) G μ := by
  refine kx_wx_step ?_
  unfold kx_st
  rw [ht]
  simp only [kx_do]
  rw [if_pos ⟨h0, h1⟩]; exact h
theorem ks_ishr {a b : Int} (ht : tb pc = (.ishr, nx, r1, r2, r3, tg)) (h0 : 0 ≤ b) (h1 : b < 32) (h : kx_wx E tb Q nx ls (kI (a.bmod 4294967296 / 2 ^ b.toNat) :: st) G μ) : kx_wx E tb Q pc ls (kI b :: kI a :: st) G μ := by
  refine kx_wx_step ?_
  unfold kx_st
  rw [ht]
  simp only [kx_do]
  rw [if_pos ⟨h0, h1⟩]; exact h
theorem ks_iushr {a b : Int} (ht : tb pc = (.iushr, nx, r1, r2, r3, tg)) (h0 : 0 ≤ b) (h1 : b < 32) (h2 : 0 ≤ a) (h3 : a ≤ 2147483647) (h : kx_wx E tb Q nx ls (kI (a / 2 ^ b.toNat) :: st) G μ) : kx_wx E tb Q pc ls (kI b :: kI a :: st) G μ := by
  refine kx_wx_step ?_
  unfold kx_st
  rw [ht]
  simp only [kx_do]
  rw [if_pos ⟨h0, h1, h2, h3⟩]; exact h
theorem ks_lshl {a b : Int} (ht : tb pc = (.lshl, nx, r1, r2, r3, tg)) (h0 : 0 ≤ b) (h1 : b < 64) (h : kx_wx E tb Q nx ls (kL (a * 2 ^ b.toNat) :: st) G μ) : kx_wx E tb Q pc ls (kI b :: kL a :: st) G μ := by
  refine kx_wx_step ?_
  unfold kx_st
  rw [ht]
  simp only [kx_do]
  rw [if_pos ⟨h0, h1⟩]; exact h
theorem ks_lcmp {a b : Int} (ht : tb pc = (.lcmp, nx, r1, r2, r3, tg)) (ha : kx_inL a) (hb : kx_inL b) (h1 : a < b → kx_wx E tb Q nx ls (kI (-1) :: st) G μ) (h2 : a = b → kx_wx E tb Q nx ls (kI 0 :: st) G μ) (h3 : b < a → kx_wx E tb Q nx ls (kI 1 :: st) G μ) : kx_wx E tb Q pc ls (kL b :: kL a :: st) G μ := by
  refine kx_wx_step ?_
  unfold kx_st
  rw [ht]
  simp only [kx_do]
  rw [if_pos ⟨ha, hb⟩]
  split
  · exact h1 ‹_›
  · split
    · exact h2 ‹_›
    · exact h3 (by omega)
theorem ks_i2l {a : Int} (ht : tb pc = (.i2l, nx, r1, r2, r3, tg)) (ha : kx_in a) (h : kx_wx E tb Q nx ls (kL a :: st) G μ) : kx_wx E tb Q pc ls (kI a :: st) G μ := by
  refine kx_wx_step ?_
  unfold kx_st
  rw [ht]
  simp only [kx_do]
  rw [if_pos ha]; exact h
theorem ks_i2b {a : Int} (ht : tb pc = (.i2b, nx, r1, r2, r3, tg)) (h : kx_wx E tb Q nx ls (kI (a.bmod 256) :: st) G μ) : kx_wx E tb Q pc ls (kI a :: st) G μ := by
  refine kx_wx_step ?_
  unfold kx_st
  rw [ht]
  exact h
theorem ks_i2s {a : Int} (ht : tb pc = (.i2s, nx, r1, r2, r3, tg)) (h : kx_wx E tb Q nx ls (kI (a.bmod 65536) :: st) G μ) : kx_wx E tb Q pc ls (kI a :: st) G μ := by
  refine kx_wx_step ?_
  unfold kx_st
  rw [ht]
  exact h
theorem ks_i2c {a : Int} (ht : tb pc = (.i2c, nx, r1, r2, r3, tg)) (h : kx_wx E tb Q nx ls (kI (a % 65536) :: st) G μ) : kx_wx E tb Q pc ls (kI a :: st) G μ := by
  refine kx_wx_step ?_
  unfold kx_st
  rw [ht]
  exact h
theorem ks_icmp_eq {i a b : Int} (ht : tb pc = (.if_icmp .eq i, nx, r1, r2, r3, tg)) (ha : kx_in a) (hb : kx_in b) (h1 : a = b → kx_wx E tb Q r1 ls st G μ) (h0 : ¬ a = b → kx_wx E tb Q nx ls st G μ) : kx_wx E tb Q pc ls (kI b :: kI a :: st) G μ := by
  refine kx_wx_step ?_
  unfold kx_st
  rw [ht]
  simp only [kx_do]
  rw [if_pos ⟨ha, hb⟩]
  simp only [kx_br]
  split
  · exact h1 ‹_›
  · exact h0 ‹_›
theorem ks_if_eq {i a : Int} (ht : tb pc = (.ifCond .eq i, nx, r1, r2, r3, tg)) (ha : kx_in a) (h1 : a = 0 → kx_wx E tb Q r1 ls st G μ) (h0 : ¬ a = 0 → kx_wx E tb Q nx ls st G μ) : kx_wx E tb Q pc ls (kI a :: st) G μ := by
  refine kx_wx_step ?_
  unfold kx_st
  rw [ht]
  simp only [kx_do]
  rw [if_pos ha]
  simp only [kx_br]
  split
  · exact h1 ‹_›
  · exact h0 ‹_›
theorem ks_if_eq_0 {i : Int} (ht : tb pc = (.ifCond .eq i, nx, r1, r2, r3, tg)) (h : kx_wx E tb Q r1 ls st G μ) : kx_wx E tb Q pc ls (kI 0 :: st) G μ := by
  refine kx_wx_step ?_
  unfold kx_st
  rw [ht]
  simp only [kx_do]
  rw [if_pos (by decide)]
  simp only [kx_br]
  rw [if_pos (by decide)]
  exact h
theorem ks_if_eq_1 {i : Int} (ht : tb pc = (.ifCond .eq i, nx, r1, r2, r3, tg)) (h : kx_wx E tb Q nx ls st G μ) : kx_wx E tb Q pc ls (kI 1 :: st) G μ := by
  refine kx_wx_step ?_
  unfold kx_st
  rw [ht]
  simp only [kx_do]
  rw [if_pos (by decide)]
  simp only [kx_br]
  rw [if_neg (by decide)]
  exact h
theorem ks_if_eq_m {i : Int} (ht : tb pc = (.ifCond .eq i, nx, r1, r2, r3, tg)) (h : kx_wx E tb Q nx ls st G μ) : kx_wx E tb Q pc ls (kI (-1) :: st) G μ := by
  refine kx_wx_step ?_
  unfold kx_st
  rw [ht]
  simp only [kx_do]
  rw [if_pos (by decide)]
  simp only [kx_br]
  rw [if_neg (by decide)]
  exact h
theorem ks_icmp_ne {i a b : Int} (ht : tb pc = (.if_icmp .ne i, nx, r1, r2, r3, tg)) (ha : kx_in a) (hb : kx_in b) (h1 : a = b → kx_wx E tb Q nx ls st G μ) (h0 : ¬ a = b → kx_wx E tb Q r1 ls st G μ) : kx_wx E tb Q pc ls (kI b :: kI a :: st) G μ := by
  refine kx_wx_step ?_
  unfold kx_st
  rw [ht]
  simp only [kx_do]
  rw [if_pos ⟨ha, hb⟩]
  simp only [kx_br]
  split
  · exact h1 ‹_›
  · exact h0 ‹_›
theorem ks_if_ne {i a : Int} (ht : tb pc = (.ifCond .ne i, nx, r1, r2, r3, tg)) (ha : kx_in a) (h1 : a = 0 → kx_wx E tb Q nx ls st G μ) (h0 : ¬ a = 0 → kx_wx E tb Q r1 ls st G μ) : kx_wx E tb Q pc ls (kI a :: st) G μ := by
  refine kx_wx_step ?_
  unfold kx_st
  rw [ht]
  simp only [kx_do]
  rw [if_pos ha]
  simp only [kx_br]
  split
  · exact h1 ‹_›
  · exact h0 ‹_›
theorem ks_if_ne_0 {i : Int} (ht : tb pc = (.ifCond .ne i, nx, r1, r2, r3, tg)) (h : kx_wx E tb Q nx ls st G μ) : kx_wx E tb Q pc ls (kI 0 :: st) G μ := by
  refine kx_wx_step ?_
  unfold kx_st
  rw [ht]
  simp only [kx_do]
  rw [if_pos (by decide)]
  simp only [kx_br]
  rw [if_pos (by decide)]
  exact h
theorem ks_if_ne_1 {i : Int} (ht : tb pc = (.ifCond .ne i, nx, r1, r2, r3, tg)) (h : kx_wx E tb Q r1 ls st G μ) : kx_wx E tb Q pc ls (kI 1 :: st) G μ := by
  refine kx_wx_step ?_
  unfold kx_st
  rw [ht]
  simp only [kx_do]
  rw [if_pos (by decide)]
  simp only [kx_br]
  rw [if_neg (by decide)]
  exact h
theorem ks_if_ne_m {i : Int} (ht : tb pc = (.ifCond .ne i, nx, r1, r2, r3, tg)) (h : kx_wx E tb Q r1 ls st G μ) : kx_wx E tb Q pc ls (kI (-1) :: st) G μ := by
  refine kx_wx_step ?_
  unfold kx_st
  rw [ht]
  simp only [kx_do]
  rw [if_pos (by decide)]
  simp only [kx_br]
  rw [if_neg (by decide)]
  exact h
theorem ks_icmp_lt {i a b : Int} (ht : tb pc = (.if_icmp .lt i, nx, r1, r2, r3, tg)) (ha : kx_in a) (hb : kx_in b) (h1 : a < b → kx_wx E tb Q r1 ls st G μ) (h0 : ¬ a < b → kx_wx E tb Q nx ls st G μ) : kx_wx E tb Q pc ls (kI b :: kI a :: st) G μ := by
  refine kx_wx_step ?_
  unfold kx_st
  rw [ht]
  simp only [kx_do]
  rw [if_pos ⟨ha, hb⟩]
  simp only [kx_br]
  split
  · exact h1 ‹_›
  · exact h0 ‹_›
theorem ks_if_lt {i a : Int} (ht : tb pc = (.ifCond .lt i, nx, r1, r2, r3, tg)) (ha : kx_in a) (h1 : a < 0 → kx_wx E tb Q r1 ls st G μ) (h0 : ¬ a < 0 → kx_wx E tb Q nx ls st G μ) : kx_wx E tb Q pc ls (kI a :: st) G μ := by
  refine kx_wx_step ?_
  unfold kx_st
  rw [ht]
  simp only [kx_do]
  rw [if_pos ha]
  simp only [kx_br]
  split
  · exact h1 ‹_›
  · exact h0 ‹_›
theorem ks_if_lt_0 {i : Int} (ht : tb pc = (.ifCond .lt i, nx, r1, r2, r3, tg)) (h : kx_wx E tb Q nx ls st G μ) : kx_wx E tb Q pc ls (kI 0 :: st) G μ := by
  refine kx_wx_step ?_
  unfold kx_st
  rw [ht]
  simp only [kx_do]
  rw [if_pos (by decide)]
  simp only [kx_br]
  rw [if_neg (by decide)]
  exact h
theorem ks_if_lt_1 {i : Int} (ht : tb pc = (.ifCond .lt i, nx, r1, r2, r3, tg)) (h : kx_wx E tb Q nx ls st G μ) : kx_wx E tb Q pc ls (kI 1 :: st) G μ := by
  refine kx_wx_step ?_
  unfold kx_st
  rw [ht]
  simp only [kx_do]
  rw [if_pos (by decide)]
  simp only [kx_br]
  rw [if_neg (by decide)]
  exact h
theorem ks_if_lt_m {i : Int} (ht : tb pc = (.ifCond .lt i, nx, r1, r2, r3, tg)) (h : kx_wx E tb Q r1 ls st G μ) : kx_wx E tb Q pc ls (kI (-1) :: st) G μ := by
  refine kx_wx_step ?_
  unfold kx_st
  rw [ht]
  simp only [kx_do]
  rw [if_pos (by decide)]
  simp only [kx_br]
  rw [if_pos (by decide)]
  exact h
theorem ks_icmp_ge {i a b : Int} (ht : tb pc = (.if_icmp .ge i, nx, r1, r2, r3, tg)) (ha : kx_in a) (hb : kx_in b) (h1 : a < b → kx_wx E tb Q nx ls st G μ) (h0 : ¬ a < b → kx_wx E tb Q r1 ls st G μ) : kx_wx E tb Q pc ls (kI b :: kI a :: st) G μ := by
  refine kx_wx_step ?_
  unfold kx_st
  rw [ht]
  simp only [kx_do]
  rw [if_pos ⟨ha, hb⟩]
  simp only [kx_br]
  split
  · exact h1 ‹_›
  · exact h0 ‹_›
theorem ks_if_ge {i a : Int} (ht : tb pc = (.ifCond .ge i, nx, r1, r2, r3, tg)) (ha : kx_in a) (h1 : a < 0 → kx_wx E tb Q nx ls st G μ) (h0 : ¬ a < 0 → kx_wx E tb Q r1 ls st G μ) : kx_wx E tb Q pc ls (kI a :: st) G μ := by
  refine kx_wx_step ?_
  unfold kx_st
  rw [ht]
  simp only [kx_do]
  rw [if_pos ha]
  simp only [kx_br]
  split
  · exact h1 ‹_›
  · exact h0 ‹_›
theorem ks_if_ge_0 {i : Int} (ht : tb pc = (.ifCond .ge i, nx, r1, r2, r3, tg)) (h : kx_wx E tb Q r1 ls st G μ) : kx_wx E tb Q pc ls (kI 0 :: st) G μ := by
  refine kx_wx_step ?_
  unfold kx_st
  rw [ht]
  simp only [kx_do]
  rw [if_pos (by decide)]
  simp only [kx_br]
  rw [if_neg (by decide)]
  exact h
theorem ks_if_ge_1 {i : Int} (ht : tb pc = (.ifCond .ge i, nx, r1, r2, r3, tg)) (h : kx_wx E tb Q r1 ls st G μ) : kx_wx E tb Q pc ls (kI 1 :: st) G μ := by
  refine kx_wx_step ?_
  unfold kx_st
  rw [ht]
  simp only [kx_do]
  rw [if_pos (by decide)]
  simp only [kx_br]
  rw [if_neg (by decide)]
  exact h
theorem ks_if_ge_m {i : Int} (ht : tb pc = (.ifCond .ge i, nx, r1, r2, r3, tg)) (h : kx_wx E tb Q nx ls st G μ) : kx_wx E tb Q pc ls (kI (-1) :: st) G μ := by
  refine kx_wx_step ?_
  unfold kx_st
  rw [ht]
  simp only [kx_do]
  rw [if_pos (by decide)]
  simp only [kx_br]
  rw [if_pos (by decide)]
  exact h
theorem ks_icmp_gt {i a b : Int} (ht : tb pc = (.if_icmp .gt i, nx, r1, r2, r3, tg)) (ha : kx_in a) (hb : kx_in b) (h1 : b < a → kx_wx E tb Q r1 ls st G μ) (h0 : ¬ b < a → kx_wx E tb Q nx ls st G μ) : kx_wx E tb Q pc ls (kI b :: kI a :: st) G μ := by
  refine kx_wx_step ?_
  unfold kx_st
  rw [ht]
  simp only [kx_do]
  rw [if_pos ⟨ha, hb⟩]
  simp only [kx_br]
  split
  · exact h1 ‹_›
  · exact h0 ‹_›
theorem ks_if_gt {i a : Int} (ht : tb pc = (.ifCond .gt i, nx, r1, r2, r3, tg)) (ha : kx_in a) (h1 : 0 < a → kx_wx E tb Q r1 ls st G μ) (h0 : ¬ 0 < a → kx_wx E tb Q nx ls st G μ) : kx_wx E tb Q pc ls (kI a :: st) G μ := by
  refine kx_wx_step ?_
  unfold kx_st
  rw [ht]
  simp only [kx_do]
  rw [if_pos ha]
  simp only [kx_br]
  split
  · exact h1 ‹_›
  · exact h0 ‹_›
theorem ks_if_gt_0 {i : Int} (ht : tb pc = (.ifCond .gt i, nx, r1, r2, r3, tg)) (h : kx_wx E tb Q nx ls st G μ) : kx_wx E tb Q pc ls (kI 0 :: st) G μ := by
  refine kx_wx_step ?_
  unfold kx_st
  rw [ht]
  simp only [kx_do]
  rw [if_pos (by decide)]
  simp only [kx_br]
  rw [if_neg (by decide)]
  exact h
theorem ks_if_gt_1 {i : Int} (ht : tb pc = (.ifCond .gt i, nx, r1, r2, r3, tg)) (h : kx_wx E tb Q r1 ls st G μ) : kx_wx E tb Q pc ls (kI 1 :: st) G μ := by
  refine kx_wx_step ?_
  unfold kx_st
  rw [ht]
  simp only [kx_do]
  rw [if_pos (by decide)]
  simp only [kx_br]
  rw [if_pos (by decide)]
  exact h
theorem ks_if_gt_m {i : Int} (ht : tb pc = (.ifCond .gt i, nx, r1, r2, r3, tg)) (h : kx_wx E tb Q nx ls st G μ) : kx_wx E tb Q pc ls (kI (-1) :: st) G μ := by
  refine kx_wx_step ?_
  unfold kx_st
  rw [ht]
  simp only [kx_do]
  rw [if_pos (by decide)]
  simp only [kx_br]
  rw [if_neg (by decide)]
  exact h
theorem ks_icmp_le {i a b : Int} (ht : tb pc = (.if_icmp .le i, nx, r1, r2, r3, tg)) (ha : kx_in a) (hb : kx_in b) (h1 : b < a → kx_wx E tb Q nx ls st G μ) (h0 : ¬ b < a → kx_wx E tb Q r1 ls st G μ) : kx_wx E tb Q pc ls (kI b :: kI a :: st) G μ := by
  refine kx_wx_step ?_
  unfold kx_st
  rw [ht]
  simp only [kx_do]
  rw [if_pos ⟨ha, hb⟩]
  simp only [kx_br]
  split
  · exact h1 ‹_›
  · exact h0 ‹_›
theorem ks_if_le {i a : Int} (ht : tb pc = (.ifCond .le i, nx, r1, r2, r3, tg)) (ha : kx_in a) (h1 : 0 < a → kx_wx E tb Q nx ls st G μ) (h0 : ¬ 0 < a → kx_wx E tb Q r1 ls st G μ) : kx_wx E tb Q pc ls (kI a :: st) G μ := by
  refine kx_wx_step ?_
  unfold kx_st
  rw [ht]
  simp only [kx_do]
  rw [if_pos ha]
  simp only [kx_br]
  split
  · exact h1 ‹_›
  · exact h0 ‹_›
theorem ks_if_le_0 {i : Int} (ht : tb pc = (.ifCond .le i, nx, r1, r2, r3, tg)) (h : kx_wx E tb Q r1 ls st G μ) : kx_wx E tb Q pc ls (kI 0 :: st) G μ := by
  refine kx_wx_step ?_
  unfold kx_st
  rw [ht]
  simp only [kx_do]
  rw [if_pos (by decide)]
  simp only [kx_br]
  rw [if_neg (by decide)]
  exact h
theorem ks_if_le_1 {i : Int} (ht : tb pc = (.ifCond .le i, nx, r1, r2, r3, tg)) (h : kx_wx E tb Q nx ls st G μ) : kx_wx E tb Q pc ls (kI 1 :: st) G μ := by
  refine kx_wx_step ?_
  unfold kx_st
  rw [ht]
  simp only [kx_do]
  rw [if_pos (by decide)]
  simp only [kx_br]
  rw [if_pos (by decide)]
  exact h
theorem ks_if_le_m {i : Int} (ht : tb pc = (.ifCond .le i, nx, r1, r2, r3, tg)) (h : kx_wx E tb Q r1 ls st G μ) : kx_wx E tb Q pc ls (kI (-1) :: st) G μ := by
  refine kx_wx_step ?_
  unfold kx_st
  rw [ht]
  simp only [kx_do]
  rw [if_pos (by decide)]
  simp only [kx_br]
  rw [if_neg (by decide)]
  exact h
theorem ks_goto {i : Int} (ht : tb pc = (.goto i, nx, r1, r2, r3, tg)) (h : kx_wx E tb Q r1 ls st G μ) : kx_wx E tb Q pc ls st G μ := by
  refine kx_wx_step ?_
  unfold kx_st
  rw [ht]
  exact h
theorem ks_tsw {i1 i2 i3 : Int} {i4 : Array Int} {x : Int} (ht : tb pc = (.tableswitch i1 i2 i3 i4, nx, r1, r2, r3, tg)) (hx : kx_in x) (h : kx_sw x r3 (fun t => kx_wx E tb Q t ls st G μ) r1 tg) : kx_wx E tb Q pc ls (kI x :: st) G μ := by
  refine kx_wx_step ?_
  unfold kx_st
  rw [ht]
  simp only [kx_do]
  rw [if_pos hx]; exact h
theorem ks_lsw {i1 : Int} {i4 : Array (Int × Int)} {x : Int} (ht : tb pc = (.lookupswitch i1 i4, nx, r1, r2, r3, tg)) (hx : kx_in x) (h : kx_sw x r3 (fun t => kx_wx E tb Q t ls st G μ) r1 tg) : kx_wx E tb Q pc ls (kI x :: st) G μ := by
  refine kx_wx_step ?_
  unfold kx_st
  rw [ht]
  simp only [kx_do]
  rw [if_pos hx]; exact h
theorem ks_ireturn {x : Int} (ht : tb pc = (.ireturn, nx, 0, r2, r3, tg)) (h : Q (some (kI x)) G μ) : kx_wx E tb Q pc ls [kI x] G μ := by
  refine kx_wx_step ?_
  unfold kx_st
  rw [ht]
  simp only [kx_do]
  rw [if_pos (Or.inl trivial)]; exact h
theorem ks_zreturn {x : Int} (ht : tb pc = (.ireturn, nx, 1, r2, r3, tg)) (hx : x = 0 ∨ x = 1) (h : Q (some (kI x)) G μ) : kx_wx E tb Q pc ls [kI x] G μ := by
  refine kx_wx_step ?_
  unfold kx_st
  rw [ht]
  simp only [kx_do]
  rw [if_pos (Or.inr hx)]; exact h
theorem ks_lreturn {x : Int} (ht : tb pc = (.lreturn, nx, r1, r2, r3, tg)) (h : Q (some (kL x)) G μ) : kx_wx E tb Q pc ls [kL x] G μ := by
  refine kx_wx_step ?_
  unfold kx_st
  rw [ht]
  exact h
theorem ks_return (ht : tb pc = (.return_, nx, r1, r2, r3, tg)) (h : Q none G μ) : kx_wx E tb Q pc ls [] G μ := by
  refine kx_wx_step ?_
  unfold kx_st
  rw [ht]
  exact h
theorem ks_acopy {i s d n0 n1 : Nat} {sp dp n : Int} (ht : tb pc = (.invokestatic i, nx, r1, r2, 2, tg)) (h9 : 91 ≤ G.2.1) (hs : G.1 s = (2, n0)) (hd : G.1 d = (2, n1)) (h1 : 0 ≤ sp) (h2 : 0 ≤ dp) (h3 : 0 ≤ n) (h4 : sp + n ≤ n0) (h5 : dp + n ≤ n1) (hc : kx_cats st ≤ 8) (h : kx_wx E tb Q nx ls st G (kx_cpy μ s sp d dp n)) : kx_wx E tb Q pc ls (kI n :: kI dp :: kR d :: kI sp :: kR s :: st) G μ := by
  refine kx_wx_step ?_
  unfold kx_st
  rw [ht]
  simp only [kx_do]
  rw [if_pos trivial, if_pos ⟨h9, by rw [hs], by rw [hd], h1, h2, h3, by rw [hs]; exact h4, by rw [hd]; exact h5, hc⟩]; exact h
theorem ks_objinit {i a : Nat} (ht : tb pc = (.invokespecial i, nx, r1, r2, 1, tg)) (hc : kx_cats st ≤ 8) (h : kx_wx E tb Q nx ls st G μ) : kx_wx E tb Q pc ls (kR a :: st) G μ := by
  refine kx_wx_step ?_
  unfold kx_st
  rw [ht]
  simp only [kx_do]
  rw [if_pos trivial, if_pos hc]; exact h
theorem ks_calls_0 {i : Nat} (ht : tb pc = (.invokestatic i, nx, r1, 0, 0, tg)) (hc : kx_cats st ≤ 8) (h : kx_cx E r1 [] G μ (fun v G' μ' => kx_wx E tb Q nx ls (v.toList ++ st) G' μ')) : kx_wx E tb Q pc ls (st) G μ := by
  refine kx_wx_step ?_
  unfold kx_st
  rw [ht]
  simp only [kx_do]
  rw [if_neg (by decide), if_pos ⟨by simp, by simpa using hc⟩]; exact h
theorem ks_calls_1 {i : Nat} {v0 : kx_V} (ht : tb pc = (.invokestatic i, nx, r1, 1, 0, tg)) (hc : kx_cats st ≤ 8) (h : kx_cx E r1 [v0] G μ (fun v G' μ' => kx_wx E tb Q nx ls (v.toList ++ st) G' μ')) : kx_wx E tb Q pc ls (v0 :: st) G μ := by
  refine kx_wx_step ?_
  unfold kx_st
  rw [ht]
  simp only [kx_do]
  rw [if_neg (by decide), if_pos ⟨by simp, by simpa using hc⟩]; exact h
theorem ks_callp_1 {i a : Nat} (ht : tb pc = (.invokespecial i, nx, r1, 1, 0, tg)) (hc : kx_cats st ≤ 8) (h : kx_cx E r1 [kR a] G μ (fun v G' μ' => kx_wx E tb Q nx ls (v.toList ++ st) G' μ')) : kx_wx E tb Q pc ls (kR a :: st) G μ := by
  refine kx_wx_step ?_
  unfold kx_st
  rw [ht]
  simp only [kx_do]
  rw [if_neg (by decide)]
  simp only [List.take_succ_cons, List.take_zero, List.drop_succ_cons, List.drop_zero, List.reverse_cons, List.reverse_nil, List.nil_append, List.cons_append]
  rw [if_pos ⟨by simp, hc⟩]; exact h
theorem ks_callv_1 {i a c : Nat} (ht : tb pc = (.invokevirtual i, nx, r1, 1, 0, [c])) (h8 : (c == 8) = false) (hs : G.1 a = (1, c)) (hc : kx_cats st ≤ 8) (h : kx_cx E r1 [kR a] G μ (fun v G' μ' => kx_wx E tb Q nx ls (v.toList ++ st) G' μ')) : kx_wx E tb Q pc ls (kR a :: st) G μ := by
  refine kx_wx_step ?_
  unfold kx_st
  rw [ht]
  simp only [kx_do]
  simp only [List.take_succ_cons, List.take_zero, List.drop_succ_cons, List.drop_zero, List.reverse_cons, List.reverse_nil, List.nil_append, List.cons_append]
  rw [if_pos ⟨by show (if c = 8 then a = 105 else G.1 a = (1, c)); rw [if_neg (by simpa using h8)]; exact hs, by simp, hc⟩]; exact h
theorem ks_callvS_1 {i : Nat} (ht : tb pc = (.invokevirtual i, nx, r1, 1, 0, [8])) (hc : kx_cats st ≤ 8) (h : kx_cx E r1 [kR 105] G μ (fun v G' μ' => kx_wx E tb Q nx ls (v.toList ++ st) G' μ')) : kx_wx E tb Q pc ls (kR 105 :: st) G μ := by
  refine kx_wx_step ?_
  unfold kx_st
  rw [ht]
  simp only [kx_do]
  simp only [List.take_succ_cons, List.take_zero, List.drop_succ_cons, List.drop_zero, List.reverse_cons, List.reverse_nil, List.nil_append, List.cons_append]
  rw [if_pos ⟨by simp, by simp, hc⟩]; exact h
theorem ks_calls_2 {i : Nat} {v0 v1 : kx_V} (ht : tb pc = (.invokestatic i, nx, r1, 2, 0, tg)) (hc : kx_cats st ≤ 8) (h : kx_cx E r1 [v0, v1] G μ (fun v G' μ' => kx_wx E tb Q nx ls (v.toList ++ st) G' μ')) : kx_wx E tb Q pc ls (v1 :: v0 :: st) G μ := by
  refine kx_wx_step ?_
  unfold kx_st
  rw [ht]
  simp only [kx_do]
  rw [if_neg (by decide), if_pos ⟨by simp, by simpa using hc⟩]; exact h
theorem ks_callp_2 {i a : Nat} {v1 : kx_V} (ht : tb pc = (.invokespecial i, nx, r1, 2, 0, tg)) (hc : kx_cats st ≤ 8) (h : kx_cx E r1 [kR a, v1] G μ (fun v G' μ' => kx_wx E tb Q nx ls (v.toList ++ st) G' μ')) : kx_wx E tb Q pc ls (v1 :: kR a :: st) G μ := by
  refine kx_wx_step ?_
  unfold kx_st
  rw [ht]
  simp only [kx_do]
  rw [if_neg (by decide)]
  simp only [List.take_succ_cons, List.take_zero, List.drop_succ_cons, List.drop_zero, List.reverse_cons, List.reverse_nil, List.nil_append, List.cons_append]
  rw [if_pos ⟨by simp, hc⟩]; exact h
theorem ks_callv_2 {i a c : Nat} {v1 : kx_V} (ht : tb pc = (.invokevirtual i, nx, r1, 2, 0, [c])) (h8 : (c == 8) = false) (hs : G.1 a = (1, c)) (hc : kx_cats st ≤ 8) (h : kx_cx E r1 [kR a, v1] G μ (fun v G' μ' => kx_wx E tb Q nx ls (v.toList ++ st) G' μ')) : kx_wx E tb Q pc ls (v1 :: kR a :: st) G μ := by
  refine kx_wx_step ?_
  unfold kx_st
  rw [ht]
  simp only [kx_do]
  simp only [List.take_succ_cons, List.take_zero, List.drop_succ_cons, List.drop_zero, List.reverse_cons, List.reverse_nil, List.nil_append, List.cons_append]
  rw [if_pos ⟨by show (if c = 8 then a = 105 else G.1 a = (1, c)); rw [if_neg (by simpa using h8)]; exact hs, by simp, hc⟩]; exact h
theorem ks_callvS_2 {i : Nat} {v1 : kx_V} (ht : tb pc = (.invokevirtual i, nx, r1, 2, 0, [8])) (hc : kx_cats st ≤ 8) (h : kx_cx E r1 [kR 105, v1] G μ (fun v G' μ' => kx_wx E tb Q nx ls (v.toList ++ st) G' μ')) : kx_wx E tb Q pc ls (v1 :: kR 105 :: st) G μ := by
  refine kx_wx_step ?_
  unfold kx_st
  rw [ht]
  simp only [kx_do]
  simp only [List.take_succ_cons, List.take_zero, List.drop_succ_cons, List.drop_zero, List.reverse_cons, List.reverse_nil, List.nil_append, List.cons_append]
  rw [if_pos ⟨by simp, by simp, hc⟩]; exact h
theorem ks_calls_3 {i : Nat} {v0 v1 v2 : kx_V} (ht : tb pc = (.invokestatic i, nx, r1, 3, 0, tg)) (hc : kx_cats st ≤ 8) (h : kx_cx E r1 [v0, v1, v2] G μ (fun v G' μ' => kx_wx E tb Q nx ls (v.toList ++ st) G' μ')) : kx_wx E tb Q pc ls (v2 :: v1 :: v0 :: st) G μ := by
  refine kx_wx_step ?_
  unfold kx_st
  rw [ht]
  simp only [kx_do]
  rw [if_neg (by decide), if_pos ⟨by simp, by simpa using hc⟩]; exact h
theorem ks_callp_3 {i a : Nat} {v1 v2 : kx_V} (ht : tb pc = (.invokespecial i, nx, r1, 3, 0, tg)) (hc : kx_cats st ≤ 8) (h : kx_cx E r1 [kR a, v1, v2] G μ (fun v G' μ' => kx_wx E tb Q nx ls (v.toList ++ st) G' μ')) : kx_wx E tb Q pc ls (v2 :: v1 :: kR a :: st) G μ := by
  refine kx_wx_step ?_
  unfold kx_st
  rw [ht]
  simp only [kx_do]
  rw [if_neg (by decide)]
  simp only [List.take_succ_cons, List.take_zero, List.drop_succ_cons, List.drop_zero, List.reverse_cons, List.reverse_nil, List.nil_append, List.cons_append]
  rw [if_pos ⟨by simp, hc⟩]; exact h
theorem ks_callv_3 {i a c : Nat} {v1 v2 : kx_V} (ht : tb pc = (.invokevirtual i, nx, r1, 3, 0, [c])) (h8 : (c == 8) = false) (hs : G.1 a = (1, c)) (hc : kx_cats st ≤ 8) (h : kx_cx E r1 [kR a, v1, v2] G μ (fun v G' μ' => kx_wx E tb Q nx ls (v.toList ++ st) G' μ')) : kx_wx E tb Q pc ls (v2 :: v1 :: kR a :: st) G μ := by
  refine kx_wx_step ?_
  unfold kx_st
  rw [ht]
  simp only [kx_do]
  simp only [List.take_succ_cons, List.take_zero, List.drop_succ_cons, List.drop_zero, List.reverse_cons, List.reverse_nil, List.nil_append, List.cons_append]
  rw [if_pos ⟨by show (if c = 8 then a = 105 else G.1 a = (1, c)); rw [if_neg (by simpa using h8)]; exact hs, by simp, hc⟩]; exact h
theorem ks_callvS_3 {i : Nat} {v1 v2 : kx_V} (ht : tb pc = (.invokevirtual i, nx, r1, 3, 0, [8])) (hc : kx_cats st ≤ 8) (h : kx_cx E r1 [kR 105, v1, v2] G μ (fun v G' μ' => kx_wx E tb Q nx ls (v.toList ++ st) G' μ')) : kx_wx E tb Q pc ls (v2 :: v1 :: kR 105 :: st) G μ := by
  refine kx_wx_step ?_
  unfold kx_st
  rw [ht]
  simp only [kx_do]
  simp only [List.take_succ_cons, List.take_zero, List.drop_succ_cons, List.drop_zero, List.reverse_cons, List.reverse_nil, List.nil_append, List.cons_append]
  rw [if_pos ⟨by simp, by simp, hc⟩]; exact h
theorem ks_calls_4 {i : Nat} {v0 v1 v2 v3 : kx_V} (ht : tb pc = (.invokestatic i, nx, r1, 4, 0, tg)) (hc : kx_cats st ≤ 8) (h : kx_cx E r1 [v0, v1, v2, v3] G μ (fun v G' μ' => kx_wx E tb Q nx ls (v.toList ++ st) G' μ')) : kx_wx E tb Q pc ls (v3 :: v2 :: v1 :: v0 :: st) G μ := by
  refine kx_wx_step ?_
  unfold kx_st
  rw [ht]
  simp only [kx_do]
  rw [if_neg (by decide), if_pos ⟨by simp, by simpa using hc⟩]; exact h
theorem ks_callp_4 {i a : Nat} {v1 v2 v3 : kx_V} (ht : tb pc = (.invokespecial i, nx, r1, 4, 0, tg)) (hc : kx_cats st ≤ 8) (h : kx_cx E r1 [kR a, v1, v2, v3] G μ (fun v G' μ' => kx_wx E tb Q nx ls (v.toList ++ st) G' μ')) : kx_wx E tb Q pc ls (v3 :: v2 :: v1 :: kR a :: st) G μ := by
  refine kx_wx_step ?_
  unfold kx_st
  rw [ht]
  simp only [kx_do]
  rw [if_neg (by decide)]
  simp only [List.take_succ_cons, List.take_zero, List.drop_succ_cons, List.drop_zero, List.reverse_cons, List.reverse_nil, List.nil_append, List.cons_append]
  rw [if_pos ⟨by simp, hc⟩]; exact h
theorem ks_callv_4 {i a c : Nat} {v1 v2 v3 : kx_V} (ht : tb pc = (.invokevirtual i, nx, r1, 4, 0, [c])) (h8 : (c == 8) = false) (hs : G.1 a = (1, c)) (hc : kx_cats st ≤ 8) (h : kx_cx E r1 [kR a, v1, v2, v3] G μ (fun v G' μ' => kx_wx E tb Q nx ls (v.toList ++ st) G' μ')) : kx_wx E tb Q pc ls (v3 :: v2 :: v1 :: kR a :: st) G μ := by
  refine kx_wx_step ?_
  unfold kx_st
  rw [ht]
  simp only [kx_do]
  simp only [List.take_succ_cons, List.take_zero, List.drop_succ_cons, List.drop_zero, List.reverse_cons, List.reverse_nil, List.nil_append, List.cons_append]
  rw [if_pos ⟨by show (if c = 8 then a = 105 else G.1 a = (1, c)); rw [if_neg (by simpa using h8)]; exact hs, by simp, hc⟩]; exact h
theorem ks_callvS_4 {i : Nat} {v1 v2 v3 : kx_V} (ht : tb pc = (.invokevirtual i, nx, r1, 4, 0, [8])) (hc : kx_cats st ≤ 8) (h : kx_cx E r1 [kR 105, v1, v2, v3] G μ (fun v G' μ' => kx_wx E tb Q nx ls (v.toList ++ st) G' μ')) : kx_wx E tb Q pc ls (v3 :: v2 :: v1 :: kR 105 :: st) G μ := by
  refine kx_wx_step ?_
  unfold kx_st
  rw [ht]
  simp only [kx_do]
  simp only [List.take_succ_cons, List.take_zero, List.drop_succ_cons, List.drop_zero, List.reverse_cons, List.reverse_nil, List.nil_append, List.cons_append]
  rw [if_pos ⟨by simp, by simp, hc⟩]; exact h
theorem ks_calls_5 {i : Nat} {v0 v1 v2 v3 v4 : kx_V} (ht : tb pc = (.invokestatic i, nx, r1, 5, 0, tg)) (hc : kx_cats st ≤ 8) (h : kx_cx E r1 [v0, v1, v2, v3, v4] G μ (fun v G' μ' => kx_wx E tb Q nx ls (v.toList ++ st) G' μ')) : kx_wx E tb Q pc ls (v4 :: v3 :: v2 :: v1 :: v0 :: st) G μ := by
  refine kx_wx_step ?_
  unfold kx_st
  rw [ht]
  simp only [kx_do]
  rw [if_neg (by decide), if_pos ⟨by simp, by simpa using hc⟩]; exact h
theorem ks_callp_5 {i a : Nat} {v1 v2 v3 v4 : kx_V} (ht : tb pc = (.invokespecial i, nx, r1, 5, 0, tg)) (hc : kx_cats st ≤ 8) (h : kx_cx E r1 [kR a, v1, v2, v3, v4] G μ (fun v G' μ' => kx_wx E tb Q nx ls (v.toList ++ st) G' μ')) : kx_wx E tb Q pc ls (v4 :: v3 :: v2 :: v1 :: kR a :: st) G μ := by
  refine kx_wx_step ?_
  unfold kx_st
  rw [ht]
  simp only [kx_do]
  rw [if_neg (by decide)]
  simp only [List.take_succ_cons, List.take_zero, List.drop_succ_cons, List.drop_zero, List.reverse_cons, List.reverse_nil, List.nil_append, List.cons_append]
  rw [if_pos ⟨by simp, hc⟩]; exact h
theorem ks_callv_5 {i a c : Nat} {v1 v2 v3 v4 : kx_V} (ht : tb pc = (.invokevirtual i, nx, r1, 5, 0, [c])) (h8 : (c == 8) = false) (hs : G.1 a = (1, c)) (hc : kx_cats st ≤ 8) (h : kx_cx E r1 [kR a, v1, v2, v3, v4] G μ (fun v G' μ' => kx_wx E tb Q nx ls (v.toList ++ st) G' μ')) : kx_wx E tb Q pc ls (v4 :: v3 :: v2 :: v1 :: kR a :: st) G μ := by
  refine kx_wx_step ?_
  unfold kx_st
  rw [ht]
  simp only [kx_do]
  simp only [List.take_succ_cons, List.take_zero, List.drop_succ_cons, List.drop_zero, List.reverse_cons, List.reverse_nil, List.nil_append, List.cons_append]
  rw [if_pos ⟨by show (if c = 8 then a = 105 else G.1 a = (1, c)); rw [if_neg (by simpa using h8)]; exact hs, by simp, hc⟩]; exact h
theorem ks_callvS_5 {i : Nat} {v1 v2 v3 v4 : kx_V} (ht : tb pc = (.invokevirtual i, nx, r1, 5, 0, [8])) (hc : kx_cats st ≤ 8) (h : kx_cx E r1 [kR 105, v1, v2, v3, v4] G μ (fun v G' μ' => kx_wx E tb Q nx ls (v.toList ++ st) G' μ')) : kx_wx E tb Q pc ls (v4 :: v3 :: v2 :: v1 :: kR 105 :: st) G μ := by
  refine kx_wx_step ?_
  unfold kx_st
  rw [ht]
  simp only [kx_do]
  simp only [List.take_succ_cons, List.take_zero, List.drop_succ_cons, List.drop_zero, List.reverse_cons, List.reverse_nil, List.nil_append, List.cons_append]
  rw [if_pos ⟨by simp, by simp, hc⟩]; exact h
end KS
end
section
def kt_Acts_init : Nat → kx_E
  | 0 => (.aload_n 0, 1, 0, 0, 0, [])
  | 1 => (.invokespecial 1, 4, 0, 0, 1, [])
  | 4 => (.aload_n 0, 5, 0, 0, 0, [])
  | 5 => (.bipush 24, 7, 0, 0, 24, [])
  | 7 => (.newarray .int, 9, 2, 0, 0, [])
  | 9 => (.putfield 9, 12, 0, 1, 0, [])
  | 12 => (.aload_n 0, 13, 0, 0, 0, [])
  | 13 => (.bipush 24, 15, 0, 0, 24, [])
  | 15 => (.newarray .int, 17, 2, 0, 0, [])
  | 17 => (.putfield 13, 20, 0, 1, 1, [])
  | 20 => (.aload_n 0, 21, 0, 0, 0, [])
  | 21 => (.bipush 24, 23, 0, 0, 24, [])
  | 23 => (.newarray .int, 25, 2, 0, 0, [])
  | 25 => (.putfield 16, 28, 0, 1, 2, [])
  | 28 => (.aload_n 0, 29, 0, 0, 0, [])
  | 29 => (.bipush 24, 31, 0, 0, 24, [])
  | 31 => (.newarray .int, 33, 2, 0, 0, [])
  | 33 => (.putfield 19, 36, 0, 1, 3, [])
  | 36 => (.return_, 37, 0, 0, 0, [])
  | _ => (.nop, 1, 0, 0, 0, [])
def kt_Acts_forgetAll : Nat → kx_E
  | 0 => (.aload_n 0, 1, 0, 0, 0, [])
  | 1 => (.iconst 0, 2, 0, 0, 0, [])
  | 2 => (.putfield 22, 5, 0, 0, 5, [])
  | 5 => (.return_, 6, 0, 0, 0, [])
  | _ => (.nop, 1, 0, 0, 0, [])
def kt_Acts_keep : Nat → kx_E
  | 0 => (.aload_n 0, 1, 0, 0, 0, [])
  | 1 => (.getfield 9, 4, 0, 1, 0, [])
  | 4 => (.aload_n 0, 5, 0, 0, 0, [])
  | 5 => (.getfield 26, 8, 0, 0, 4, [])
  | 8 => (.iload_n 1, 9, 1, 0, 0, [])
  | 9 => (.iastore, 10, 0, 0, 0, [])
  | 10 => (.aload_n 0, 11, 0, 0, 0, [])
  | 11 => (.getfield 13, 14, 0, 1, 1, [])
  | 14 => (.aload_n 0, 15, 0, 0, 0, [])
  | 15 => (.getfield 26, 18, 0, 0, 4, [])
  | 18 => (.iload_n 2, 19, 2, 0, 0, [])
  | 19 => (.iastore, 20, 0, 0, 0, [])
  | 20 => (.aload_n 0, 21, 0, 0, 0, [])
  | 21 => (.getfield 16, 24, 0, 1, 2, [])
  | 24 => (.aload_n 0, 25, 0, 0, 0, [])
  | 25 => (.getfield 26, 28, 0, 0, 4, [])
  | 28 => (.iload_n 3, 29, 3, 0, 0, [])
  | 29 => (.iastore, 30, 0, 0, 0, [])
  | 30 => (.aload_n 0, 31, 0, 0, 0, [])
  | 31 => (.getfield 19, 34, 0, 1, 3, [])
  | 34 => (.aload_n 0, 35, 0, 0, 0, [])
  | 35 => (.getfield 26, 38, 0, 0, 4, [])
  | 38 => (.iload 4, 40, 4, 0, 0, [])
  | 40 => (.iastore, 41, 0, 0, 0, [])
  | 41 => (.aload_n 0, 42, 0, 0, 0, [])
  | 42 => (.aload_n 0, 43, 0, 0, 0, [])
  | 43 => (.getfield 26, 46, 0, 0, 4, [])
  | 46 => (.iconst 1, 47, 0, 0, 1, [])
  | 47 => (.iadd, 48, 0, 0, 0, [])
  | 48 => (.bipush 24, 50, 0, 0, 24, [])
  | 50 => (.irem, 51, 0, 0, 0, [])
  | 51 => (.putfield 26, 54, 0, 0, 4, [])
  | 54 => (.aload_n 0, 55, 0, 0, 0, [])
  | 55 => (.aload_n 0, 56, 0, 0, 0, [])
  | 56 => (.getfield 22, 59, 0, 0, 5, [])
  | 59 => (.iconst 1, 60, 0, 0, 1, [])
  | 60 => (.iadd, 61, 0, 0, 0, [])
  | 61 => (.bipush 24, 63, 0, 0, 24, [])
  | 63 => (.invokestatic 29, 66, 193, 2, 0, [])
  | 66 => (.putfield 22, 69, 0, 0, 5, [])
  | 69 => (.return_, 70, 0, 0, 0, [])
  | _ => (.nop, 1, 0, 0, 0, [])
def kt_Acts_revertLatest : Nat → kx_E
  | 0 => (.aload_n 0, 1, 0, 0, 0, [])
  | 1 => (.aload_n 0, 2, 0, 0, 0, [])
  | 2 => (.getfield 26, 5, 0, 0, 4, [])
  | 5 => (.bipush 24, 7, 0, 0, 24, [])
  | 7 => (.iadd, 8, 0, 0, 0, [])
  | 8 => (.iconst 1, 9, 0, 0, 1, [])
  | 9 => (.isub, 10, 0, 0, 0, [])
  | 10 => (.bipush 24, 12, 0, 0, 24, [])
  | 12 => (.irem, 13, 0, 0, 0, [])
  | 13 => (.putfield 26, 16, 0, 0, 4, [])
  | 16 => (.aload_n 0, 17, 0, 0, 0, [])
  | 17 => (.dup, 18, 0, 0, 0, [])
  | 18 => (.getfield 22, 21, 0, 0, 5, [])
  | 21 => (.iconst 1, 22, 0, 0, 1, [])
  | 22 => (.isub, 23, 0, 0, 0, [])
  | 23 => (.putfield 22, 26, 0, 0, 5, [])
  | 26 => (.aload_n 0, 27, 0, 0, 0, [])
  | 27 => (.getfield 19, 30, 0, 1, 3, [])
  | 30 => (.aload_n 0, 31, 0, 0, 0, [])
  | 31 => (.getfield 26, 34, 0, 0, 4, [])
  | 34 => (.iaload, 35, 0, 0, 0, [])
  | 35 => (.istore_n 2, 36, 2, 0, 0, [])
  | 36 => (.aload_n 0, 37, 0, 0, 0, [])
  | 37 => (.getfield 9, 40, 0, 1, 0, [])
  | 40 => (.aload_n 0, 41, 0, 0, 0, [])
  | 41 => (.getfield 26, 44, 0, 0, 4, [])
  | 44 => (.iaload, 45, 0, 0, 0, [])
  | 45 => (.tableswitch 116 0 4 #[35, 61, 69, 98, 106], 80, 161, 0, 0, [80, 106, 114, 143, 151])
  | 80 => (.aload_n 1, 81, 1, 0, 0, [])
  | 81 => (.aload_n 0, 82, 0, 0, 0, [])
  | 82 => (.getfield 13, 85, 0, 1, 1, [])
  | 85 => (.aload_n 0, 86, 0, 0, 0, [])
  | 86 => (.getfield 26, 89, 0, 0, 4, [])
  | 89 => (.iaload, 90, 0, 0, 0, [])
  | 90 => (.aload_n 0, 91, 0, 0, 0, [])
  | 91 => (.getfield 16, 94, 0, 1, 2, [])
  | 94 => (.aload_n 0, 95, 0, 0, 0, [])
  | 95 => (.getfield 26, 98, 0, 0, 4, [])
  | 98 => (.iaload, 99, 0, 0, 0, [])
  | 99 => (.iload_n 2, 100, 2, 0, 0, [])
  | 100 => (.invokevirtual 35, 103, 62, 4, 0, [5])
  | 103 => (.goto 58, 106, 161, 0, 0, [])
  | 106 => (.aload_n 1, 107, 1, 0, 0, [])
  | 107 => (.iload_n 2, 108, 2, 0, 0, [])
  | 108 => (.putfield 41, 111, 5, 0, 10, [])
  | 111 => (.goto 50, 114, 161, 0, 0, [])
  | 114 => (.aload_n 1, 115, 1, 0, 0, [])
  | 115 => (.aload_n 0, 116, 0, 0, 0, [])
  | 116 => (.getfield 13, 119, 0, 1, 1, [])
  | 119 => (.aload_n 0, 120, 0, 0, 0, [])
  | 120 => (.getfield 26, 123, 0, 0, 4, [])
  | 123 => (.iaload, 124, 0, 0, 0, [])
  | 124 => (.putfield 44, 127, 5, 0, 11, [])
  | 127 => (.aload_n 1, 128, 1, 0, 0, [])
  | 128 => (.aload_n 0, 129, 0, 0, 0, [])
  | 129 => (.getfield 16, 132, 0, 1, 2, [])
  | 132 => (.aload_n 0, 133, 0, 0, 0, [])
  | 133 => (.getfield 26, 136, 0, 0, 4, [])
  | 136 => (.iaload, 137, 0, 0, 0, [])
  | 137 => (.putfield 47, 140, 5, 0, 12, [])
  | 140 => (.goto 21, 143, 161, 0, 0, [])
  | 143 => (.aload_n 1, 144, 1, 0, 0, [])
  | 144 => (.iload_n 2, 145, 2, 0, 0, [])
  | 145 => (.putfield 50, 148, 5, 0, 9, [])
  | 148 => (.goto 13, 151, 161, 0, 0, [])
  | 151 => (.aload_n 1, 152, 1, 0, 0, [])
  | 152 => (.getfield 53, 155, 5, 1, 6, [])
  | 155 => (.iload_n 2, 156, 2, 0, 0, [])
  | 156 => (.iconst 0, 157, 0, 0, 0, [])
  | 157 => (.iastore, 158, 0, 0, 0, [])
  | 158 => (.goto 3, 161, 161, 0, 0, [])
  | 161 => (.return_, 162, 0, 0, 0, [])
  | _ => (.nop, 1, 0, 0, 0, [])
def kt_Asker_init : Nat → kx_E
  | 0 => (.aload_n 0, 1, 0, 0, 0, [])
  | 1 => (.invokespecial 3, 4, 0, 0, 1, [])
  | 4 => (.aload_n 0, 5, 0, 0, 0, [])
  | 5 => (.bipush 16, 7, 0, 0, 16, [])
  | 7 => (.newarray .int, 9, 2, 0, 0, [])
  | 9 => (.putfield 11, 12, 1, 1, 0, [])
  | 12 => (.return_, 13, 0, 0, 0, [])
  | _ => (.nop, 1, 0, 0, 0, [])
def kt_Asker_numberAt : Nat → kx_E
  | 0 => (.iconst 0, 1, 0, 0, 0, [])
  | 1 => (.iload_n 1, 2, 1, 0, 0, [])
  | 2 => (.if_icmp .gt 20, 5, 22, 0, 0, [])
  | 5 => (.iload_n 1, 6, 1, 0, 0, [])
  | 6 => (.aload_n 0, 7, 0, 0, 0, [])
  | 7 => (.getfield 15, 10, 1, 0, 1, [])
  | 10 => (.if_icmp .ge 12, 13, 22, 0, 0, [])
  | 13 => (.aload_n 0, 14, 0, 0, 0, [])
  | 14 => (.getfield 11, 17, 1, 1, 0, [])
  | 17 => (.iload_n 1, 18, 1, 0, 0, [])
  | 18 => (.iaload, 19, 0, 0, 0, [])
  | 19 => (.goto 5, 22, 24, 0, 0, [])
  | 22 => (.ldc 19, 24, 0, 0, (-1000000), [])
  | 24 => (.ireturn, 25, 0, 0, 0, [])
  | _ => (.nop, 1, 0, 0, 0, [])
def kt_Asker_answer : Nat → kx_E
  | 0 => (.aload_n 0, 1, 0, 0, 0, [])
  | 1 => (.iconst 0, 2, 0, 0, 0, [])
  | 2 => (.putfield 15, 5, 1, 0, 1, [])
  | 5 => (.aload_n 0, 6, 0, 0, 0, [])
  | 6 => (.iload_n 3, 7, 3, 0, 0, [])
  | 7 => (.aload_n 1, 8, 1, 0, 0, [])
  | 8 => (.iload_n 2, 9, 2, 0, 0, [])
  | 9 => (.iconst 0, 10, 0, 0, 0, [])
  | 10 => (.invokevirtual 20, 13, 8, 5, 0, [1])
  | 13 => (.ireturn, 14, 0, 0, 0, [])
  | _ => (.nop, 1, 0, 0, 0, [])
def kt_Asker_runBody : Nat → kx_E
  | 0 => (.iload 4, 2, 4, 0, 0, [])
  | 2 => (.bipush 12, 4, 0, 0, 12, [])
  | 4 => (.if_icmp .lt 5, 7, 9, 0, 0, [])
  | 7 => (.iconst 0, 8, 0, 0, 0, [])
  | 8 => (.ireturn, 9, 0, 0, 0, [])
  | 9 => (.aload_n 0, 10, 0, 0, 0, [])
  | 10 => (.iload_n 1, 11, 1, 0, 0, [])
  | 11 => (.invokevirtual 24, 14, 9, 2, 0, [1])
  | 14 => (.iload 4, 16, 4, 0, 0, [])
  | 16 => (.iconst 1, 17, 0, 0, 1, [])
  | 17 => (.iadd, 18, 0, 0, 0, [])
  | 18 => (.istore 5, 20, 5, 0, 0, [])
  | 20 => (.iload_n 1, 21, 1, 0, 0, [])
  | 21 => (.tableswitch 211 10 24 #[75, 82, 103, 115, 129, 211, 211, 211, 211, 211, 142, 144, 162, 177, 198], 96, 232, 0, 10, [96, 103, 124, 136, 150, 232, 232, 232, 232, 232, 163, 165, 183, 198, 219])
  | 96 => (.aload_n 2, 97, 2, 0, 0, [])
  | 97 => (.getfield 28, 100, 5, 1, 1, [])
  | 100 => (.iload_n 3, 101, 3, 0, 0, [])
  | 101 => (.iaload, 102, 0, 0, 0, [])
  | 102 => (.ireturn, 103, 0, 0, 0, [])
  | 103 => (.aload_n 0, 104, 0, 0, 0, [])
  | 104 => (.bipush 10, 106, 0, 0, 10, [])
  | 106 => (.aload_n 2, 107, 2, 0, 0, [])
  | 107 => (.iload_n 3, 108, 3, 0, 0, [])
  | 108 => (.iload 5, 110, 5, 0, 0, [])
  | 110 => (.invokevirtual 33, 113, 7, 5, 0, [1])
  | 113 => (.aload_n 0, 114, 0, 0, 0, [])
  | 114 => (.iconst 1, 115, 0, 0, 1, [])
  | 115 => (.aload_n 2, 116, 2, 0, 0, [])
  | 116 => (.iload_n 3, 117, 3, 0, 0, [])
  | 117 => (.iload 5, 119, 5, 0, 0, [])
  | 119 => (.invokevirtual 20, 122, 8, 5, 0, [1])
  | 122 => (.iadd, 123, 0, 0, 0, [])
  | 123 => (.ireturn, 124, 0, 0, 0, [])
  | 124 => (.aload_n 0, 125, 0, 0, 0, [])
  | 125 => (.bipush 11, 127, 0, 0, 11, [])
  | 127 => (.aload_n 2, 128, 2, 0, 0, [])
  | 128 => (.iload_n 3, 129, 3, 0, 0, [])
  | 129 => (.iload 5, 131, 5, 0, 0, [])
  | 131 => (.invokevirtual 33, 134, 7, 5, 0, [1])
  | 134 => (.ineg, 135, 0, 0, 0, [])
  | 135 => (.ireturn, 136, 0, 0, 0, [])
  | 136 => (.aload_n 0, 137, 0, 0, 0, [])
  | 137 => (.bipush 10, 139, 0, 0, 10, [])
  | 139 => (.aload_n 2, 140, 2, 0, 0, [])
  | 140 => (.iload_n 3, 141, 3, 0, 0, [])
  | 141 => (.iload 5, 143, 5, 0, 0, [])
  | 143 => (.invokevirtual 33, 146, 7, 5, 0, [1])
  | 146 => (.bipush 100, 148, 0, 0, 100, [])
  | 148 => (.isub, 149, 0, 0, 0, [])
  | 149 => (.ireturn, 150, 0, 0, 0, [])
  | 150 => (.iconst 2, 151, 0, 0, 2, [])
  | 151 => (.aload_n 0, 152, 0, 0, 0, [])
  | 152 => (.bipush 13, 154, 0, 0, 13, [])
  | 154 => (.aload_n 2, 155, 2, 0, 0, [])
  | 155 => (.iload_n 3, 156, 3, 0, 0, [])
  | 156 => (.iload 5, 158, 5, 0, 0, [])
  | 158 => (.invokevirtual 33, 161, 7, 5, 0, [1])
  | 161 => (.imul, 162, 0, 0, 0, [])
  | 162 => (.ireturn, 163, 0, 0, 0, [])
  | 163 => (.iload_n 3, 164, 3, 0, 0, [])
  | 164 => (.ireturn, 165, 0, 0, 0, [])
  | 165 => (.aload_n 0, 166, 0, 0, 0, [])
  | 166 => (.bipush 20, 168, 0, 0, 20, [])
  | 168 => (.aload_n 2, 169, 2, 0, 0, [])
  | 169 => (.iload_n 3, 170, 3, 0, 0, [])
  | 170 => (.iload 5, 172, 5, 0, 0, [])
  | 172 => (.invokevirtual 33, 175, 7, 5, 0, [1])
  | 175 => (.aload_n 2, 176, 2, 0, 0, [])
  | 176 => (.getfield 36, 179, 5, 1, 3, [])
  | 179 => (.iload_n 3, 180, 3, 0, 0, [])
  | 180 => (.iaload, 181, 0, 0, 0, [])
  | 181 => (.iadd, 182, 0, 0, 0, [])
  | 182 => (.ireturn, 183, 0, 0, 0, [])
  | 183 => (.aload_n 0, 184, 0, 0, 0, [])
  | 184 => (.bipush 21, 186, 0, 0, 21, [])
  | 186 => (.aload_n 2, 187, 2, 0, 0, [])
  | 187 => (.iload_n 3, 188, 3, 0, 0, [])
  | 188 => (.iload 5, 190, 5, 0, 0, [])
  | 190 => (.invokevirtual 33, 193, 7, 5, 0, [1])
  | 193 => (.sipush 1000, 196, 0, 0, 1000, [])
  | 196 => (.isub, 197, 0, 0, 0, [])
  | 197 => (.ireturn, 198, 0, 0, 0, [])
  | 198 => (.aload_n 0, 199, 0, 0, 0, [])
  | 199 => (.bipush 20, 201, 0, 0, 20, [])
  | 201 => (.aload_n 2, 202, 2, 0, 0, [])
  | 202 => (.iload_n 3, 203, 3, 0, 0, [])
  | 203 => (.iload 5, 205, 5, 0, 0, [])
  | 205 => (.invokevirtual 33, 208, 7, 5, 0, [1])
  | 208 => (.aload_n 0, 209, 0, 0, 0, [])
  | 209 => (.iconst 0, 210, 0, 0, 0, [])
  | 210 => (.aload_n 2, 211, 2, 0, 0, [])
  | 211 => (.iload_n 3, 212, 3, 0, 0, [])
  | 212 => (.iload 5, 214, 5, 0, 0, [])
  | 214 => (.invokevirtual 20, 217, 8, 5, 0, [1])
  | 217 => (.isub, 218, 0, 0, 0, [])
  | 218 => (.ireturn, 219, 0, 0, 0, [])
  | 219 => (.iconst 2, 220, 0, 0, 2, [])
  | 220 => (.aload_n 0, 221, 0, 0, 0, [])
  | 221 => (.bipush 21, 223, 0, 0, 21, [])
  | 223 => (.aload_n 2, 224, 2, 0, 0, [])
  | 224 => (.iload_n 3, 225, 3, 0, 0, [])
  | 225 => (.iload 5, 227, 5, 0, 0, [])
  | 227 => (.invokevirtual 33, 230, 7, 5, 0, [1])
  | 230 => (.imul, 231, 0, 0, 0, [])
  | 231 => (.ireturn, 232, 0, 0, 0, [])
  | 232 => (.iconst 0, 233, 0, 0, 0, [])
  | 233 => (.ireturn, 234, 0, 0, 0, [])
  | _ => (.nop, 1, 0, 0, 0, [])
def kt_Asker_askAnew : Nat → kx_E
  | 0 => (.aload_n 0, 1, 0, 0, 0, [])
  | 1 => (.aload_n 2, 2, 2, 0, 0, [])
  | 2 => (.getfield 39, 5, 5, 1, 0, [])
  | 5 => (.iload_n 3, 6, 3, 0, 0, [])
  | 6 => (.iaload, 7, 0, 0, 0, [])
  | 7 => (.iload_n 1, 8, 1, 0, 0, [])
  | 8 => (.invokestatic 42, 11, 29, 2, 0, [])
  | 11 => (.aload_n 2, 12, 2, 0, 0, [])
  | 12 => (.iload_n 3, 13, 3, 0, 0, [])
  | 13 => (.iload 4, 15, 4, 0, 0, [])
  | 15 => (.invokevirtual 33, 18, 7, 5, 0, [1])
  | 18 => (.ireturn, 19, 0, 0, 0, [])
  | _ => (.nop, 1, 0, 0, 0, [])
def kt_Asker_leaveNumber : Nat → kx_E
  | 0 => (.aload_n 0, 1, 0, 0, 0, [])
  | 1 => (.getfield 15, 4, 1, 0, 1, [])
  | 4 => (.bipush 16, 6, 0, 0, 16, [])
  | 6 => (.if_icmp .ge 23, 9, 29, 0, 0, [])
  | 9 => (.aload_n 0, 10, 0, 0, 0, [])
  | 10 => (.getfield 11, 13, 1, 1, 0, [])
  | 13 => (.aload_n 0, 14, 0, 0, 0, [])
  | 14 => (.getfield 15, 17, 1, 0, 1, [])
  | 17 => (.iload_n 1, 18, 1, 0, 0, [])
  | 18 => (.iastore, 19, 0, 0, 0, [])
  | 19 => (.aload_n 0, 20, 0, 0, 0, [])
  | 20 => (.dup, 21, 0, 0, 0, [])
  | 21 => (.getfield 15, 24, 1, 0, 1, [])
  | 24 => (.iconst 1, 25, 0, 0, 1, [])
  | 25 => (.iadd, 26, 0, 0, 0, [])
  | 26 => (.putfield 15, 29, 1, 0, 1, [])
  | 29 => (.return_, 30, 0, 0, 0, [])
  | _ => (.nop, 1, 0, 0, 0, [])
def kt_Fore_init : Nat → kx_E
  | 0 => (.aload_n 0, 1, 0, 0, 0, [])
  | 1 => (.invokespecial 5, 4, 0, 0, 1, [])
  | 4 => (.aload_n 0, 5, 0, 0, 0, [])
  | 5 => (.new 11, 8, 5, 0, 0, [])
  | 8 => (.dup, 9, 0, 0, 0, [])
  | 9 => (.invokespecial 13, 12, 52, 1, 0, [])
  | 12 => (.putfield 14, 15, 2, 1, 1, [])
  | 15 => (.aload_n 0, 16, 0, 0, 0, [])
  | 16 => (.bipush 61, 18, 0, 0, 61, [])
  | 18 => (.newarray .long, 20, 3, 0, 0, [])
  | 20 => (.putfield 18, 23, 2, 1, 2, [])
  | 23 => (.aload_n 0, 24, 0, 0, 0, [])
  | 24 => (.aload_n 1, 25, 1, 0, 0, [])
  | 25 => (.putfield 22, 28, 2, 1, 0, [])
  | 28 => (.return_, 29, 0, 0, 0, [])
  | _ => (.nop, 1, 0, 0, 0, [])
def kt_Fore_holderBehind : Nat → kx_E
  | 0 => (.aload_n 0, 1, 0, 0, 0, [])
  | 1 => (.getfield 14, 4, 2, 1, 1, [])
  | 4 => (.aload_n 0, 5, 0, 0, 0, [])
  | 5 => (.getfield 22, 8, 2, 1, 0, [])
  | 8 => (.invokevirtual 25, 11, 54, 2, 0, [5])
  | 11 => (.aload_n 0, 12, 0, 0, 0, [])
  | 12 => (.iload_n 1, 13, 1, 0, 0, [])
  | 13 => (.invokevirtual 29, 16, 22, 2, 0, [2])
  | 16 => (.aload_n 0, 17, 0, 0, 0, [])
  | 17 => (.getfield 14, 20, 2, 1, 1, [])
  | 20 => (.getfield 33, 23, 5, 0, 11, [])
  | 23 => (.ireturn, 24, 0, 0, 0, [])
  | _ => (.nop, 1, 0, 0, 0, [])
def kt_Fore_stepsUntilHolder : Nat → kx_E
  | 0 => (.aload_n 0, 1, 0, 0, 0, [])
  | 1 => (.getfield 14, 4, 2, 1, 1, [])
  | 4 => (.aload_n 0, 5, 0, 0, 0, [])
  | 5 => (.getfield 22, 8, 2, 1, 0, [])
  | 8 => (.invokevirtual 25, 11, 54, 2, 0, [5])
  | 11 => (.iconst 0, 12, 0, 0, 0, [])
  | 12 => (.istore_n 2, 13, 2, 0, 0, [])
  | 13 => (.iload_n 2, 14, 2, 0, 0, [])
  | 14 => (.bipush 60, 16, 0, 0, 60, [])
  | 16 => (.if_icmp .gt 30, 19, 46, 0, 0, [])
  | 19 => (.aload_n 0, 20, 0, 0, 0, [])
  | 20 => (.getfield 14, 23, 2, 1, 1, [])
  | 23 => (.getfield 33, 26, 5, 0, 11, [])
  | 26 => (.iload_n 1, 27, 1, 0, 0, [])
  | 27 => (.if_icmp .ne 5, 30, 32, 0, 0, [])
  | 30 => (.iload_n 2, 31, 2, 0, 0, [])
  | 31 => (.ireturn, 32, 0, 0, 0, [])
  | 32 => (.aload_n 0, 33, 0, 0, 0, [])
  | 33 => (.getfield 14, 36, 2, 1, 1, [])
  | 36 => (.invokevirtual 37, 39, 61, 1, 0, [5])
  | 39 => (.pop, 40, 0, 0, 0, [])
  | 40 => (.iinc 2 1, 43, 2, 0, 1, [])
  | 43 => (.goto (-30), 46, 13, 0, 0, [])
  | 46 => (.ldc 41, 48, 0, 0, (-1000000), [])
  | 48 => (.ireturn, 49, 0, 0, 0, [])
  | _ => (.nop, 1, 0, 0, 0, [])
def kt_Fore_holdersWithin : Nat → kx_E
  | 0 => (.aload_n 0, 1, 0, 0, 0, [])
  | 1 => (.getfield 14, 4, 2, 1, 1, [])
  | 4 => (.aload_n 0, 5, 0, 0, 0, [])
  | 5 => (.getfield 22, 8, 2, 1, 0, [])
  | 8 => (.invokevirtual 25, 11, 54, 2, 0, [5])
  | 11 => (.iconst 1, 12, 0, 0, 1, [])
  | 12 => (.aload_n 0, 13, 0, 0, 0, [])
  | 13 => (.getfield 14, 16, 2, 1, 1, [])
  | 16 => (.getfield 33, 19, 5, 0, 11, [])
  | 19 => (.ishl, 20, 0, 0, 0, [])
  | 20 => (.istore_n 2, 21, 2, 0, 0, [])
  | 21 => (.iconst 0, 22, 0, 0, 0, [])
  | 22 => (.istore_n 3, 23, 3, 0, 0, [])
  | 23 => (.iload_n 3, 24, 3, 0, 0, [])
  | 24 => (.iload_n 1, 25, 1, 0, 0, [])
  | 25 => (.if_icmp .ge 29, 28, 54, 0, 0, [])
  | 28 => (.aload_n 0, 29, 0, 0, 0, [])
  | 29 => (.getfield 14, 32, 2, 1, 1, [])
  | 32 => (.invokevirtual 37, 35, 61, 1, 0, [5])
  | 35 => (.pop, 36, 0, 0, 0, [])
  | 36 => (.iload_n 2, 37, 2, 0, 0, [])
  | 37 => (.iconst 1, 38, 0, 0, 1, [])
  | 38 => (.aload_n 0, 39, 0, 0, 0, [])
  | 39 => (.getfield 14, 42, 2, 1, 1, [])
  | 42 => (.getfield 33, 45, 5, 0, 11, [])
  | 45 => (.ishl, 46, 0, 0, 0, [])
  | 46 => (.ior, 47, 0, 0, 0, [])
  | 47 => (.istore_n 2, 48, 2, 0, 0, [])
  | 48 => (.iinc 3 1, 51, 3, 0, 1, [])
  | 51 => (.goto (-28), 54, 23, 0, 0, [])
  | 54 => (.iload_n 2, 55, 2, 0, 0, [])
  | 55 => (.ireturn, 56, 0, 0, 0, [])
  | _ => (.nop, 1, 0, 0, 0, [])
def kt_Fore_repetition : Nat → kx_E
  | 0 => (.aload_n 0, 1, 0, 0, 0, [])
  | 1 => (.getfield 14, 4, 2, 1, 1, [])
  | 4 => (.aload_n 0, 5, 0, 0, 0, [])
  | 5 => (.getfield 22, 8, 2, 1, 0, [])
  | 8 => (.invokevirtual 25, 11, 54, 2, 0, [5])
  | 11 => (.aload_n 0, 12, 0, 0, 0, [])
  | 12 => (.getfield 18, 15, 2, 1, 2, [])
  | 15 => (.iconst 0, 16, 0, 0, 0, [])
  | 16 => (.aload_n 0, 17, 0, 0, 0, [])
  | 17 => (.invokevirtual 42, 20, 25, 1, 0, [2])
  | 20 => (.lastore, 21, 0, 0, 0, [])
  | 21 => (.iconst 1, 22, 0, 0, 1, [])
  | 22 => (.istore_n 2, 23, 2, 0, 0, [])
  | 23 => (.iload_n 2, 24, 2, 0, 0, [])
  | 24 => (.bipush 60, 26, 0, 0, 60, [])
  | 26 => (.if_icmp .gt 48, 29, 74, 0, 0, [])
  | 29 => (.aload_n 0, 30, 0, 0, 0, [])
  | 30 => (.getfield 14, 33, 2, 1, 1, [])
  | 33 => (.invokevirtual 37, 36, 61, 1, 0, [5])
  | 36 => (.pop, 37, 0, 0, 0, [])
  | 37 => (.aload_n 0, 38, 0, 0, 0, [])
  | 38 => (.getfield 18, 41, 2, 1, 2, [])
  | 41 => (.iload_n 2, 42, 2, 0, 0, [])
  | 42 => (.aload_n 0, 43, 0, 0, 0, [])
  | 43 => (.invokevirtual 42, 46, 25, 1, 0, [2])
  | 46 => (.lastore, 47, 0, 0, 0, [])
  | 47 => (.aload_n 0, 48, 0, 0, 0, [])
  | 48 => (.iload_n 2, 49, 2, 0, 0, [])
  | 49 => (.invokevirtual 46, 52, 26, 2, 0, [2])
  | 52 => (.istore_n 3, 53, 3, 0, 0, [])
  | 53 => (.iload_n 3, 54, 3, 0, 0, [])
  | 54 => (.iload_n 2, 55, 2, 0, 0, [])
  | 55 => (.if_icmp .ge 13, 58, 68, 0, 0, [])
  | 58 => (.iload_n 1, 59, 1, 0, 0, [])
  | 59 => (.ifCond .ne 7, 62, 66, 0, 0, [])
  | 62 => (.iload_n 2, 63, 2, 0, 0, [])
  | 63 => (.goto 4, 66, 67, 0, 0, [])
  | 66 => (.iload_n 3, 67, 3, 0, 0, [])
  | 67 => (.ireturn, 68, 0, 0, 0, [])
  | 68 => (.iinc 2 1, 71, 2, 0, 1, [])
  | 71 => (.goto (-48), 74, 23, 0, 0, [])
  | 74 => (.ldc 41, 76, 0, 0, (-1000000), [])
  | 76 => (.ireturn, 77, 0, 0, 0, [])
  | _ => (.nop, 1, 0, 0, 0, [])
def kt_Fore_stepOfDone : Nat → kx_E
  | 0 => (.aload_n 0, 1, 0, 0, 0, [])
  | 1 => (.getfield 22, 4, 2, 1, 0, [])
  | 4 => (.getfield 50, 7, 5, 1, 6, [])
  | 7 => (.iload_n 1, 8, 1, 0, 0, [])
  | 8 => (.iaload, 9, 0, 0, 0, [])
  | 9 => (.ifCond .ne 32, 12, 41, 0, 0, [])
  | 12 => (.aload_n 0, 13, 0, 0, 0, [])
  | 13 => (.getfield 14, 16, 2, 1, 1, [])
  | 16 => (.aload_n 0, 17, 0, 0, 0, [])
  | 17 => (.getfield 22, 20, 2, 1, 0, [])
  | 20 => (.invokevirtual 25, 23, 54, 2, 0, [5])
  | 23 => (.aload_n 0, 24, 0, 0, 0, [])
  | 24 => (.iload_n 1, 25, 1, 0, 0, [])
  | 25 => (.bipush 60, 27, 0, 0, 60, [])
  | 27 => (.invokevirtual 54, 30, 23, 3, 0, [2])
  | 30 => (.pop, 31, 0, 0, 0, [])
  | 31 => (.aload_n 0, 32, 0, 0, 0, [])
  | 32 => (.getfield 14, 35, 2, 1, 1, [])
  | 35 => (.getfield 58, 38, 5, 1, 7, [])
  | 38 => (.iload_n 1, 39, 1, 0, 0, [])
  | 39 => (.iaload, 40, 0, 0, 0, [])
  | 40 => (.ireturn, 41, 0, 0, 0, [])
  | 41 => (.aload_n 0, 42, 0, 0, 0, [])
  | 42 => (.getfield 22, 45, 2, 1, 0, [])
  | 45 => (.getfield 58, 48, 5, 1, 7, [])
  | 48 => (.iload_n 1, 49, 1, 0, 0, [])
  | 49 => (.iaload, 50, 0, 0, 0, [])
  | 50 => (.ireturn, 51, 0, 0, 0, [])
  | _ => (.nop, 1, 0, 0, 0, [])
def kt_Fore_orderDoneFirst : Nat → kx_E
  | 0 => (.aload_n 0, 1, 0, 0, 0, [])
  | 1 => (.getfield 14, 4, 2, 1, 1, [])
  | 4 => (.aload_n 0, 5, 0, 0, 0, [])
  | 5 => (.getfield 22, 8, 2, 1, 0, [])
  | 8 => (.invokevirtual 25, 11, 54, 2, 0, [5])
  | 11 => (.iconst 0, 12, 0, 0, 0, [])
  | 12 => (.istore_n 1, 13, 1, 0, 0, [])
  | 13 => (.iload_n 1, 14, 1, 0, 0, [])
  | 14 => (.bipush 60, 16, 0, 0, 60, [])
  | 16 => (.if_icmp .ge 37, 19, 53, 0, 0, [])
  | 19 => (.aload_n 0, 20, 0, 0, 0, [])
  | 20 => (.getfield 14, 23, 2, 1, 1, [])
  | 23 => (.invokevirtual 37, 26, 61, 1, 0, [5])
  | 26 => (.istore_n 2, 27, 2, 0, 0, [])
  | 27 => (.iload_n 2, 28, 2, 0, 0, [])
  | 28 => (.iconst (-1), 29, 0, 0, (-1), [])
  | 29 => (.if_icmp .eq 18, 32, 47, 0, 0, [])
  | 32 => (.aload_n 0, 33, 0, 0, 0, [])
  | 33 => (.getfield 14, 36, 2, 1, 1, [])
  | 36 => (.getfield 50, 39, 5, 1, 6, [])
  | 39 => (.iload_n 2, 40, 2, 0, 0, [])
  | 40 => (.iaload, 41, 0, 0, 0, [])
  | 41 => (.iconst 1, 42, 0, 0, 1, [])
  | 42 => (.if_icmp .ne 5, 45, 47, 0, 0, [])
  | 45 => (.iload_n 2, 46, 2, 0, 0, [])
  | 46 => (.ireturn, 47, 0, 0, 0, [])
  | 47 => (.iinc 1 1, 50, 1, 0, 1, [])
  | 50 => (.goto (-37), 53, 13, 0, 0, [])
  | 53 => (.ldc 41, 55, 0, 0, (-1000000), [])
  | 55 => (.ireturn, 56, 0, 0, 0, [])
  | _ => (.nop, 1, 0, 0, 0, [])
def kt_Fore_workWithin : Nat → kx_E
  | 0 => (.aload_n 0, 1, 0, 0, 0, [])
  | 1 => (.getfield 14, 4, 2, 1, 1, [])
  | 4 => (.aload_n 0, 5, 0, 0, 0, [])
  | 5 => (.getfield 22, 8, 2, 1, 0, [])
  | 8 => (.invokevirtual 25, 11, 54, 2, 0, [5])
  | 11 => (.aload_n 0, 12, 0, 0, 0, [])
  | 12 => (.iload_n 2, 13, 2, 0, 0, [])
  | 13 => (.invokevirtual 29, 16, 22, 2, 0, [2])
  | 16 => (.aload_n 0, 17, 0, 0, 0, [])
  | 17 => (.getfield 14, 20, 2, 1, 1, [])
  | 20 => (.getfield 61, 23, 5, 1, 3, [])
  | 23 => (.iload_n 1, 24, 1, 0, 0, [])
  | 24 => (.iaload, 25, 0, 0, 0, [])
  | 25 => (.aload_n 0, 26, 0, 0, 0, [])
  | 26 => (.getfield 22, 29, 2, 1, 0, [])
  | 29 => (.getfield 61, 32, 5, 1, 3, [])
  | 32 => (.iload_n 1, 33, 1, 0, 0, [])
  | 33 => (.iaload, 34, 0, 0, 0, [])
  | 34 => (.isub, 35, 0, 0, 0, [])
  | 35 => (.ireturn, 36, 0, 0, 0, [])
  | _ => (.nop, 1, 0, 0, 0, [])
def kt_Fore_bestGift : Nat → kx_E
  | 0 => (.bipush 61, 2, 0, 0, 61, [])
  | 2 => (.istore_n 3, 3, 3, 0, 0, [])
  | 3 => (.ldc 41, 5, 0, 0, (-1000000), [])
  | 5 => (.istore 4, 7, 4, 0, 0, [])
  | 7 => (.iconst 0, 8, 0, 0, 0, [])
  | 8 => (.istore 5, 10, 5, 0, 0, [])
  | 10 => (.iload 5, 12, 5, 0, 0, [])
  | 12 => (.aload_n 0, 13, 0, 0, 0, [])
  | 13 => (.getfield 22, 16, 2, 1, 0, [])
  | 16 => (.getfield 64, 19, 5, 0, 8, [])
  | 19 => (.if_icmp .ge 52, 22, 71, 0, 0, [])
  | 22 => (.aload_n 0, 23, 0, 0, 0, [])
  | 23 => (.getfield 14, 26, 2, 1, 1, [])
  | 26 => (.aload_n 0, 27, 0, 0, 0, [])
  | 27 => (.getfield 22, 30, 2, 1, 0, [])
  | 30 => (.invokevirtual 25, 33, 54, 2, 0, [5])
  | 33 => (.aload_n 0, 34, 0, 0, 0, [])
  | 34 => (.getfield 14, 37, 2, 1, 1, [])
  | 37 => (.iload 5, 39, 5, 0, 0, [])
  | 39 => (.invokevirtual 67, 42, 60, 2, 0, [5])
  | 42 => (.aload_n 0, 43, 0, 0, 0, [])
  | 43 => (.iload_n 1, 44, 1, 0, 0, [])
  | 44 => (.iload_n 3, 45, 3, 0, 0, [])
  | 45 => (.iconst 1, 46, 0, 0, 1, [])
  | 46 => (.isub, 47, 0, 0, 0, [])
  | 47 => (.invokevirtual 54, 50, 23, 3, 0, [2])
  | 50 => (.istore 6, 52, 6, 0, 0, [])
  | 52 => (.iload 6, 54, 6, 0, 0, [])
  | 54 => (.iload_n 3, 55, 3, 0, 0, [])
  | 55 => (.if_icmp .ge 10, 58, 65, 0, 0, [])
  | 58 => (.iload 6, 60, 6, 0, 0, [])
  | 60 => (.istore_n 3, 61, 3, 0, 0, [])
  | 61 => (.iload 5, 63, 5, 0, 0, [])
  | 63 => (.istore 4, 65, 4, 0, 0, [])
  | 65 => (.iinc 5 1, 68, 5, 0, 1, [])
  | 68 => (.goto (-58), 71, 10, 0, 0, [])
  | 71 => (.iload 4, 73, 4, 0, 0, [])
  | 73 => (.ldc 41, 75, 0, 0, (-1000000), [])
  | 75 => (.if_icmp .ne 6, 78, 81, 0, 0, [])
  | 78 => (.ldc 41, 80, 0, 0, (-1000000), [])
  | 80 => (.ireturn, 81, 0, 0, 0, [])
  | 81 => (.iload_n 2, 82, 2, 0, 0, [])
  | 82 => (.ifCond .ne 8, 85, 90, 0, 0, [])
  | 85 => (.iload 4, 87, 4, 0, 0, [])
  | 87 => (.goto 4, 90, 91, 0, 0, [])
  | 90 => (.iload_n 3, 91, 3, 0, 0, [])
  | 91 => (.ireturn, 92, 0, 0, 0, [])
  | _ => (.nop, 1, 0, 0, 0, [])
def kt_Fore_windsThatBring : Nat → kx_E
  | 0 => (.iconst 0, 1, 0, 0, 0, [])
  | 1 => (.istore_n 3, 2, 3, 0, 0, [])
  | 2 => (.iconst 0, 3, 0, 0, 0, [])
  | 3 => (.istore 4, 5, 4, 0, 0, [])
  | 5 => (.iload 4, 7, 4, 0, 0, [])
  | 7 => (.iconst 5, 8, 0, 0, 5, [])
  | 8 => (.if_icmp .gt 52, 11, 60, 0, 0, [])
  | 11 => (.aload_n 0, 12, 0, 0, 0, [])
  | 12 => (.getfield 14, 15, 2, 1, 1, [])
  | 15 => (.aload_n 0, 16, 0, 0, 0, [])
  | 16 => (.getfield 22, 19, 2, 1, 0, [])
  | 19 => (.invokevirtual 25, 22, 54, 2, 0, [5])
  | 22 => (.aload_n 0, 23, 0, 0, 0, [])
  | 23 => (.getfield 14, 26, 2, 1, 1, [])
  | 26 => (.iload 4, 28, 4, 0, 0, [])
  | 28 => (.putfield 70, 31, 5, 0, 10, [])
  | 31 => (.aload_n 0, 32, 0, 0, 0, [])
  | 32 => (.iload_n 2, 33, 2, 0, 0, [])
  | 33 => (.invokevirtual 29, 36, 22, 2, 0, [2])
  | 36 => (.aload_n 0, 37, 0, 0, 0, [])
  | 37 => (.getfield 14, 40, 2, 1, 1, [])
  | 40 => (.getfield 33, 43, 5, 0, 11, [])
  | 43 => (.iload_n 1, 44, 1, 0, 0, [])
  | 44 => (.if_icmp .ne 10, 47, 54, 0, 0, [])
  | 47 => (.iload_n 3, 48, 3, 0, 0, [])
  | 48 => (.iconst 1, 49, 0, 0, 1, [])
  | 49 => (.iload 4, 51, 4, 0, 0, [])
  | 51 => (.ishl, 52, 0, 0, 0, [])
  | 52 => (.ior, 53, 0, 0, 0, [])
  | 53 => (.istore_n 3, 54, 3, 0, 0, [])
  | 54 => (.iinc 4 1, 57, 4, 0, 1, [])
  | 57 => (.goto (-52), 60, 5, 0, 0, [])
  | 60 => (.iload_n 3, 61, 3, 0, 0, [])
  | 61 => (.ireturn, 62, 0, 0, 0, [])
  | _ => (.nop, 1, 0, 0, 0, [])
def kt_Fore_giftsThatGoAs : Nat → kx_E
  | 0 => (.iconst 0, 1, 0, 0, 0, [])
  | 1 => (.istore 5, 3, 5, 0, 0, [])
  | 3 => (.ldc 41, 5, 0, 0, (-1000000), [])
  | 5 => (.istore 6, 7, 6, 0, 0, [])
  | 7 => (.aload_n 0, 8, 0, 0, 0, [])
  | 8 => (.getfield 22, 11, 2, 1, 0, [])
  | 11 => (.getfield 64, 14, 5, 0, 8, [])
  | 14 => (.iconst 1, 15, 0, 0, 1, [])
  | 15 => (.isub, 16, 0, 0, 0, [])
  | 16 => (.istore 7, 18, 7, 0, 0, [])
  | 18 => (.iload 7, 20, 7, 0, 0, [])
  | 20 => (.ifCond .lt 46, 23, 66, 0, 0, [])
  | 23 => (.aload_n 0, 24, 0, 0, 0, [])
  | 24 => (.getfield 14, 27, 2, 1, 1, [])
  | 27 => (.aload_n 0, 28, 0, 0, 0, [])
  | 28 => (.getfield 22, 31, 2, 1, 0, [])
  | 31 => (.invokevirtual 25, 34, 54, 2, 0, [5])
  | 34 => (.aload_n 0, 35, 0, 0, 0, [])
  | 35 => (.getfield 14, 38, 2, 1, 1, [])
  | 38 => (.iload 7, 40, 7, 0, 0, [])
  | 40 => (.invokevirtual 67, 43, 60, 2, 0, [5])
  | 43 => (.aload_n 0, 44, 0, 0, 0, [])
  | 44 => (.aload_n 1, 45, 1, 0, 0, [])
  | 45 => (.iload_n 2, 46, 2, 0, 0, [])
  | 46 => (.iload_n 3, 47, 3, 0, 0, [])
  | 47 => (.invokevirtual 73, 50, 24, 4, 0, [2])
  | 50 => (.ifCond .eq 10, 53, 60, 0, 0, [])
  | 53 => (.iinc 5 1, 56, 5, 0, 1, [])
  | 56 => (.iload 7, 58, 7, 0, 0, [])
  | 58 => (.istore 6, 60, 6, 0, 0, [])
  | 60 => (.iinc 7 (-1), 63, 7, 0, (-1), [])
  | 63 => (.goto (-45), 66, 18, 0, 0, [])
  | 66 => (.iload 4, 68, 4, 0, 0, [])
  | 68 => (.ifCond .ne 8, 71, 76, 0, 0, [])
  | 71 => (.iload 5, 73, 5, 0, 0, [])
  | 73 => (.goto 5, 76, 78, 0, 0, [])
  | 76 => (.iload 6, 78, 6, 0, 0, [])
  | 78 => (.ireturn, 79, 0, 0, 0, [])
  | _ => (.nop, 1, 0, 0, 0, [])
def kt_Fore_keepsThatGoAs : Nat → kx_E
  | 0 => (.iconst 0, 1, 0, 0, 0, [])
  | 1 => (.istore 5, 3, 5, 0, 0, [])
  | 3 => (.iconst 1, 4, 0, 0, 1, [])
  | 4 => (.istore 6, 6, 6, 0, 0, [])
  | 6 => (.iload 6, 8, 6, 0, 0, [])
  | 8 => (.bipush 9, 10, 0, 0, 9, [])
  | 10 => (.if_icmp .gt 53, 13, 63, 0, 0, [])
  | 13 => (.aload_n 0, 14, 0, 0, 0, [])
  | 14 => (.getfield 14, 17, 2, 1, 1, [])
  | 17 => (.aload_n 0, 18, 0, 0, 0, [])
  | 18 => (.getfield 22, 21, 2, 1, 0, [])
  | 21 => (.invokevirtual 25, 24, 54, 2, 0, [5])
  | 24 => (.aload_n 0, 25, 0, 0, 0, [])
  | 25 => (.getfield 14, 28, 2, 1, 1, [])
  | 28 => (.getfield 77, 31, 5, 1, 1, [])
  | 31 => (.iload_n 1, 32, 1, 0, 0, [])
  | 32 => (.iload 6, 34, 6, 0, 0, [])
  | 34 => (.iastore, 35, 0, 0, 0, [])
  | 35 => (.aload_n 0, 36, 0, 0, 0, [])
  | 36 => (.aload_n 2, 37, 2, 0, 0, [])
  | 37 => (.iload_n 3, 38, 3, 0, 0, [])
  | 38 => (.iload 4, 40, 4, 0, 0, [])
  | 40 => (.invokevirtual 73, 43, 24, 4, 0, [2])
  | 43 => (.ifCond .eq 14, 46, 57, 0, 0, [])
  | 46 => (.iload 5, 48, 5, 0, 0, [])
  | 48 => (.iconst 1, 49, 0, 0, 1, [])
  | 49 => (.iload 6, 51, 6, 0, 0, [])
  | 51 => (.iconst 1, 52, 0, 0, 1, [])
  | 52 => (.isub, 53, 0, 0, 0, [])
  | 53 => (.ishl, 54, 0, 0, 0, [])
  | 54 => (.ior, 55, 0, 0, 0, [])
  | 55 => (.istore 5, 57, 5, 0, 0, [])
  | 57 => (.iinc 6 1, 60, 6, 0, 1, [])
  | 60 => (.goto (-54), 63, 6, 0, 0, [])
  | 63 => (.iload 5, 65, 5, 0, 0, [])
  | 65 => (.ireturn, 66, 0, 0, 0, [])
  | _ => (.nop, 1, 0, 0, 0, [])
def kt_Fore_go : Nat → kx_E
  | 0 => (.iconst 0, 1, 0, 0, 0, [])
  | 1 => (.istore_n 2, 2, 2, 0, 0, [])
  | 2 => (.iload_n 2, 3, 2, 0, 0, [])
  | 3 => (.iload_n 1, 4, 1, 0, 0, [])
  | 4 => (.if_icmp .ge 17, 7, 21, 0, 0, [])
  | 7 => (.aload_n 0, 8, 0, 0, 0, [])
  | 8 => (.getfield 14, 11, 2, 1, 1, [])
  | 11 => (.invokevirtual 37, 14, 61, 1, 0, [5])
  | 14 => (.pop, 15, 0, 0, 0, [])
  | 15 => (.iinc 2 1, 18, 2, 0, 1, [])
  | 18 => (.goto (-16), 21, 2, 0, 0, [])
  | 21 => (.return_, 22, 0, 0, 0, [])
  | _ => (.nop, 1, 0, 0, 0, [])
def kt_Fore_stepsUntilDone : Nat → kx_E
  | 0 => (.iconst 1, 1, 0, 0, 1, [])
  | 1 => (.istore_n 3, 2, 3, 0, 0, [])
  | 2 => (.iload_n 3, 3, 3, 0, 0, [])
  | 3 => (.iload_n 2, 4, 2, 0, 0, [])
  | 4 => (.if_icmp .gt 32, 7, 36, 0, 0, [])
  | 7 => (.aload_n 0, 8, 0, 0, 0, [])
  | 8 => (.getfield 14, 11, 2, 1, 1, [])
  | 11 => (.invokevirtual 37, 14, 61, 1, 0, [5])
  | 14 => (.pop, 15, 0, 0, 0, [])
  | 15 => (.aload_n 0, 16, 0, 0, 0, [])
  | 16 => (.getfield 14, 19, 2, 1, 1, [])
  | 19 => (.getfield 50, 22, 5, 1, 6, [])
  | 22 => (.iload_n 1, 23, 1, 0, 0, [])
  | 23 => (.iaload, 24, 0, 0, 0, [])
  | 24 => (.iconst 1, 25, 0, 0, 1, [])
  | 25 => (.if_icmp .ne 5, 28, 30, 0, 0, [])
  | 28 => (.iload_n 3, 29, 3, 0, 0, [])
  | 29 => (.ireturn, 30, 0, 0, 0, [])
  | 30 => (.iinc 3 1, 33, 3, 0, 1, [])
  | 33 => (.goto (-31), 36, 2, 0, 0, [])
  | 36 => (.bipush 61, 38, 0, 0, 61, [])
  | 38 => (.ireturn, 39, 0, 0, 0, [])
  | _ => (.nop, 1, 0, 0, 0, [])
def kt_Fore_goesAs : Nat → kx_E
  | 0 => (.iload_n 2, 1, 2, 0, 0, [])
  | 1 => (.istore 4, 3, 4, 0, 0, [])
  | 3 => (.iload 4, 5, 4, 0, 0, [])
  | 5 => (.iload_n 2, 6, 2, 0, 0, [])
  | 6 => (.iload_n 3, 7, 3, 0, 0, [])
  | 7 => (.iadd, 8, 0, 0, 0, [])
  | 8 => (.if_icmp .ge 47, 11, 55, 0, 0, [])
  | 11 => (.aload_n 0, 12, 0, 0, 0, [])
  | 12 => (.getfield 14, 15, 2, 1, 1, [])
  | 15 => (.invokevirtual 37, 18, 61, 1, 0, [5])
  | 18 => (.pop, 19, 0, 0, 0, [])
  | 19 => (.aload_n 1, 20, 1, 0, 0, [])
  | 20 => (.getfield 80, 23, 3, 1, 0, [])
  | 23 => (.iload 4, 25, 4, 0, 0, [])
  | 25 => (.iaload, 26, 0, 0, 0, [])
  | 26 => (.iconst (-1), 27, 0, 0, (-1), [])
  | 27 => (.if_icmp .eq 22, 30, 49, 0, 0, [])
  | 30 => (.aload_n 1, 31, 1, 0, 0, [])
  | 31 => (.getfield 80, 34, 3, 1, 0, [])
  | 34 => (.iload 4, 36, 4, 0, 0, [])
  | 36 => (.iaload, 37, 0, 0, 0, [])
  | 37 => (.aload_n 0, 38, 0, 0, 0, [])
  | 38 => (.getfield 14, 41, 2, 1, 1, [])
  | 41 => (.getfield 33, 44, 5, 0, 11, [])
  | 44 => (.if_icmp .eq 5, 47, 49, 0, 0, [])
  | 47 => (.iconst 0, 48, 0, 0, 0, [])
  | 48 => (.ireturn, 49, 1, 0, 0, [])
  | 49 => (.iinc 4 1, 52, 4, 0, 1, [])
  | 52 => (.goto (-49), 55, 3, 0, 0, [])
  | 55 => (.iconst 1, 56, 0, 0, 1, [])
  | 56 => (.ireturn, 57, 1, 0, 0, [])
  | _ => (.nop, 1, 0, 0, 0, [])
def kt_Fore_markOfTrial : Nat → kx_E
  | 0 => (.aload_n 0, 1, 0, 0, 0, [])
  | 1 => (.getfield 14, 4, 2, 1, 1, [])
  | 4 => (.getfield 85, 7, 5, 0, 12, [])
  | 7 => (.i2l, 8, 0, 0, 0, [])
  | 8 => (.lstore_n 1, 9, 1, 0, 0, [])
  | 9 => (.lload_n 1, 10, 1, 0, 0, [])
  | 10 => (.iconst 3, 11, 0, 0, 3, [])
  | 11 => (.lshl, 12, 0, 0, 0, [])
  | 12 => (.aload_n 0, 13, 0, 0, 0, [])
  | 13 => (.getfield 14, 16, 2, 1, 1, [])
  | 16 => (.getfield 33, 19, 5, 0, 11, [])
  | 19 => (.i2l, 20, 0, 0, 0, [])
  | 20 => (.lor, 21, 0, 0, 0, [])
  | 21 => (.lstore_n 1, 22, 1, 0, 0, [])
  | 22 => (.iconst 0, 23, 0, 0, 0, [])
  | 23 => (.istore_n 3, 24, 3, 0, 0, [])
  | 24 => (.iload_n 3, 25, 3, 0, 0, [])
  | 25 => (.aload_n 0, 26, 0, 0, 0, [])
  | 26 => (.getfield 14, 29, 2, 1, 1, [])
  | 29 => (.getfield 88, 32, 5, 0, 9, [])
  | 32 => (.if_icmp .ge 25, 35, 57, 0, 0, [])
  | 35 => (.lload_n 1, 36, 1, 0, 0, [])
  | 36 => (.bipush 6, 38, 0, 0, 6, [])
  | 38 => (.lshl, 39, 0, 0, 0, [])
  | 39 => (.aload_n 0, 40, 0, 0, 0, [])
  | 40 => (.getfield 14, 43, 2, 1, 1, [])
  | 43 => (.getfield 91, 46, 5, 1, 5, [])
  | 46 => (.iload_n 3, 47, 3, 0, 0, [])
  | 47 => (.iaload, 48, 0, 0, 0, [])
  | 48 => (.i2l, 49, 0, 0, 0, [])
  | 49 => (.lor, 50, 0, 0, 0, [])
  | 50 => (.lstore_n 1, 51, 1, 0, 0, [])
  | 51 => (.iinc 3 1, 54, 3, 0, 1, [])
  | 54 => (.goto (-30), 57, 24, 0, 0, [])
  | 57 => (.lload_n 1, 58, 1, 0, 0, [])
  | 58 => (.lreturn, 59, 0, 0, 0, [])
  | _ => (.nop, 1, 0, 0, 0, [])
def kt_Fore_earliestWithMarkOf : Nat → kx_E
  | 0 => (.iconst 0, 1, 0, 0, 0, [])
  | 1 => (.istore_n 2, 2, 2, 0, 0, [])
  | 2 => (.iload_n 2, 3, 2, 0, 0, [])
  | 3 => (.iload_n 1, 4, 1, 0, 0, [])
  | 4 => (.if_icmp .ge 27, 7, 31, 0, 0, [])
  | 7 => (.aload_n 0, 8, 0, 0, 0, [])
  | 8 => (.getfield 18, 11, 2, 1, 2, [])
  | 11 => (.iload_n 2, 12, 2, 0, 0, [])
  | 12 => (.laload, 13, 0, 0, 0, [])
  | 13 => (.aload_n 0, 14, 0, 0, 0, [])
  | 14 => (.getfield 18, 17, 2, 1, 2, [])
  | 17 => (.iload_n 1, 18, 1, 0, 0, [])
  | 18 => (.laload, 19, 0, 0, 0, [])
  | 19 => (.lcmp, 20, 0, 0, 0, [])
  | 20 => (.ifCond .ne 5, 23, 25, 0, 0, [])
  | 23 => (.iload_n 2, 24, 2, 0, 0, [])
  | 24 => (.ireturn, 25, 0, 0, 0, [])
  | 25 => (.iinc 2 1, 28, 2, 0, 1, [])
  | 28 => (.goto (-26), 31, 2, 0, 0, [])
  | 31 => (.iload_n 1, 32, 1, 0, 0, [])
  | 32 => (.ireturn, 33, 0, 0, 0, [])
  | _ => (.nop, 1, 0, 0, 0, [])
def kt_Kinds_told : Nat → kx_E
  | 0 => (.bipush 97, 2, 0, 0, 97, [])
  | 2 => (.iload_n 0, 3, 0, 0, 0, [])
  | 3 => (.if_icmp .gt 13, 6, 16, 0, 0, [])
  | 6 => (.iload_n 0, 7, 0, 0, 0, [])
  | 7 => (.bipush 122, 9, 0, 0, 122, [])
  | 9 => (.if_icmp .gt 7, 12, 16, 0, 0, [])
  | 12 => (.iconst 1, 13, 0, 0, 1, [])
  | 13 => (.goto 4, 16, 17, 0, 0, [])
  | 16 => (.iconst 0, 17, 0, 0, 0, [])
  | 17 => (.istore_n 1, 18, 1, 0, 0, [])
  | 18 => (.iload_n 1, 19, 1, 0, 0, [])
  | 19 => (.ifCond .eq 15, 22, 34, 0, 0, [])
  | 22 => (.ldc 9, 24, 1, 105, 0, [])
  | 24 => (.iload_n 0, 25, 0, 0, 0, [])
  | 25 => (.i2c, 26, 0, 0, 0, [])
  | 26 => (.invokevirtual 11, 29, 197, 2, 0, [8])
  | 29 => (.iconst 1, 30, 0, 0, 1, [])
  | 30 => (.iadd, 31, 0, 0, 0, [])
  | 31 => (.goto 4, 34, 35, 0, 0, [])
  | 34 => (.iconst 0, 35, 0, 0, 0, [])
  | 35 => (.ireturn, 36, 0, 0, 0, [])
  | _ => (.nop, 1, 0, 0, 0, [])
def kt_Kinds_isOne : Nat → kx_E
  | 0 => (.iload_n 0, 1, 0, 0, 0, [])
  | 1 => (.istore_n 2, 2, 2, 0, 0, [])
  | 2 => (.iconst 0, 3, 0, 0, 0, [])
  | 3 => (.istore_n 3, 4, 3, 0, 0, [])
  | 4 => (.iload_n 3, 5, 3, 0, 0, [])
  | 5 => (.bipush 6, 7, 0, 0, 6, [])
  | 7 => (.if_icmp .ge 22, 10, 29, 0, 0, [])
  | 10 => (.iload_n 2, 11, 2, 0, 0, [])
  | 11 => (.iload_n 1, 12, 1, 0, 0, [])
  | 12 => (.if_icmp .ne 5, 15, 17, 0, 0, [])
  | 15 => (.iconst 1, 16, 0, 0, 1, [])
  | 16 => (.ireturn, 17, 1, 0, 0, [])
  | 17 => (.getstatic 17, 20, 0, 101, 0, [])
  | 20 => (.iload_n 2, 21, 2, 0, 0, [])
  | 21 => (.iaload, 22, 0, 0, 0, [])
  | 22 => (.istore_n 2, 23, 2, 0, 0, [])
  | 23 => (.iinc 3 1, 26, 3, 0, 1, [])
  | 26 => (.goto (-22), 29, 4, 0, 0, [])
  | 29 => (.iconst 0, 30, 0, 0, 0, [])
  | 30 => (.ireturn, 31, 1, 0, 0, [])
  | _ => (.nop, 1, 0, 0, 0, [])
def kt_Kinds_bodyOf : Nat → kx_E
  | 0 => (.iload_n 1, 1, 1, 0, 0, [])
  | 1 => (.ifCond .ne 9, 4, 10, 0, 0, [])
  | 4 => (.getstatic 21, 7, 0, 102, 0, [])
  | 7 => (.goto 6, 10, 13, 0, 0, [])
  | 10 => (.getstatic 24, 13, 0, 103, 0, [])
  | 13 => (.astore_n 2, 14, 2, 0, 0, [])
  | 14 => (.iload_n 0, 15, 0, 0, 0, [])
  | 15 => (.istore_n 3, 16, 3, 0, 0, [])
  | 16 => (.iconst 0, 17, 0, 0, 0, [])
  | 17 => (.istore 4, 19, 4, 0, 0, [])
  | 19 => (.iload 4, 21, 4, 0, 0, [])
  | 21 => (.bipush 6, 23, 0, 0, 6, [])
  | 23 => (.if_icmp .ge 25, 26, 48, 0, 0, [])
  | 26 => (.aload_n 2, 27, 2, 0, 0, [])
  | 27 => (.iload_n 3, 28, 3, 0, 0, [])
  | 28 => (.iaload, 29, 0, 0, 0, [])
  | 29 => (.ifCond .eq 7, 32, 36, 0, 0, [])
  | 32 => (.aload_n 2, 33, 2, 0, 0, [])
  | 33 => (.iload_n 3, 34, 3, 0, 0, [])
  | 34 => (.iaload, 35, 0, 0, 0, [])
  | 35 => (.ireturn, 36, 0, 0, 0, [])
  | 36 => (.getstatic 17, 39, 0, 101, 0, [])
  | 39 => (.iload_n 3, 40, 3, 0, 0, [])
  | 40 => (.iaload, 41, 0, 0, 0, [])
  | 41 => (.istore_n 3, 42, 3, 0, 0, [])
  | 42 => (.iinc 4 1, 45, 4, 0, 1, [])
  | 45 => (.goto (-26), 48, 19, 0, 0, [])
  | 48 => (.aload_n 2, 49, 2, 0, 0, [])
  | 49 => (.iconst 0, 50, 0, 0, 0, [])
  | 50 => (.iaload, 51, 0, 0, 0, [])
  | 51 => (.ireturn, 52, 0, 0, 0, [])
  | _ => (.nop, 1, 0, 0, 0, [])
def kt_Row_init : Nat → kx_E
  | 0 => (.aload_n 0, 1, 0, 0, 0, [])
  | 1 => (.invokespecial 1, 4, 0, 0, 1, [])
  | 4 => (.aload_n 0, 5, 0, 0, 0, [])
  | 5 => (.bipush 40, 7, 0, 0, 40, [])
  | 7 => (.newarray .int, 9, 2, 0, 0, [])
  | 9 => (.putfield 9, 12, 3, 1, 0, [])
  | 12 => (.aload_n 0, 13, 0, 0, 0, [])
  | 13 => (.iconst 0, 14, 0, 0, 0, [])
  | 14 => (.putfield 13, 17, 3, 0, 1, [])
  | 17 => (.aload_n 0, 18, 0, 0, 0, [])
  | 18 => (.iconst (-1), 19, 0, 0, (-1), [])
  | 19 => (.putfield 17, 22, 3, 0, 2, [])
  | 22 => (.return_, 23, 0, 0, 0, [])
  | _ => (.nop, 1, 0, 0, 0, [])
def kt_Row_isMissing : Nat → kx_E
  | 0 => (.aload_n 0, 1, 0, 0, 0, [])
  | 1 => (.getfield 17, 4, 3, 0, 2, [])
  | 4 => (.iconst (-1), 5, 0, 0, (-1), [])
  | 5 => (.if_icmp .ne 7, 8, 12, 0, 0, [])
  | 8 => (.iconst 1, 9, 0, 0, 1, [])
  | 9 => (.goto 4, 12, 13, 0, 0, [])
  | 12 => (.iconst 0, 13, 0, 0, 0, [])
  | 13 => (.ireturn, 14, 1, 0, 0, [])
  | _ => (.nop, 1, 0, 0, 0, [])
def kt_Row_lay : Nat → kx_E
  | 0 => (.aload_n 0, 1, 0, 0, 0, [])
  | 1 => (.getfield 9, 4, 3, 1, 0, [])
  | 4 => (.iconst 0, 5, 0, 0, 0, [])
  | 5 => (.invokestatic 20, 8, 194, 2, 0, [])
  | 8 => (.aload_n 0, 9, 0, 0, 0, [])
  | 9 => (.iload_n 1, 10, 1, 0, 0, [])
  | 10 => (.putfield 13, 13, 3, 0, 1, [])
  | 13 => (.aload_n 0, 14, 0, 0, 0, [])
  | 14 => (.iload_n 2, 15, 2, 0, 0, [])
  | 15 => (.putfield 17, 18, 3, 0, 2, [])
  | 18 => (.return_, 19, 0, 0, 0, [])
  | _ => (.nop, 1, 0, 0, 0, [])
def kt_Row_remove : Nat → kx_E
  | 0 => (.aload_n 0, 1, 0, 0, 0, [])
  | 1 => (.getfield 17, 4, 3, 0, 2, [])
  | 4 => (.istore_n 1, 5, 1, 0, 0, [])
  | 5 => (.aload_n 0, 6, 0, 0, 0, [])
  | 6 => (.iconst (-1), 7, 0, 0, (-1), [])
  | 7 => (.putfield 17, 10, 3, 0, 2, [])
  | 10 => (.iload_n 1, 11, 1, 0, 0, [])
  | 11 => (.ireturn, 12, 0, 0, 0, [])
  | _ => (.nop, 1, 0, 0, 0, [])
def kt_Row_hasPlaces : Nat → kx_E
  | 0 => (.iload_n 1, 1, 1, 0, 0, [])
  | 1 => (.ifCond .lt 25, 4, 26, 0, 0, [])
  | 4 => (.iload_n 2, 5, 2, 0, 0, [])
  | 5 => (.ifCond .lt 21, 8, 26, 0, 0, [])
  | 8 => (.iload_n 1, 9, 1, 0, 0, [])
  | 9 => (.i2l, 10, 0, 0, 0, [])
  | 10 => (.iload_n 2, 11, 2, 0, 0, [])
  | 11 => (.i2l, 12, 0, 0, 0, [])
  | 12 => (.ladd, 13, 0, 0, 0, [])
  | 13 => (.aload_n 0, 14, 0, 0, 0, [])
  | 14 => (.getfield 17, 17, 3, 0, 2, [])
  | 17 => (.i2l, 18, 0, 0, 0, [])
  | 18 => (.lcmp, 19, 0, 0, 0, [])
  | 19 => (.ifCond .gt 7, 22, 26, 0, 0, [])
  | 22 => (.iconst 1, 23, 0, 0, 1, [])
  | 23 => (.goto 4, 26, 27, 0, 0, [])
  | 26 => (.iconst 0, 27, 0, 0, 0, [])
  | 27 => (.ireturn, 28, 1, 0, 0, [])
  | _ => (.nop, 1, 0, 0, 0, [])
def kt_Row_put : Nat → kx_E
  | 0 => (.aload_n 0, 1, 0, 0, 0, [])
  | 1 => (.getfield 9, 4, 3, 1, 0, [])
  | 4 => (.iload_n 1, 5, 1, 0, 0, [])
  | 5 => (.aload_n 0, 6, 0, 0, 0, [])
  | 6 => (.iload_n 2, 7, 2, 0, 0, [])
  | 7 => (.invokevirtual 26, 10, 36, 2, 0, [3])
  | 10 => (.iastore, 11, 0, 0, 0, [])
  | 11 => (.aload_n 0, 12, 0, 0, 0, [])
  | 12 => (.getfield 9, 15, 3, 1, 0, [])
  | 15 => (.iload_n 1, 16, 1, 0, 0, [])
  | 16 => (.iaload, 17, 0, 0, 0, [])
  | 17 => (.ireturn, 18, 0, 0, 0, [])
  | _ => (.nop, 1, 0, 0, 0, [])
def kt_Row_cutToLane : Nat → kx_E
  | 0 => (.aload_n 0, 1, 0, 0, 0, [])
  | 1 => (.getfield 13, 4, 3, 0, 1, [])
  | 4 => (.lookupswitch 34 #[(0, 28), (1, 31)], 32, 38, 0, 0, [32, 35])
  | 32 => (.iload_n 1, 33, 1, 0, 0, [])
  | 33 => (.i2b, 34, 0, 0, 0, [])
  | 34 => (.ireturn, 35, 0, 0, 0, [])
  | 35 => (.iload_n 1, 36, 1, 0, 0, [])
  | 36 => (.i2s, 37, 0, 0, 0, [])
  | 37 => (.ireturn, 38, 0, 0, 0, [])
  | 38 => (.iload_n 1, 39, 1, 0, 0, [])
  | 39 => (.ireturn, 40, 0, 0, 0, [])
  | _ => (.nop, 1, 0, 0, 0, [])
def kt_Tape_init : Nat → kx_E
  | 0 => (.aload_n 0, 1, 0, 0, 0, [])
  | 1 => (.invokespecial 1, 4, 0, 0, 1, [])
  | 4 => (.aload_n 0, 5, 0, 0, 0, [])
  | 5 => (.bipush 120, 7, 0, 0, 120, [])
  | 7 => (.newarray .int, 9, 2, 0, 0, [])
  | 9 => (.putfield 9, 12, 4, 1, 0, [])
  | 12 => (.return_, 13, 0, 0, 0, [])
  | _ => (.nop, 1, 0, 0, 0, [])
def kt_Tape_isFull : Nat → kx_E
  | 0 => (.aload_n 0, 1, 0, 0, 0, [])
  | 1 => (.getfield 13, 4, 4, 0, 1, [])
  | 4 => (.bipush 120, 6, 0, 0, 120, [])
  | 6 => (.if_icmp .lt 7, 9, 13, 0, 0, [])
  | 9 => (.iconst 1, 10, 0, 0, 1, [])
  | 10 => (.goto 4, 13, 14, 0, 0, [])
  | 13 => (.iconst 0, 14, 0, 0, 0, [])
  | 14 => (.ireturn, 15, 1, 0, 0, [])
  | _ => (.nop, 1, 0, 0, 0, [])
def kt_Tape_add : Nat → kx_E
  | 0 => (.aload_n 0, 1, 0, 0, 0, [])
  | 1 => (.getfield 9, 4, 4, 1, 0, [])
  | 4 => (.aload_n 0, 5, 0, 0, 0, [])
  | 5 => (.getfield 13, 8, 4, 0, 1, [])
  | 8 => (.iload_n 1, 9, 1, 0, 0, [])
  | 9 => (.iastore, 10, 0, 0, 0, [])
  | 10 => (.aload_n 0, 11, 0, 0, 0, [])
  | 11 => (.dup, 12, 0, 0, 0, [])
  | 12 => (.getfield 13, 15, 4, 0, 1, [])
  | 15 => (.iconst 1, 16, 0, 0, 1, [])
  | 16 => (.iadd, 17, 0, 0, 0, [])
  | 17 => (.putfield 13, 20, 4, 0, 1, [])
  | 20 => (.aload_n 0, 21, 0, 0, 0, [])
  | 21 => (.getfield 13, 24, 4, 0, 1, [])
  | 24 => (.ireturn, 25, 0, 0, 0, [])
  | _ => (.nop, 1, 0, 0, 0, [])
def kt_Tape_empty : Nat → kx_E
  | 0 => (.aload_n 0, 1, 0, 0, 0, [])
  | 1 => (.iconst 0, 2, 0, 0, 0, [])
  | 2 => (.putfield 13, 5, 4, 0, 1, [])
  | 5 => (.return_, 6, 0, 0, 0, [])
  | _ => (.nop, 1, 0, 0, 0, [])
def kt_Tape_readInto : Nat → kx_E
  | 0 => (.aload_n 1, 1, 1, 0, 0, [])
  | 1 => (.invokevirtual 17, 4, 53, 1, 0, [5])
  | 4 => (.aload_n 0, 5, 0, 0, 0, [])
  | 5 => (.iconst 0, 6, 0, 0, 0, [])
  | 6 => (.putfield 22, 9, 4, 0, 4, [])
  | 9 => (.aload_n 0, 10, 0, 0, 0, [])
  | 10 => (.aload_n 1, 11, 1, 0, 0, [])
  | 11 => (.invokevirtual 25, 14, 42, 2, 0, [4])
  | 14 => (.ifCond .eq 23, 17, 37, 0, 0, [])
  | 17 => (.aload_n 0, 18, 0, 0, 0, [])
  | 18 => (.aload_n 1, 19, 1, 0, 0, [])
  | 19 => (.invokevirtual 29, 22, 43, 2, 0, [4])
  | 22 => (.ifCond .eq 15, 25, 37, 0, 0, [])
  | 25 => (.aload_n 0, 26, 0, 0, 0, [])
  | 26 => (.aload_n 1, 27, 1, 0, 0, [])
  | 27 => (.invokevirtual 32, 30, 45, 2, 0, [4])
  | 30 => (.ifCond .eq 7, 33, 37, 0, 0, [])
  | 33 => (.iconst 1, 34, 0, 0, 1, [])
  | 34 => (.goto 4, 37, 38, 0, 0, [])
  | 37 => (.iconst 0, 38, 0, 0, 0, [])
  | 38 => (.ireturn, 39, 1, 0, 0, [])
  | _ => (.nop, 1, 0, 0, 0, [])
def kt_Tape_readLaw : Nat → kx_E
  | 0 => (.aload_n 0, 1, 0, 0, 0, [])
  | 1 => (.bipush 104, 3, 0, 0, 104, [])
  | 3 => (.invokevirtual 35, 6, 47, 2, 0, [4])
  | 6 => (.ifCond .eq 12, 9, 18, 0, 0, [])
  | 9 => (.aload_n 0, 10, 0, 0, 0, [])
  | 10 => (.iconst 0, 11, 0, 0, 0, [])
  | 11 => (.iconst 5, 12, 0, 0, 5, [])
  | 12 => (.invokevirtual 39, 15, 48, 3, 0, [4])
  | 15 => (.ifCond .ne 5, 18, 20, 0, 0, [])
  | 18 => (.iconst 0, 19, 0, 0, 0, [])
  | 19 => (.ireturn, 20, 1, 0, 0, [])
  | 20 => (.aload_n 1, 21, 1, 0, 0, [])
  | 21 => (.aload_n 0, 22, 0, 0, 0, [])
  | 22 => (.getfield 43, 25, 4, 0, 5, [])
  | 25 => (.putfield 46, 28, 5, 0, 10, [])
  | 28 => (.aload_n 0, 29, 0, 0, 0, [])
  | 29 => (.bipush 59, 31, 0, 0, 59, [])
  | 31 => (.invokevirtual 35, 34, 47, 2, 0, [4])
  | 34 => (.ireturn, 35, 1, 0, 0, [])
  | _ => (.nop, 1, 0, 0, 0, [])
def kt_Tape_readHeads : Nat → kx_E
  | 0 => (.iconst 0, 1, 0, 0, 0, [])
  | 1 => (.istore_n 2, 2, 2, 0, 0, [])
  | 2 => (.iload_n 2, 3, 2, 0, 0, [])
  | 3 => (.bipush 6, 5, 0, 0, 6, [])
  | 5 => (.if_icmp .gt 50, 8, 55, 0, 0, [])
  | 8 => (.aload_n 0, 9, 0, 0, 0, [])
  | 9 => (.invokevirtual 49, 12, 50, 1, 0, [4])
  | 12 => (.invokestatic 53, 15, 27, 1, 0, [])
  | 15 => (.istore_n 3, 16, 3, 0, 0, [])
  | 16 => (.iload_n 3, 17, 3, 0, 0, [])
  | 17 => (.ifCond .ne 21, 20, 38, 0, 0, [])
  | 20 => (.iload_n 2, 21, 2, 0, 0, [])
  | 21 => (.ifCond .gt 11, 24, 32, 0, 0, [])
  | 24 => (.aload_n 0, 25, 0, 0, 0, [])
  | 25 => (.iconst 1, 26, 0, 0, 1, [])
  | 26 => (.invokevirtual 59, 29, 51, 2, 0, [4])
  | 29 => (.ifCond .eq 7, 32, 36, 0, 0, [])
  | 32 => (.iconst 1, 33, 0, 0, 1, [])
  | 33 => (.goto 4, 36, 37, 0, 0, [])
  | 36 => (.iconst 0, 37, 0, 0, 0, [])
  | 37 => (.ireturn, 38, 1, 0, 0, [])
  | 38 => (.aload_n 0, 39, 0, 0, 0, [])
  | 39 => (.aload_n 1, 40, 1, 0, 0, [])
  | 40 => (.iload_n 3, 41, 3, 0, 0, [])
  | 41 => (.invokevirtual 62, 44, 44, 3, 0, [4])
  | 44 => (.ifCond .ne 5, 47, 49, 0, 0, [])
  | 47 => (.iconst 0, 48, 0, 0, 0, [])
  | 48 => (.ireturn, 49, 1, 0, 0, [])
  | 49 => (.iinc 2 1, 52, 2, 0, 1, [])
  | 52 => (.goto (-50), 55, 2, 0, 0, [])
  | 55 => (.iconst 0, 56, 0, 0, 0, [])
  | 56 => (.ireturn, 57, 1, 0, 0, [])
  | _ => (.nop, 1, 0, 0, 0, [])
def kt_Tape_readHead : Nat → kx_E
  | 0 => (.aload_n 1, 1, 1, 0, 0, [])
  | 1 => (.getfield 66, 4, 5, 0, 8, [])
  | 4 => (.bipush 6, 6, 0, 0, 6, [])
  | 6 => (.if_icmp .lt 9, 9, 15, 0, 0, [])
  | 9 => (.aload_n 0, 10, 0, 0, 0, [])
  | 10 => (.iconst 3, 11, 0, 0, 3, [])
  | 11 => (.invokevirtual 59, 14, 51, 2, 0, [4])
  | 14 => (.ireturn, 15, 1, 0, 0, [])
  | 15 => (.aload_n 0, 16, 0, 0, 0, [])
  | 16 => (.dup, 17, 0, 0, 0, [])
  | 17 => (.getfield 22, 20, 4, 0, 4, [])
  | 20 => (.iconst 1, 21, 0, 0, 1, [])
  | 21 => (.iadd, 22, 0, 0, 0, [])
  | 22 => (.putfield 22, 25, 4, 0, 4, [])
  | 25 => (.aload_n 0, 26, 0, 0, 0, [])
  | 26 => (.iconst 1, 27, 0, 0, 1, [])
  | 27 => (.bipush 9, 29, 0, 0, 9, [])
  | 29 => (.invokevirtual 39, 32, 48, 3, 0, [4])
  | 32 => (.ifCond .ne 5, 35, 37, 0, 0, [])
  | 35 => (.iconst 0, 36, 0, 0, 0, [])
  | 36 => (.ireturn, 37, 1, 0, 0, [])
  | 37 => (.aload_n 0, 38, 0, 0, 0, [])
  | 38 => (.getfield 43, 41, 4, 0, 5, [])
  | 41 => (.istore_n 3, 42, 3, 0, 0, [])
  | 42 => (.aload_n 0, 43, 0, 0, 0, [])
  | 43 => (.bipush 44, 45, 0, 0, 44, [])
  | 45 => (.invokevirtual 35, 48, 47, 2, 0, [4])
  | 48 => (.ifCond .eq 13, 51, 61, 0, 0, [])
  | 51 => (.aload_n 0, 52, 0, 0, 0, [])
  | 52 => (.iconst 0, 53, 0, 0, 0, [])
  | 53 => (.bipush 15, 55, 0, 0, 15, [])
  | 55 => (.invokevirtual 39, 58, 48, 3, 0, [4])
  | 58 => (.ifCond .ne 5, 61, 63, 0, 0, [])
  | 61 => (.iconst 0, 62, 0, 0, 0, [])
  | 62 => (.ireturn, 63, 1, 0, 0, [])
  | 63 => (.aload_n 1, 64, 1, 0, 0, [])
  | 64 => (.iload_n 2, 65, 2, 0, 0, [])
  | 65 => (.iload_n 3, 66, 3, 0, 0, [])
  | 66 => (.aload_n 0, 67, 0, 0, 0, [])
  | 67 => (.getfield 43, 70, 4, 0, 5, [])
  | 70 => (.invokevirtual 69, 73, 55, 4, 0, [5])
  | 73 => (.aload_n 0, 74, 0, 0, 0, [])
  | 74 => (.bipush 59, 76, 0, 0, 59, [])
  | 76 => (.invokevirtual 35, 79, 47, 2, 0, [4])
  | 79 => (.ireturn, 80, 1, 0, 0, [])
  | _ => (.nop, 1, 0, 0, 0, [])
def kt_Tape_readOrders : Nat → kx_E
  | 0 => (.iconst 0, 1, 0, 0, 0, [])
  | 1 => (.istore_n 2, 2, 2, 0, 0, [])
  | 2 => (.iload_n 2, 3, 2, 0, 0, [])
  | 3 => (.iconst 4, 4, 0, 0, 4, [])
  | 4 => (.if_icmp .gt 29, 7, 33, 0, 0, [])
  | 7 => (.aload_n 0, 8, 0, 0, 0, [])
  | 8 => (.invokevirtual 49, 11, 50, 1, 0, [4])
  | 11 => (.iconst (-1), 12, 0, 0, (-1), [])
  | 12 => (.if_icmp .ne 5, 15, 17, 0, 0, [])
  | 15 => (.iconst 1, 16, 0, 0, 1, [])
  | 16 => (.ireturn, 17, 1, 0, 0, [])
  | 17 => (.aload_n 0, 18, 0, 0, 0, [])
  | 18 => (.aload_n 1, 19, 1, 0, 0, [])
  | 19 => (.invokevirtual 73, 22, 46, 2, 0, [4])
  | 22 => (.ifCond .ne 5, 25, 27, 0, 0, [])
  | 25 => (.iconst 0, 26, 0, 0, 0, [])
  | 26 => (.ireturn, 27, 1, 0, 0, [])
  | 27 => (.iinc 2 1, 30, 2, 0, 1, [])
  | 30 => (.goto (-28), 33, 2, 0, 0, [])
  | 33 => (.iconst 0, 34, 0, 0, 0, [])
  | 34 => (.ireturn, 35, 1, 0, 0, [])
  | _ => (.nop, 1, 0, 0, 0, [])
def kt_Tape_readOrder : Nat → kx_E
  | 0 => (.aload_n 0, 1, 0, 0, 0, [])
  | 1 => (.invokevirtual 49, 4, 50, 1, 0, [4])
  | 4 => (.bipush 111, 6, 0, 0, 111, [])
  | 6 => (.if_icmp .ne 17, 9, 23, 0, 0, [])
  | 9 => (.aload_n 1, 10, 1, 0, 0, [])
  | 10 => (.getfield 76, 13, 5, 0, 9, [])
  | 13 => (.iconst 4, 14, 0, 0, 4, [])
  | 14 => (.if_icmp .lt 9, 17, 23, 0, 0, [])
  | 17 => (.aload_n 0, 18, 0, 0, 0, [])
  | 18 => (.iconst 3, 19, 0, 0, 3, [])
  | 19 => (.invokevirtual 59, 22, 51, 2, 0, [4])
  | 22 => (.ireturn, 23, 1, 0, 0, [])
  | 23 => (.aload_n 0, 24, 0, 0, 0, [])
  | 24 => (.bipush 111, 26, 0, 0, 111, [])
  | 26 => (.invokevirtual 35, 29, 47, 2, 0, [4])
  | 29 => (.ifCond .eq 13, 32, 42, 0, 0, [])
  | 32 => (.aload_n 0, 33, 0, 0, 0, [])
  | 33 => (.iconst 1, 34, 0, 0, 1, [])
  | 34 => (.bipush 40, 36, 0, 0, 40, [])
  | 36 => (.invokevirtual 39, 39, 48, 3, 0, [4])
  | 39 => (.ifCond .ne 5, 42, 44, 0, 0, [])
  | 42 => (.iconst 0, 43, 0, 0, 0, [])
  | 43 => (.ireturn, 44, 1, 0, 0, [])
  | 44 => (.aload_n 1, 45, 1, 0, 0, [])
  | 45 => (.aload_n 0, 46, 0, 0, 0, [])
  | 46 => (.getfield 43, 49, 4, 0, 5, [])
  | 49 => (.invokevirtual 79, 52, 56, 2, 0, [5])
  | 52 => (.pop, 53, 0, 0, 0, [])
  | 53 => (.aload_n 0, 54, 0, 0, 0, [])
  | 54 => (.bipush 59, 56, 0, 0, 59, [])
  | 56 => (.invokevirtual 35, 59, 47, 2, 0, [4])
  | 59 => (.ireturn, 60, 1, 0, 0, [])
  | _ => (.nop, 1, 0, 0, 0, [])
def kt_Tape_take : Nat → kx_E
  | 0 => (.aload_n 0, 1, 0, 0, 0, [])
  | 1 => (.invokevirtual 49, 4, 50, 1, 0, [4])
  | 4 => (.iload_n 1, 5, 1, 0, 0, [])
  | 5 => (.if_icmp .eq 9, 8, 14, 0, 0, [])
  | 8 => (.aload_n 0, 9, 0, 0, 0, [])
  | 9 => (.iconst 1, 10, 0, 0, 1, [])
  | 10 => (.invokevirtual 59, 13, 51, 2, 0, [4])
  | 13 => (.ireturn, 14, 1, 0, 0, [])
  | 14 => (.aload_n 0, 15, 0, 0, 0, [])
  | 15 => (.dup, 16, 0, 0, 0, [])
  | 16 => (.getfield 22, 19, 4, 0, 4, [])
  | 19 => (.iconst 1, 20, 0, 0, 1, [])
  | 20 => (.iadd, 21, 0, 0, 0, [])
  | 21 => (.putfield 22, 24, 4, 0, 4, [])
  | 24 => (.iconst 1, 25, 0, 0, 1, [])
  | 25 => (.ireturn, 26, 1, 0, 0, [])
  | _ => (.nop, 1, 0, 0, 0, [])
def kt_Tape_takeNumber : Nat → kx_E
  | 0 => (.aload_n 0, 1, 0, 0, 0, [])
  | 1 => (.invokevirtual 82, 4, 49, 1, 0, [4])
  | 4 => (.istore_n 3, 5, 3, 0, 0, [])
  | 5 => (.iload_n 3, 6, 3, 0, 0, [])
  | 6 => (.ifCond .eq 8, 9, 14, 0, 0, [])
  | 9 => (.iload_n 3, 10, 3, 0, 0, [])
  | 10 => (.iconst 2, 11, 0, 0, 2, [])
  | 11 => (.if_icmp .le 9, 14, 20, 0, 0, [])
  | 14 => (.aload_n 0, 15, 0, 0, 0, [])
  | 15 => (.iconst 1, 16, 0, 0, 1, [])
  | 16 => (.invokevirtual 59, 19, 51, 2, 0, [4])
  | 19 => (.ireturn, 20, 1, 0, 0, [])
  | 20 => (.iconst 0, 21, 0, 0, 0, [])
  | 21 => (.istore 4, 23, 4, 0, 0, [])
  | 23 => (.iconst 0, 24, 0, 0, 0, [])
  | 24 => (.istore 5, 26, 5, 0, 0, [])
  | 26 => (.iload 5, 28, 5, 0, 0, [])
  | 28 => (.iload_n 3, 29, 3, 0, 0, [])
  | 29 => (.if_icmp .ge 32, 32, 61, 0, 0, [])
  | 32 => (.bipush 10, 34, 0, 0, 10, [])
  | 34 => (.iload 4, 36, 4, 0, 0, [])
  | 36 => (.imul, 37, 0, 0, 0, [])
  | 37 => (.aload_n 0, 38, 0, 0, 0, [])
  | 38 => (.getfield 9, 41, 4, 1, 0, [])
  | 41 => (.aload_n 0, 42, 0, 0, 0, [])
  | 42 => (.getfield 22, 45, 4, 0, 4, [])
  | 45 => (.iload 5, 47, 5, 0, 0, [])
  | 47 => (.iadd, 48, 0, 0, 0, [])
  | 48 => (.iaload, 49, 0, 0, 0, [])
  | 49 => (.iadd, 50, 0, 0, 0, [])
  | 50 => (.bipush 48, 52, 0, 0, 48, [])
  | 52 => (.isub, 53, 0, 0, 0, [])
  | 53 => (.istore 4, 55, 4, 0, 0, [])
  | 55 => (.iinc 5 1, 58, 5, 0, 1, [])
  | 58 => (.goto (-32), 61, 26, 0, 0, [])
  | 61 => (.iload 4, 63, 4, 0, 0, [])
  | 63 => (.iload_n 1, 64, 1, 0, 0, [])
  | 64 => (.if_icmp .lt 9, 67, 73, 0, 0, [])
  | 67 => (.iload 4, 69, 4, 0, 0, [])
  | 69 => (.iload_n 2, 70, 2, 0, 0, [])
  | 70 => (.if_icmp .le 9, 73, 79, 0, 0, [])
  | 73 => (.aload_n 0, 74, 0, 0, 0, [])
  | 74 => (.iconst 2, 75, 0, 0, 2, [])
  | 75 => (.invokevirtual 59, 78, 51, 2, 0, [4])
  | 78 => (.ireturn, 79, 1, 0, 0, [])
  | 79 => (.aload_n 0, 80, 0, 0, 0, [])
  | 80 => (.iload 4, 82, 4, 0, 0, [])
  | 82 => (.putfield 43, 85, 4, 0, 5, [])
  | 85 => (.aload_n 0, 86, 0, 0, 0, [])
  | 86 => (.dup, 87, 0, 0, 0, [])
  | 87 => (.getfield 22, 90, 4, 0, 4, [])
  | 90 => (.iload_n 3, 91, 3, 0, 0, [])
  | 91 => (.iadd, 92, 0, 0, 0, [])
  | 92 => (.putfield 22, 95, 4, 0, 4, [])
  | 95 => (.iconst 1, 96, 0, 0, 1, [])
  | 96 => (.ireturn, 97, 1, 0, 0, [])
  | _ => (.nop, 1, 0, 0, 0, [])
def kt_Tape_figuresAhead : Nat → kx_E
  | 0 => (.aload_n 0, 1, 0, 0, 0, [])
  | 1 => (.getfield 22, 4, 4, 0, 4, [])
  | 4 => (.istore_n 1, 5, 1, 0, 0, [])
  | 5 => (.iload_n 1, 6, 1, 0, 0, [])
  | 6 => (.aload_n 0, 7, 0, 0, 0, [])
  | 7 => (.getfield 13, 10, 4, 0, 1, [])
  | 10 => (.if_icmp .ge 31, 13, 41, 0, 0, [])
  | 13 => (.aload_n 0, 14, 0, 0, 0, [])
  | 14 => (.getfield 9, 17, 4, 1, 0, [])
  | 17 => (.iload_n 1, 18, 1, 0, 0, [])
  | 18 => (.iaload, 19, 0, 0, 0, [])
  | 19 => (.bipush 48, 21, 0, 0, 48, [])
  | 21 => (.if_icmp .lt 20, 24, 41, 0, 0, [])
  | 24 => (.aload_n 0, 25, 0, 0, 0, [])
  | 25 => (.getfield 9, 28, 4, 1, 0, [])
  | 28 => (.iload_n 1, 29, 1, 0, 0, [])
  | 29 => (.iaload, 30, 0, 0, 0, [])
  | 30 => (.bipush 57, 32, 0, 0, 57, [])
  | 32 => (.if_icmp .gt 9, 35, 41, 0, 0, [])
  | 35 => (.iinc 1 1, 38, 1, 0, 1, [])
  | 38 => (.goto (-33), 41, 5, 0, 0, [])
  | 41 => (.iload_n 1, 42, 1, 0, 0, [])
  | 42 => (.aload_n 0, 43, 0, 0, 0, [])
  | 43 => (.getfield 22, 46, 4, 0, 4, [])
  | 46 => (.isub, 47, 0, 0, 0, [])
  | 47 => (.ireturn, 48, 0, 0, 0, [])
  | _ => (.nop, 1, 0, 0, 0, [])
def kt_Tape_next : Nat → kx_E
  | 0 => (.aload_n 0, 1, 0, 0, 0, [])
  | 1 => (.getfield 22, 4, 4, 0, 4, [])
  | 4 => (.aload_n 0, 5, 0, 0, 0, [])
  | 5 => (.getfield 13, 8, 4, 0, 1, [])
  | 8 => (.if_icmp .ge 15, 11, 23, 0, 0, [])
  | 11 => (.aload_n 0, 12, 0, 0, 0, [])
  | 12 => (.getfield 9, 15, 4, 1, 0, [])
  | 15 => (.aload_n 0, 16, 0, 0, 0, [])
  | 16 => (.getfield 22, 19, 4, 0, 4, [])
  | 19 => (.iaload, 20, 0, 0, 0, [])
  | 20 => (.goto 4, 23, 24, 0, 0, [])
  | 23 => (.iconst (-1), 24, 0, 0, (-1), [])
  | 24 => (.ireturn, 25, 0, 0, 0, [])
  | _ => (.nop, 1, 0, 0, 0, [])
def kt_Tape_refuse : Nat → kx_E
  | 0 => (.aload_n 0, 1, 0, 0, 0, [])
  | 1 => (.iload_n 1, 2, 1, 0, 0, [])
  | 2 => (.putfield 85, 5, 4, 0, 2, [])
  | 5 => (.aload_n 0, 6, 0, 0, 0, [])
  | 6 => (.aload_n 0, 7, 0, 0, 0, [])
  | 7 => (.getfield 22, 10, 4, 0, 4, [])
  | 10 => (.putfield 88, 13, 4, 0, 3, [])
  | 13 => (.iconst 0, 14, 0, 0, 0, [])
  | 14 => (.ireturn, 15, 1, 0, 0, [])
  | _ => (.nop, 1, 0, 0, 0, [])
def kt_Town_init : Nat → kx_E
  | 0 => (.aload_n 0, 1, 0, 0, 0, [])
  | 1 => (.invokespecial 3, 4, 0, 0, 1, [])
  | 4 => (.aload_n 0, 5, 0, 0, 0, [])
  | 5 => (.bipush 6, 7, 0, 0, 6, [])
  | 7 => (.newarray .int, 9, 2, 0, 0, [])
  | 9 => (.putfield 11, 12, 5, 1, 0, [])
  | 12 => (.aload_n 0, 13, 0, 0, 0, [])
  | 13 => (.bipush 6, 15, 0, 0, 6, [])
  | 15 => (.newarray .int, 17, 2, 0, 0, [])
  | 17 => (.putfield 15, 20, 5, 1, 1, [])
  | 20 => (.aload_n 0, 21, 0, 0, 0, [])
  | 21 => (.bipush 6, 23, 0, 0, 6, [])
  | 23 => (.newarray .int, 25, 2, 0, 0, [])
  | 25 => (.putfield 18, 28, 5, 1, 2, [])
  | 28 => (.aload_n 0, 29, 0, 0, 0, [])
  | 29 => (.bipush 6, 31, 0, 0, 6, [])
  | 31 => (.newarray .int, 33, 2, 0, 0, [])
  | 33 => (.putfield 21, 36, 5, 1, 3, [])
  | 36 => (.aload_n 0, 37, 0, 0, 0, [])
  | 37 => (.iconst 4, 38, 0, 0, 4, [])
  | 38 => (.newarray .int, 40, 2, 0, 0, [])
  | 40 => (.putfield 24, 43, 5, 1, 4, [])
  | 43 => (.aload_n 0, 44, 0, 0, 0, [])
  | 44 => (.iconst 4, 45, 0, 0, 4, [])
  | 45 => (.newarray .int, 47, 2, 0, 0, [])
  | 47 => (.putfield 27, 50, 5, 1, 5, [])
  | 50 => (.aload_n 0, 51, 0, 0, 0, [])
  | 51 => (.iconst 4, 52, 0, 0, 4, [])
  | 52 => (.newarray .int, 54, 2, 0, 0, [])
  | 54 => (.putfield 30, 57, 5, 1, 6, [])
  | 57 => (.aload_n 0, 58, 0, 0, 0, [])
  | 58 => (.iconst 4, 59, 0, 0, 4, [])
  | 59 => (.newarray .int, 61, 2, 0, 0, [])
  | 61 => (.putfield 33, 64, 5, 1, 7, [])
  | 64 => (.return_, 65, 0, 0, 0, [])
  | _ => (.nop, 1, 0, 0, 0, [])
def kt_Town_clear : Nat → kx_E
  | 0 => (.aload_n 0, 1, 0, 0, 0, [])
  | 1 => (.iconst 0, 2, 0, 0, 0, [])
  | 2 => (.putfield 36, 5, 5, 0, 8, [])
  | 5 => (.aload_n 0, 6, 0, 0, 0, [])
  | 6 => (.iconst 0, 7, 0, 0, 0, [])
  | 7 => (.putfield 40, 10, 5, 0, 9, [])
  | 10 => (.aload_n 0, 11, 0, 0, 0, [])
  | 11 => (.iconst 0, 12, 0, 0, 0, [])
  | 12 => (.putfield 43, 15, 5, 0, 10, [])
  | 15 => (.aload_n 0, 16, 0, 0, 0, [])
  | 16 => (.iconst 0, 17, 0, 0, 0, [])
  | 17 => (.putfield 46, 20, 5, 0, 11, [])
  | 20 => (.aload_n 0, 21, 0, 0, 0, [])
  | 21 => (.iconst 0, 22, 0, 0, 0, [])
  | 22 => (.putfield 49, 25, 5, 0, 12, [])
  | 25 => (.aload_n 0, 26, 0, 0, 0, [])
  | 26 => (.iconst 0, 27, 0, 0, 0, [])
  | 27 => (.putfield 52, 30, 5, 0, 13, [])
  | 30 => (.return_, 31, 0, 0, 0, [])
  | _ => (.nop, 1, 0, 0, 0, [])
def kt_Town_becomeLike : Nat → kx_E
  | 0 => (.aload_n 1, 1, 1, 0, 0, [])
  | 1 => (.getfield 11, 4, 5, 1, 0, [])
  | 4 => (.iconst 0, 5, 0, 0, 0, [])
  | 5 => (.aload_n 0, 6, 0, 0, 0, [])
  | 6 => (.getfield 11, 9, 5, 1, 0, [])
  | 9 => (.iconst 0, 10, 0, 0, 0, [])
  | 10 => (.bipush 6, 12, 0, 0, 6, [])
  | 12 => (.invokestatic 55, 15, 0, 0, 2, [])
  | 15 => (.aload_n 1, 16, 1, 0, 0, [])
  | 16 => (.getfield 15, 19, 5, 1, 1, [])
  | 19 => (.iconst 0, 20, 0, 0, 0, [])
  | 20 => (.aload_n 0, 21, 0, 0, 0, [])
  | 21 => (.getfield 15, 24, 5, 1, 1, [])
  | 24 => (.iconst 0, 25, 0, 0, 0, [])
  | 25 => (.bipush 6, 27, 0, 0, 6, [])
  | 27 => (.invokestatic 55, 30, 0, 0, 2, [])
  | 30 => (.aload_n 1, 31, 1, 0, 0, [])
  | 31 => (.getfield 18, 34, 5, 1, 2, [])
  | 34 => (.iconst 0, 35, 0, 0, 0, [])
  | 35 => (.aload_n 0, 36, 0, 0, 0, [])
  | 36 => (.getfield 18, 39, 5, 1, 2, [])
  | 39 => (.iconst 0, 40, 0, 0, 0, [])
  | 40 => (.bipush 6, 42, 0, 0, 6, [])
  | 42 => (.invokestatic 55, 45, 0, 0, 2, [])
  | 45 => (.aload_n 1, 46, 1, 0, 0, [])
  | 46 => (.getfield 21, 49, 5, 1, 3, [])
  | 49 => (.iconst 0, 50, 0, 0, 0, [])
  | 50 => (.aload_n 0, 51, 0, 0, 0, [])
  | 51 => (.getfield 21, 54, 5, 1, 3, [])
  | 54 => (.iconst 0, 55, 0, 0, 0, [])
  | 55 => (.bipush 6, 57, 0, 0, 6, [])
  | 57 => (.invokestatic 55, 60, 0, 0, 2, [])
  | 60 => (.aload_n 1, 61, 1, 0, 0, [])
  | 61 => (.getfield 24, 64, 5, 1, 4, [])
  | 64 => (.iconst 0, 65, 0, 0, 0, [])
  | 65 => (.aload_n 0, 66, 0, 0, 0, [])
  | 66 => (.getfield 24, 69, 5, 1, 4, [])
  | 69 => (.iconst 0, 70, 0, 0, 0, [])
  | 70 => (.iconst 4, 71, 0, 0, 4, [])
  | 71 => (.invokestatic 55, 74, 0, 0, 2, [])
  | 74 => (.aload_n 1, 75, 1, 0, 0, [])
  | 75 => (.getfield 27, 78, 5, 1, 5, [])
  | 78 => (.iconst 0, 79, 0, 0, 0, [])
  | 79 => (.aload_n 0, 80, 0, 0, 0, [])
  | 80 => (.getfield 27, 83, 5, 1, 5, [])
  | 83 => (.iconst 0, 84, 0, 0, 0, [])
  | 84 => (.iconst 4, 85, 0, 0, 4, [])
  | 85 => (.invokestatic 55, 88, 0, 0, 2, [])
  | 88 => (.aload_n 1, 89, 1, 0, 0, [])
  | 89 => (.getfield 30, 92, 5, 1, 6, [])
  | 92 => (.iconst 0, 93, 0, 0, 0, [])
  | 93 => (.aload_n 0, 94, 0, 0, 0, [])
  | 94 => (.getfield 30, 97, 5, 1, 6, [])
  | 97 => (.iconst 0, 98, 0, 0, 0, [])
  | 98 => (.iconst 4, 99, 0, 0, 4, [])
  | 99 => (.invokestatic 55, 102, 0, 0, 2, [])
  | 102 => (.aload_n 1, 103, 1, 0, 0, [])
  | 103 => (.getfield 33, 106, 5, 1, 7, [])
  | 106 => (.iconst 0, 107, 0, 0, 0, [])
  | 107 => (.aload_n 0, 108, 0, 0, 0, [])
  | 108 => (.getfield 33, 111, 5, 1, 7, [])
  | 111 => (.iconst 0, 112, 0, 0, 0, [])
  | 112 => (.iconst 4, 113, 0, 0, 4, [])
  | 113 => (.invokestatic 55, 116, 0, 0, 2, [])
  | 116 => (.aload_n 0, 117, 0, 0, 0, [])
  | 117 => (.aload_n 1, 118, 1, 0, 0, [])
  | 118 => (.getfield 36, 121, 5, 0, 8, [])
  | 121 => (.putfield 36, 124, 5, 0, 8, [])
  | 124 => (.aload_n 0, 125, 0, 0, 0, [])
  | 125 => (.aload_n 1, 126, 1, 0, 0, [])
  | 126 => (.getfield 40, 129, 5, 0, 9, [])
  | 129 => (.putfield 40, 132, 5, 0, 9, [])
  | 132 => (.aload_n 0, 133, 0, 0, 0, [])
  | 133 => (.aload_n 1, 134, 1, 0, 0, [])
  | 134 => (.getfield 43, 137, 5, 0, 10, [])
  | 137 => (.putfield 43, 140, 5, 0, 10, [])
  | 140 => (.aload_n 0, 141, 0, 0, 0, [])
  | 141 => (.aload_n 1, 142, 1, 0, 0, [])
  | 142 => (.getfield 46, 145, 5, 0, 11, [])
  | 145 => (.putfield 46, 148, 5, 0, 11, [])
  | 148 => (.aload_n 0, 149, 0, 0, 0, [])
  | 149 => (.aload_n 1, 150, 1, 0, 0, [])
  | 150 => (.getfield 49, 153, 5, 0, 12, [])
  | 153 => (.putfield 49, 156, 5, 0, 12, [])
  | 156 => (.aload_n 0, 157, 0, 0, 0, [])
  | 157 => (.aload_n 1, 158, 1, 0, 0, [])
  | 158 => (.getfield 52, 161, 5, 0, 13, [])
  | 161 => (.putfield 52, 164, 5, 0, 13, [])
  | 164 => (.return_, 165, 0, 0, 0, [])
  | _ => (.nop, 1, 0, 0, 0, [])
def kt_Town_addHead : Nat → kx_E
  | 0 => (.aload_n 0, 1, 0, 0, 0, [])
  | 1 => (.getfield 11, 4, 5, 1, 0, [])
  | 4 => (.aload_n 0, 5, 0, 0, 0, [])
  | 5 => (.getfield 36, 8, 5, 0, 8, [])
  | 8 => (.iload_n 1, 9, 1, 0, 0, [])
  | 9 => (.iastore, 10, 0, 0, 0, [])
  | 10 => (.aload_n 0, 11, 0, 0, 0, [])
  | 11 => (.getfield 15, 14, 5, 1, 1, [])
  | 14 => (.aload_n 0, 15, 0, 0, 0, [])
  | 15 => (.getfield 36, 18, 5, 0, 8, [])
  | 18 => (.iload_n 2, 19, 2, 0, 0, [])
  | 19 => (.iastore, 20, 0, 0, 0, [])
  | 20 => (.aload_n 0, 21, 0, 0, 0, [])
  | 21 => (.getfield 18, 24, 5, 1, 2, [])
  | 24 => (.aload_n 0, 25, 0, 0, 0, [])
  | 25 => (.getfield 36, 28, 5, 0, 8, [])
  | 28 => (.iload_n 3, 29, 3, 0, 0, [])
  | 29 => (.iastore, 30, 0, 0, 0, [])
  | 30 => (.aload_n 0, 31, 0, 0, 0, [])
  | 31 => (.getfield 21, 34, 5, 1, 3, [])
  | 34 => (.aload_n 0, 35, 0, 0, 0, [])
  | 35 => (.getfield 36, 38, 5, 0, 8, [])
  | 38 => (.iconst 0, 39, 0, 0, 0, [])
  | 39 => (.iastore, 40, 0, 0, 0, [])
  | 40 => (.aload_n 0, 41, 0, 0, 0, [])
  | 41 => (.dup, 42, 0, 0, 0, [])
  | 42 => (.getfield 36, 45, 5, 0, 8, [])
  | 45 => (.iconst 1, 46, 0, 0, 1, [])
  | 46 => (.iadd, 47, 0, 0, 0, [])
  | 47 => (.putfield 36, 50, 5, 0, 8, [])
  | 50 => (.return_, 51, 0, 0, 0, [])
  | _ => (.nop, 1, 0, 0, 0, [])
def kt_Town_addOrder : Nat → kx_E
  | 0 => (.aload_n 0, 1, 0, 0, 0, [])
  | 1 => (.getfield 40, 4, 5, 0, 9, [])
  | 4 => (.istore_n 2, 5, 2, 0, 0, [])
  | 5 => (.aload_n 0, 6, 0, 0, 0, [])
  | 6 => (.getfield 24, 9, 5, 1, 4, [])
  | 9 => (.iload_n 2, 10, 2, 0, 0, [])
  | 10 => (.iload_n 1, 11, 1, 0, 0, [])
  | 11 => (.iastore, 12, 0, 0, 0, [])
  | 12 => (.aload_n 0, 13, 0, 0, 0, [])
  | 13 => (.getfield 27, 16, 5, 1, 5, [])
  | 16 => (.iload_n 2, 17, 2, 0, 0, [])
  | 17 => (.iload_n 1, 18, 1, 0, 0, [])
  | 18 => (.iastore, 19, 0, 0, 0, [])
  | 19 => (.aload_n 0, 20, 0, 0, 0, [])
  | 20 => (.getfield 30, 23, 5, 1, 6, [])
  | 23 => (.iload_n 2, 24, 2, 0, 0, [])
  | 24 => (.iconst 0, 25, 0, 0, 0, [])
  | 25 => (.iastore, 26, 0, 0, 0, [])
  | 26 => (.aload_n 0, 27, 0, 0, 0, [])
  | 27 => (.getfield 33, 30, 5, 1, 7, [])
  | 30 => (.iload_n 2, 31, 2, 0, 0, [])
  | 31 => (.ldc 61, 33, 0, 0, (-1000000), [])
  | 33 => (.iastore, 34, 0, 0, 0, [])
  | 34 => (.aload_n 0, 35, 0, 0, 0, [])
  | 35 => (.dup, 36, 0, 0, 0, [])
  | 36 => (.getfield 40, 39, 5, 0, 9, [])
  | 39 => (.iconst 1, 40, 0, 0, 1, [])
  | 40 => (.iadd, 41, 0, 0, 0, [])
  | 41 => (.putfield 40, 44, 5, 0, 9, [])
  | 44 => (.iload_n 2, 45, 2, 0, 0, [])
  | 45 => (.ireturn, 46, 0, 0, 0, [])
  | _ => (.nop, 1, 0, 0, 0, [])
def kt_Town_hasHead : Nat → kx_E
  | 0 => (.iconst 0, 1, 0, 0, 0, [])
  | 1 => (.iload_n 1, 2, 1, 0, 0, [])
  | 2 => (.if_icmp .gt 15, 5, 17, 0, 0, [])
  | 5 => (.iload_n 1, 6, 1, 0, 0, [])
  | 6 => (.aload_n 0, 7, 0, 0, 0, [])
  | 7 => (.getfield 36, 10, 5, 0, 8, [])
  | 10 => (.if_icmp .ge 7, 13, 17, 0, 0, [])
  | 13 => (.iconst 1, 14, 0, 0, 1, [])
  | 14 => (.goto 4, 17, 18, 0, 0, [])
  | 17 => (.iconst 0, 18, 0, 0, 0, [])
  | 18 => (.ireturn, 19, 1, 0, 0, [])
  | _ => (.nop, 1, 0, 0, 0, [])
def kt_Town_hasOrder : Nat → kx_E
  | 0 => (.iconst 0, 1, 0, 0, 0, [])
  | 1 => (.iload_n 1, 2, 1, 0, 0, [])
  | 2 => (.if_icmp .gt 15, 5, 17, 0, 0, [])
  | 5 => (.iload_n 1, 6, 1, 0, 0, [])
  | 6 => (.aload_n 0, 7, 0, 0, 0, [])
  | 7 => (.getfield 40, 10, 5, 0, 9, [])
  | 10 => (.if_icmp .ge 7, 13, 17, 0, 0, [])
  | 13 => (.iconst 1, 14, 0, 0, 1, [])
  | 14 => (.goto 4, 17, 18, 0, 0, [])
  | 17 => (.iconst 0, 18, 0, 0, 0, [])
  | 18 => (.ireturn, 19, 1, 0, 0, [])
  | _ => (.nop, 1, 0, 0, 0, [])
def kt_Town_ordersThatAre : Nat → kx_E
  | 0 => (.iconst 0, 1, 0, 0, 0, [])
  | 1 => (.istore_n 2, 2, 2, 0, 0, [])
  | 2 => (.iconst 0, 3, 0, 0, 0, [])
  | 3 => (.istore_n 3, 4, 3, 0, 0, [])
  | 4 => (.iload_n 3, 5, 3, 0, 0, [])
  | 5 => (.aload_n 0, 6, 0, 0, 0, [])
  | 6 => (.getfield 40, 9, 5, 0, 9, [])
  | 9 => (.if_icmp .ge 22, 12, 31, 0, 0, [])
  | 12 => (.aload_n 0, 13, 0, 0, 0, [])
  | 13 => (.getfield 30, 16, 5, 1, 6, [])
  | 16 => (.iload_n 3, 17, 3, 0, 0, [])
  | 17 => (.iaload, 18, 0, 0, 0, [])
  | 18 => (.iload_n 1, 19, 1, 0, 0, [])
  | 19 => (.if_icmp .ne 6, 22, 25, 0, 0, [])
  | 22 => (.iinc 2 1, 25, 2, 0, 1, [])
  | 25 => (.iinc 3 1, 28, 3, 0, 1, [])
  | 28 => (.goto (-24), 31, 4, 0, 0, [])
  | 31 => (.iload_n 2, 32, 2, 0, 0, [])
  | 32 => (.ireturn, 33, 0, 0, 0, [])
  | _ => (.nop, 1, 0, 0, 0, [])
def kt_Town_handTo : Nat → kx_E
  | 0 => (.aload_n 0, 1, 0, 0, 0, [])
  | 1 => (.iload_n 1, 2, 1, 0, 0, [])
  | 2 => (.putfield 46, 5, 5, 0, 11, [])
  | 5 => (.aload_n 0, 6, 0, 0, 0, [])
  | 6 => (.iconst 0, 7, 0, 0, 0, [])
  | 7 => (.putfield 49, 10, 5, 0, 12, [])
  | 10 => (.return_, 11, 0, 0, 0, [])
  | _ => (.nop, 1, 0, 0, 0, [])
def kt_Town_takeStep : Nat → kx_E
  | 0 => (.aload_n 0, 1, 0, 0, 0, [])
  | 1 => (.dup, 2, 0, 0, 0, [])
  | 2 => (.getfield 52, 5, 5, 0, 13, [])
  | 5 => (.iconst 1, 6, 0, 0, 1, [])
  | 6 => (.iadd, 7, 0, 0, 0, [])
  | 7 => (.putfield 52, 10, 5, 0, 13, [])
  | 10 => (.aload_n 0, 11, 0, 0, 0, [])
  | 11 => (.invokevirtual 62, 14, 63, 1, 0, [5])
  | 14 => (.istore_n 1, 15, 1, 0, 0, [])
  | 15 => (.iload_n 1, 16, 1, 0, 0, [])
  | 16 => (.iconst (-1), 17, 0, 0, (-1), [])
  | 17 => (.if_icmp .eq 8, 20, 25, 0, 0, [])
  | 20 => (.aload_n 0, 21, 0, 0, 0, [])
  | 21 => (.iload_n 1, 22, 1, 0, 0, [])
  | 22 => (.invokevirtual 66, 25, 64, 2, 0, [5])
  | 25 => (.aload_n 0, 26, 0, 0, 0, [])
  | 26 => (.dup, 27, 0, 0, 0, [])
  | 27 => (.getfield 49, 30, 5, 0, 12, [])
  | 30 => (.iconst 1, 31, 0, 0, 1, [])
  | 31 => (.iadd, 32, 0, 0, 0, [])
  | 32 => (.putfield 49, 35, 5, 0, 12, [])
  | 35 => (.aload_n 0, 36, 0, 0, 0, [])
  | 36 => (.getfield 49, 39, 5, 0, 12, [])
  | 39 => (.aload_n 0, 40, 0, 0, 0, [])
  | 40 => (.invokevirtual 70, 43, 65, 1, 0, [5])
  | 43 => (.if_icmp .lt 20, 46, 63, 0, 0, [])
  | 46 => (.aload_n 0, 47, 0, 0, 0, [])
  | 47 => (.aload_n 0, 48, 0, 0, 0, [])
  | 48 => (.aload_n 0, 49, 0, 0, 0, [])
  | 49 => (.getfield 46, 52, 5, 0, 11, [])
  | 52 => (.aload_n 0, 53, 0, 0, 0, [])
  | 53 => (.invokevirtual 73, 56, 66, 1, 0, [5])
  | 56 => (.iadd, 57, 0, 0, 0, [])
  | 57 => (.invokevirtual 76, 60, 67, 2, 0, [5])
  | 60 => (.invokevirtual 80, 63, 60, 2, 0, [5])
  | 63 => (.iload_n 1, 64, 1, 0, 0, [])
  | 64 => (.ireturn, 65, 0, 0, 0, [])
  | _ => (.nop, 1, 0, 0, 0, [])
def kt_Town_revertStep : Nat → kx_E
  | 0 => (.aload_n 0, 1, 0, 0, 0, [])
  | 1 => (.dup, 2, 0, 0, 0, [])
  | 2 => (.getfield 52, 5, 5, 0, 13, [])
  | 5 => (.iconst 1, 6, 0, 0, 1, [])
  | 6 => (.isub, 7, 0, 0, 0, [])
  | 7 => (.putfield 52, 10, 5, 0, 13, [])
  | 10 => (.aload_n 0, 11, 0, 0, 0, [])
  | 11 => (.iload_n 1, 12, 1, 0, 0, [])
  | 12 => (.putfield 46, 15, 5, 0, 11, [])
  | 15 => (.aload_n 0, 16, 0, 0, 0, [])
  | 16 => (.iload_n 2, 17, 2, 0, 0, [])
  | 17 => (.putfield 49, 20, 5, 0, 12, [])
  | 20 => (.iload_n 3, 21, 3, 0, 0, [])
  | 21 => (.iconst (-1), 22, 0, 0, (-1), [])
  | 22 => (.if_icmp .eq 38, 25, 60, 0, 0, [])
  | 25 => (.aload_n 0, 26, 0, 0, 0, [])
  | 26 => (.getfield 27, 29, 5, 1, 5, [])
  | 29 => (.iload_n 3, 30, 3, 0, 0, [])
  | 30 => (.dup2, 31, 0, 0, 0, [])
  | 31 => (.iaload, 32, 0, 0, 0, [])
  | 32 => (.iconst 1, 33, 0, 0, 1, [])
  | 33 => (.iadd, 34, 0, 0, 0, [])
  | 34 => (.iastore, 35, 0, 0, 0, [])
  | 35 => (.aload_n 0, 36, 0, 0, 0, [])
  | 36 => (.getfield 30, 39, 5, 1, 6, [])
  | 39 => (.iload_n 3, 40, 3, 0, 0, [])
  | 40 => (.iconst 0, 41, 0, 0, 0, [])
  | 41 => (.iastore, 42, 0, 0, 0, [])
  | 42 => (.aload_n 0, 43, 0, 0, 0, [])
  | 43 => (.getfield 33, 46, 5, 1, 7, [])
  | 46 => (.iload_n 3, 47, 3, 0, 0, [])
  | 47 => (.ldc 61, 49, 0, 0, (-1000000), [])
  | 49 => (.iastore, 50, 0, 0, 0, [])
  | 50 => (.aload_n 0, 51, 0, 0, 0, [])
  | 51 => (.getfield 21, 54, 5, 1, 3, [])
  | 54 => (.iload_n 1, 55, 1, 0, 0, [])
  | 55 => (.dup2, 56, 0, 0, 0, [])
  | 56 => (.iaload, 57, 0, 0, 0, [])
  | 57 => (.iconst 1, 58, 0, 0, 1, [])
  | 58 => (.isub, 59, 0, 0, 0, [])
  | 59 => (.iastore, 60, 0, 0, 0, [])
  | 60 => (.return_, 61, 0, 0, 0, [])
  | _ => (.nop, 1, 0, 0, 0, [])
def kt_Town_orderToWorkOn : Nat → kx_E
  | 0 => (.iconst 0, 1, 0, 0, 0, [])
  | 1 => (.istore_n 1, 2, 1, 0, 0, [])
  | 2 => (.iload_n 1, 3, 1, 0, 0, [])
  | 3 => (.aload_n 0, 4, 0, 0, 0, [])
  | 4 => (.getfield 40, 7, 5, 0, 9, [])
  | 7 => (.if_icmp .ge 37, 10, 44, 0, 0, [])
  | 10 => (.aload_n 0, 11, 0, 0, 0, [])
  | 11 => (.getfield 30, 14, 5, 1, 6, [])
  | 14 => (.iload_n 1, 15, 1, 0, 0, [])
  | 15 => (.iaload, 16, 0, 0, 0, [])
  | 16 => (.ifCond .ne 22, 19, 38, 0, 0, [])
  | 19 => (.aload_n 0, 20, 0, 0, 0, [])
  | 20 => (.getfield 18, 23, 5, 1, 2, [])
  | 23 => (.aload_n 0, 24, 0, 0, 0, [])
  | 24 => (.getfield 46, 27, 5, 0, 11, [])
  | 27 => (.iaload, 28, 0, 0, 0, [])
  | 28 => (.iload_n 1, 29, 1, 0, 0, [])
  | 29 => (.ishr, 30, 0, 0, 0, [])
  | 30 => (.iconst 1, 31, 0, 0, 1, [])
  | 31 => (.iand, 32, 0, 0, 0, [])
  | 32 => (.iconst 1, 33, 0, 0, 1, [])
  | 33 => (.if_icmp .ne 5, 36, 38, 0, 0, [])
  | 36 => (.iload_n 1, 37, 1, 0, 0, [])
  | 37 => (.ireturn, 38, 0, 0, 0, [])
  | 38 => (.iinc 1 1, 41, 1, 0, 1, [])
  | 41 => (.goto (-39), 44, 2, 0, 0, [])
  | 44 => (.iconst (-1), 45, 0, 0, (-1), [])
  | 45 => (.ireturn, 46, 0, 0, 0, [])
  | _ => (.nop, 1, 0, 0, 0, [])
def kt_Town_workOn : Nat → kx_E
  | 0 => (.aload_n 0, 1, 0, 0, 0, [])
  | 1 => (.getfield 27, 4, 5, 1, 5, [])
  | 4 => (.iload_n 1, 5, 1, 0, 0, [])
  | 5 => (.dup2, 6, 0, 0, 0, [])
  | 6 => (.iaload, 7, 0, 0, 0, [])
  | 7 => (.iconst 1, 8, 0, 0, 1, [])
  | 8 => (.isub, 9, 0, 0, 0, [])
  | 9 => (.iastore, 10, 0, 0, 0, [])
  | 10 => (.aload_n 0, 11, 0, 0, 0, [])
  | 11 => (.getfield 21, 14, 5, 1, 3, [])
  | 14 => (.aload_n 0, 15, 0, 0, 0, [])
  | 15 => (.getfield 46, 18, 5, 0, 11, [])
  | 18 => (.dup2, 19, 0, 0, 0, [])
  | 19 => (.iaload, 20, 0, 0, 0, [])
  | 20 => (.iconst 1, 21, 0, 0, 1, [])
  | 21 => (.iadd, 22, 0, 0, 0, [])
  | 22 => (.iastore, 23, 0, 0, 0, [])
  | 23 => (.aload_n 0, 24, 0, 0, 0, [])
  | 24 => (.getfield 27, 27, 5, 1, 5, [])
  | 27 => (.iload_n 1, 28, 1, 0, 0, [])
  | 28 => (.iaload, 29, 0, 0, 0, [])
  | 29 => (.ifCond .ne 20, 32, 49, 0, 0, [])
  | 32 => (.aload_n 0, 33, 0, 0, 0, [])
  | 33 => (.getfield 30, 36, 5, 1, 6, [])
  | 36 => (.iload_n 1, 37, 1, 0, 0, [])
  | 37 => (.iconst 1, 38, 0, 0, 1, [])
  | 38 => (.iastore, 39, 0, 0, 0, [])
  | 39 => (.aload_n 0, 40, 0, 0, 0, [])
  | 40 => (.getfield 33, 43, 5, 1, 7, [])
  | 43 => (.iload_n 1, 44, 1, 0, 0, [])
  | 44 => (.aload_n 0, 45, 0, 0, 0, [])
  | 45 => (.getfield 52, 48, 5, 0, 13, [])
  | 48 => (.iastore, 49, 0, 0, 0, [])
  | 49 => (.return_, 50, 0, 0, 0, [])
  | _ => (.nop, 1, 0, 0, 0, [])
def kt_Town_patience : Nat → kx_E
  | 0 => (.aload_n 0, 1, 0, 0, 0, [])
  | 1 => (.getfield 11, 4, 5, 1, 0, [])
  | 4 => (.aload_n 0, 5, 0, 0, 0, [])
  | 5 => (.getfield 46, 8, 5, 0, 11, [])
  | 8 => (.iaload, 9, 0, 0, 0, [])
  | 9 => (.iconst 3, 10, 0, 0, 3, [])
  | 10 => (.if_icmp .ne 11, 13, 21, 0, 0, [])
  | 13 => (.aload_n 0, 14, 0, 0, 0, [])
  | 14 => (.iconst 0, 15, 0, 0, 0, [])
  | 15 => (.invokevirtual 85, 18, 59, 2, 0, [5])
  | 18 => (.goto 4, 21, 22, 0, 0, [])
  | 21 => (.iconst 0, 22, 0, 0, 0, [])
  | 22 => (.istore_n 1, 23, 1, 0, 0, [])
  | 23 => (.aload_n 0, 24, 0, 0, 0, [])
  | 24 => (.getfield 15, 27, 5, 1, 1, [])
  | 27 => (.aload_n 0, 28, 0, 0, 0, [])
  | 28 => (.getfield 46, 31, 5, 0, 11, [])
  | 31 => (.iaload, 32, 0, 0, 0, [])
  | 32 => (.iload_n 1, 33, 1, 0, 0, [])
  | 33 => (.iadd, 34, 0, 0, 0, [])
  | 34 => (.ireturn, 35, 0, 0, 0, [])
  | _ => (.nop, 1, 0, 0, 0, [])
def kt_Town_stride : Nat → kx_E
  | 0 => (.aload_n 0, 1, 0, 0, 0, [])
  | 1 => (.getfield 11, 4, 5, 1, 0, [])
  | 4 => (.aload_n 0, 5, 0, 0, 0, [])
  | 5 => (.getfield 46, 8, 5, 0, 11, [])
  | 8 => (.iaload, 9, 0, 0, 0, [])
  | 9 => (.tableswitch 44 2 5 #[31, 44, 33, 38], 40, 53, 0, 2, [40, 53, 42, 47])
  | 40 => (.iconst 2, 41, 0, 0, 2, [])
  | 41 => (.ireturn, 42, 0, 0, 0, [])
  | 42 => (.aload_n 0, 43, 0, 0, 0, [])
  | 43 => (.getfield 43, 46, 5, 0, 10, [])
  | 46 => (.ireturn, 47, 0, 0, 0, [])
  | 47 => (.aload_n 0, 48, 0, 0, 0, [])
  | 48 => (.getfield 43, 51, 5, 0, 10, [])
  | 51 => (.ineg, 52, 0, 0, 0, [])
  | 52 => (.ireturn, 53, 0, 0, 0, [])
  | 53 => (.iconst 1, 54, 0, 0, 1, [])
  | 54 => (.ireturn, 55, 0, 0, 0, [])
  | _ => (.nop, 1, 0, 0, 0, [])
def kt_Town_seat : Nat → kx_E
  | 0 => (.aload_n 0, 1, 0, 0, 0, [])
  | 1 => (.getfield 36, 4, 5, 0, 8, [])
  | 4 => (.ifCond .le 14, 7, 18, 0, 0, [])
  | 7 => (.iload_n 1, 8, 1, 0, 0, [])
  | 8 => (.aload_n 0, 9, 0, 0, 0, [])
  | 9 => (.getfield 36, 12, 5, 0, 8, [])
  | 12 => (.invokestatic 88, 15, 192, 2, 0, [])
  | 15 => (.goto 4, 18, 19, 0, 0, [])
  | 18 => (.iconst 0, 19, 0, 0, 0, [])
  | 19 => (.ireturn, 20, 0, 0, 0, [])
  | _ => (.nop, 1, 0, 0, 0, [])
end
section
def kt_X_init : Nat → kx_E
  | 0 => (.aload_n 0, 1, 0, 0, 0, [])
  | 1 => (.invokespecial 1, 4, 0, 0, 1, [])
  | 4 => (.aload_n 0, 5, 0, 0, 0, [])
  | 5 => (.bipush 8, 7, 0, 0, 8, [])
  | 7 => (.anewarray 9, 10, 5, 0, 0, [])
  | 10 => (.putfield 11, 13, 6, 1, 0, [])
  | 13 => (.iconst 0, 14, 0, 0, 0, [])
  | 14 => (.istore_n 1, 15, 1, 0, 0, [])
  | 15 => (.iload_n 1, 16, 1, 0, 0, [])
  | 16 => (.bipush 8, 18, 0, 0, 8, [])
  | 18 => (.if_icmp .ge 22, 21, 40, 0, 0, [])
  | 21 => (.aload_n 0, 22, 0, 0, 0, [])
  | 22 => (.getfield 11, 25, 6, 1, 0, [])
  | 25 => (.iload_n 1, 26, 1, 0, 0, [])
  | 26 => (.new 9, 29, 3, 0, 0, [])
  | 29 => (.dup, 30, 0, 0, 0, [])
  | 30 => (.invokespecial 15, 33, 30, 1, 0, [])
  | 33 => (.aastore, 34, 0, 0, 0, [])
  | 34 => (.iinc 1 1, 37, 1, 0, 1, [])
  | 37 => (.goto (-22), 40, 15, 0, 0, [])
  | 40 => (.aload_n 0, 41, 0, 0, 0, [])
  | 41 => (.new 16, 44, 4, 0, 0, [])
  | 44 => (.dup, 45, 0, 0, 0, [])
  | 45 => (.invokespecial 18, 48, 37, 1, 0, [])
  | 48 => (.putfield 19, 51, 6, 1, 1, [])
  | 51 => (.aload_n 0, 52, 0, 0, 0, [])
  | 52 => (.new 23, 55, 5, 0, 0, [])
  | 55 => (.dup, 56, 0, 0, 0, [])
  | 56 => (.invokespecial 25, 59, 52, 1, 0, [])
  | 59 => (.putfield 26, 62, 6, 1, 2, [])
  | 62 => (.aload_n 0, 63, 0, 0, 0, [])
  | 63 => (.new 23, 66, 5, 0, 0, [])
  | 66 => (.dup, 67, 0, 0, 0, [])
  | 67 => (.invokespecial 25, 70, 52, 1, 0, [])
  | 70 => (.putfield 30, 73, 6, 1, 3, [])
  | 73 => (.aload_n 0, 74, 0, 0, 0, [])
  | 74 => (.new 33, 77, 0, 0, 0, [])
  | 77 => (.dup, 78, 0, 0, 0, [])
  | 78 => (.invokespecial 35, 81, 0, 1, 0, [])
  | 81 => (.putfield 36, 84, 6, 1, 4, [])
  | 84 => (.aload_n 0, 85, 0, 0, 0, [])
  | 85 => (.new 40, 88, 2, 0, 0, [])
  | 88 => (.dup, 89, 0, 0, 0, [])
  | 89 => (.aload_n 0, 90, 0, 0, 0, [])
  | 90 => (.getfield 30, 93, 6, 1, 3, [])
  | 93 => (.invokespecial 42, 96, 10, 2, 0, [])
  | 96 => (.putfield 45, 99, 6, 1, 5, [])
  | 99 => (.aload_n 0, 100, 0, 0, 0, [])
  | 100 => (.new 49, 103, 1, 0, 0, [])
  | 103 => (.dup, 104, 0, 0, 0, [])
  | 104 => (.invokespecial 51, 107, 4, 1, 0, [])
  | 107 => (.putfield 52, 110, 6, 1, 6, [])
  | 110 => (.aload_n 0, 111, 0, 0, 0, [])
  | 111 => (.iconst 2, 112, 0, 0, 2, [])
  | 112 => (.anewarray 23, 115, 6, 0, 0, [])
  | 115 => (.putfield 56, 118, 6, 1, 7, [])
  | 118 => (.iconst 0, 119, 0, 0, 0, [])
  | 119 => (.istore_n 1, 120, 1, 0, 0, [])
  | 120 => (.iload_n 1, 121, 1, 0, 0, [])
  | 121 => (.iconst 2, 122, 0, 0, 2, [])
  | 122 => (.if_icmp .ge 22, 125, 144, 0, 0, [])
  | 125 => (.aload_n 0, 126, 0, 0, 0, [])
  | 126 => (.getfield 56, 129, 6, 1, 7, [])
  | 129 => (.iload_n 1, 130, 1, 0, 0, [])
  | 130 => (.new 23, 133, 5, 0, 0, [])
  | 133 => (.dup, 134, 0, 0, 0, [])
  | 134 => (.invokespecial 25, 137, 52, 1, 0, [])
  | 137 => (.aastore, 138, 0, 0, 0, [])
  | 138 => (.iinc 1 1, 141, 1, 0, 1, [])
  | 141 => (.goto (-21), 144, 120, 0, 0, [])
  | 144 => (.aload_n 0, 145, 0, 0, 0, [])
  | 145 => (.iconst 2, 146, 0, 0, 2, [])
  | 146 => (.newarray .boolean, 148, 4, 0, 0, [])
  | 148 => (.putfield 60, 151, 6, 1, 8, [])
  | 151 => (.aload_n 0, 152, 0, 0, 0, [])
  | 152 => (.iconst 0, 153, 0, 0, 0, [])
  | 153 => (.putfield 64, 156, 6, 0, 9, [])
  | 156 => (.aload_n 0, 157, 0, 0, 0, [])
  | 157 => (.iconst 0, 158, 0, 0, 0, [])
  | 158 => (.putfield 68, 161, 6, 0, 10, [])
  | 161 => (.return_, 162, 0, 0, 0, [])
  | _ => (.nop, 1, 0, 0, 0, [])
def kt_X_row : Nat → kx_E
  | 0 => (.iload_n 1, 1, 1, 0, 0, [])
  | 1 => (.invokestatic 71, 4, 110, 1, 0, [])
  | 4 => (.ifCond .eq 18, 7, 22, 0, 0, [])
  | 7 => (.iload_n 2, 8, 2, 0, 0, [])
  | 8 => (.iconst 0, 9, 0, 0, 0, [])
  | 9 => (.iconst 2, 10, 0, 0, 2, [])
  | 10 => (.invokestatic 75, 13, 113, 3, 0, [])
  | 13 => (.ifCond .eq 9, 16, 22, 0, 0, [])
  | 16 => (.iload_n 3, 17, 3, 0, 0, [])
  | 17 => (.bipush 40, 19, 0, 0, 40, [])
  | 19 => (.if_icmp .le 6, 22, 25, 0, 0, [])
  | 22 => (.ldc 79, 24, 0, 0, (-1000001), [])
  | 24 => (.ireturn, 25, 0, 0, 0, [])
  | 25 => (.iload_n 3, 26, 3, 0, 0, [])
  | 26 => (.ifCond .ge 9, 29, 35, 0, 0, [])
  | 29 => (.aload_n 0, 30, 0, 0, 0, [])
  | 30 => (.iconst 4, 31, 0, 0, 4, [])
  | 31 => (.invokevirtual 80, 34, 105, 2, 0, [6])
  | 34 => (.ireturn, 35, 0, 0, 0, [])
  | 35 => (.aload_n 0, 36, 0, 0, 0, [])
  | 36 => (.getfield 11, 39, 6, 1, 0, [])
  | 39 => (.iload_n 1, 40, 1, 0, 0, [])
  | 40 => (.aaload, 41, 0, 0, 0, [])
  | 41 => (.iload_n 2, 42, 2, 0, 0, [])
  | 42 => (.iload_n 3, 43, 3, 0, 0, [])
  | 43 => (.invokevirtual 84, 46, 32, 3, 0, [3])
  | 46 => (.aload_n 0, 47, 0, 0, 0, [])
  | 47 => (.iload_n 3, 48, 3, 0, 0, [])
  | 48 => (.invokevirtual 88, 51, 106, 2, 0, [6])
  | 51 => (.ireturn, 52, 0, 0, 0, [])
  | _ => (.nop, 1, 0, 0, 0, [])
def kt_X_set : Nat → kx_E
  | 0 => (.iload_n 1, 1, 1, 0, 0, [])
  | 1 => (.invokestatic 71, 4, 110, 1, 0, [])
  | 4 => (.ifCond .ne 6, 7, 10, 0, 0, [])
  | 7 => (.ldc 79, 9, 0, 0, (-1000001), [])
  | 9 => (.ireturn, 10, 0, 0, 0, [])
  | 10 => (.aload_n 0, 11, 0, 0, 0, [])
  | 11 => (.iload_n 1, 12, 1, 0, 0, [])
  | 12 => (.iload_n 2, 13, 2, 0, 0, [])
  | 13 => (.iconst 1, 14, 0, 0, 1, [])
  | 14 => (.invokevirtual 91, 17, 107, 4, 0, [6])
  | 17 => (.istore 4, 19, 4, 0, 0, [])
  | 19 => (.iload 4, 21, 4, 0, 0, [])
  | 21 => (.ifCond .eq 10, 24, 31, 0, 0, [])
  | 24 => (.aload_n 0, 25, 0, 0, 0, [])
  | 25 => (.iload 4, 27, 4, 0, 0, [])
  | 27 => (.invokevirtual 80, 30, 105, 2, 0, [6])
  | 30 => (.ireturn, 31, 0, 0, 0, [])
  | 31 => (.aload_n 0, 32, 0, 0, 0, [])
  | 32 => (.aload_n 0, 33, 0, 0, 0, [])
  | 33 => (.getfield 11, 36, 6, 1, 0, [])
  | 36 => (.iload_n 1, 37, 1, 0, 0, [])
  | 37 => (.aaload, 38, 0, 0, 0, [])
  | 38 => (.iload_n 2, 39, 2, 0, 0, [])
  | 39 => (.iload_n 3, 40, 3, 0, 0, [])
  | 40 => (.invokevirtual 95, 43, 35, 3, 0, [3])
  | 43 => (.invokevirtual 88, 46, 106, 2, 0, [6])
  | 46 => (.ireturn, 47, 0, 0, 0, [])
  | _ => (.nop, 1, 0, 0, 0, [])
def kt_X_copy : Nat → kx_E
  | 0 => (.iload_n 1, 1, 1, 0, 0, [])
  | 1 => (.invokestatic 71, 4, 110, 1, 0, [])
  | 4 => (.ifCond .eq 10, 7, 14, 0, 0, [])
  | 7 => (.iload_n 3, 8, 3, 0, 0, [])
  | 8 => (.invokestatic 71, 11, 110, 1, 0, [])
  | 11 => (.ifCond .ne 6, 14, 17, 0, 0, [])
  | 14 => (.ldc 79, 16, 0, 0, (-1000001), [])
  | 16 => (.ireturn, 17, 0, 0, 0, [])
  | 17 => (.aload_n 0, 18, 0, 0, 0, [])
  | 18 => (.getfield 11, 21, 6, 1, 0, [])
  | 21 => (.iload_n 1, 22, 1, 0, 0, [])
  | 22 => (.aaload, 23, 0, 0, 0, [])
  | 23 => (.astore 6, 25, 6, 0, 0, [])
  | 25 => (.aload_n 0, 26, 0, 0, 0, [])
  | 26 => (.getfield 11, 29, 6, 1, 0, [])
  | 29 => (.iload_n 3, 30, 3, 0, 0, [])
  | 30 => (.aaload, 31, 0, 0, 0, [])
  | 31 => (.astore 7, 33, 7, 0, 0, [])
  | 33 => (.aload 6, 35, 6, 0, 0, [])
  | 35 => (.invokevirtual 99, 38, 31, 1, 0, [3])
  | 38 => (.ifCond .ne 11, 41, 49, 0, 0, [])
  | 41 => (.aload 7, 43, 7, 0, 0, [])
  | 43 => (.invokevirtual 99, 46, 31, 1, 0, [3])
  | 46 => (.ifCond .eq 9, 49, 55, 0, 0, [])
  | 49 => (.aload_n 0, 50, 0, 0, 0, [])
  | 50 => (.iconst 1, 51, 0, 0, 1, [])
  | 51 => (.invokevirtual 80, 54, 105, 2, 0, [6])
  | 54 => (.ireturn, 55, 0, 0, 0, [])
  | 55 => (.aload 6, 57, 6, 0, 0, [])
  | 57 => (.getfield 103, 60, 3, 0, 1, [])
  | 60 => (.aload 7, 62, 7, 0, 0, [])
  | 62 => (.getfield 103, 65, 3, 0, 1, [])
  | 65 => (.if_icmp .eq 9, 68, 74, 0, 0, [])
  | 68 => (.aload_n 0, 69, 0, 0, 0, [])
  | 69 => (.iconst 5, 70, 0, 0, 5, [])
  | 70 => (.invokevirtual 80, 73, 105, 2, 0, [6])
  | 73 => (.ireturn, 74, 0, 0, 0, [])
  | 74 => (.aload 6, 76, 6, 0, 0, [])
  | 76 => (.iload_n 2, 77, 2, 0, 0, [])
  | 77 => (.iload 5, 79, 5, 0, 0, [])
  | 79 => (.invokevirtual 106, 82, 34, 3, 0, [3])
  | 82 => (.ifCond .eq 15, 85, 97, 0, 0, [])
  | 85 => (.aload 7, 87, 7, 0, 0, [])
  | 87 => (.iload 4, 89, 4, 0, 0, [])
  | 89 => (.iload 5, 91, 5, 0, 0, [])
  | 91 => (.invokevirtual 106, 94, 34, 3, 0, [3])
  | 94 => (.ifCond .ne 9, 97, 103, 0, 0, [])
  | 97 => (.aload_n 0, 98, 0, 0, 0, [])
  | 98 => (.iconst 2, 99, 0, 0, 2, [])
  | 99 => (.invokevirtual 80, 102, 105, 2, 0, [6])
  | 102 => (.ireturn, 103, 0, 0, 0, [])
  | 103 => (.aload 6, 105, 6, 0, 0, [])
  | 105 => (.getfield 110, 108, 3, 1, 0, [])
  | 108 => (.iload_n 2, 109, 2, 0, 0, [])
  | 109 => (.aload 7, 111, 7, 0, 0, [])
  | 111 => (.getfield 110, 114, 3, 1, 0, [])
  | 114 => (.iload 4, 116, 4, 0, 0, [])
  | 116 => (.iload 5, 118, 5, 0, 0, [])
  | 118 => (.invokestatic 114, 121, 0, 0, 2, [])
  | 121 => (.aload_n 0, 122, 0, 0, 0, [])
  | 122 => (.iload 5, 124, 5, 0, 0, [])
  | 124 => (.invokevirtual 88, 127, 106, 2, 0, [6])
  | 127 => (.ireturn, 128, 0, 0, 0, [])
  | _ => (.nop, 1, 0, 0, 0, [])
def kt_X_drop : Nat → kx_E
  | 0 => (.iload_n 1, 1, 1, 0, 0, [])
  | 1 => (.invokestatic 71, 4, 110, 1, 0, [])
  | 4 => (.ifCond .ne 6, 7, 10, 0, 0, [])
  | 7 => (.ldc 79, 9, 0, 0, (-1000001), [])
  | 9 => (.ireturn, 10, 0, 0, 0, [])
  | 10 => (.aload_n 0, 11, 0, 0, 0, [])
  | 11 => (.getfield 11, 14, 6, 1, 0, [])
  | 14 => (.iload_n 1, 15, 1, 0, 0, [])
  | 15 => (.aaload, 16, 0, 0, 0, [])
  | 16 => (.invokevirtual 99, 19, 31, 1, 0, [3])
  | 19 => (.ifCond .eq 9, 22, 28, 0, 0, [])
  | 22 => (.aload_n 0, 23, 0, 0, 0, [])
  | 23 => (.iconst 1, 24, 0, 0, 1, [])
  | 24 => (.invokevirtual 80, 27, 105, 2, 0, [6])
  | 27 => (.ireturn, 28, 0, 0, 0, [])
  | 28 => (.aload_n 0, 29, 0, 0, 0, [])
  | 29 => (.aload_n 0, 30, 0, 0, 0, [])
  | 30 => (.getfield 11, 33, 6, 1, 0, [])
  | 33 => (.iload_n 1, 34, 1, 0, 0, [])
  | 34 => (.aaload, 35, 0, 0, 0, [])
  | 35 => (.invokevirtual 120, 38, 33, 1, 0, [3])
  | 38 => (.invokevirtual 88, 41, 106, 2, 0, [6])
  | 41 => (.ireturn, 42, 0, 0, 0, [])
  | _ => (.nop, 1, 0, 0, 0, [])
def kt_X_feed : Nat → kx_E
  | 0 => (.iload_n 1, 1, 1, 0, 0, [])
  | 1 => (.iconst 0, 2, 0, 0, 0, [])
  | 2 => (.sipush 255, 5, 0, 0, 255, [])
  | 5 => (.invokestatic 75, 8, 113, 3, 0, [])
  | 8 => (.ifCond .ne 6, 11, 14, 0, 0, [])
  | 11 => (.ldc 79, 13, 0, 0, (-1000001), [])
  | 13 => (.ireturn, 14, 0, 0, 0, [])
  | 14 => (.aload_n 0, 15, 0, 0, 0, [])
  | 15 => (.getfield 19, 18, 6, 1, 1, [])
  | 18 => (.invokevirtual 124, 21, 38, 1, 0, [4])
  | 21 => (.ifCond .eq 6, 24, 27, 0, 0, [])
  | 24 => (.ldc 127, 26, 0, 0, (-1000003), [])
  | 26 => (.ireturn, 27, 0, 0, 0, [])
  | 27 => (.aload_n 0, 28, 0, 0, 0, [])
  | 28 => (.getfield 19, 31, 6, 1, 1, [])
  | 31 => (.iload_n 1, 32, 1, 0, 0, [])
  | 32 => (.invokevirtual 128, 35, 39, 2, 0, [4])
  | 35 => (.ireturn, 36, 0, 0, 0, [])
  | _ => (.nop, 1, 0, 0, 0, [])
def kt_X_town : Nat → kx_E
  | 0 => (.aload_n 0, 1, 0, 0, 0, [])
  | 1 => (.getfield 19, 4, 6, 1, 1, [])
  | 4 => (.aload_n 0, 5, 0, 0, 0, [])
  | 5 => (.getfield 26, 8, 6, 1, 2, [])
  | 8 => (.invokevirtual 131, 11, 41, 2, 0, [4])
  | 11 => (.istore_n 1, 12, 1, 0, 0, [])
  | 12 => (.aload_n 0, 13, 0, 0, 0, [])
  | 13 => (.getfield 19, 16, 6, 1, 1, [])
  | 16 => (.invokevirtual 135, 19, 40, 1, 0, [4])
  | 19 => (.iload_n 1, 20, 1, 0, 0, [])
  | 20 => (.ifCond .ne 25, 23, 45, 0, 0, [])
  | 23 => (.aload_n 0, 24, 0, 0, 0, [])
  | 24 => (.aload_n 0, 25, 0, 0, 0, [])
  | 25 => (.getfield 19, 28, 6, 1, 1, [])
  | 28 => (.getfield 138, 31, 4, 0, 2, [])
  | 31 => (.putfield 64, 34, 6, 0, 9, [])
  | 34 => (.ldc 139, 36, 0, 0, (-1000100), [])
  | 36 => (.aload_n 0, 37, 0, 0, 0, [])
  | 37 => (.getfield 19, 40, 6, 1, 1, [])
  | 40 => (.getfield 140, 43, 4, 0, 3, [])
  | 43 => (.isub, 44, 0, 0, 0, [])
  | 44 => (.ireturn, 45, 0, 0, 0, [])
  | 45 => (.aload_n 0, 46, 0, 0, 0, [])
  | 46 => (.getfield 30, 49, 6, 1, 3, [])
  | 49 => (.aload_n 0, 50, 0, 0, 0, [])
  | 50 => (.getfield 26, 53, 6, 1, 2, [])
  | 53 => (.invokevirtual 143, 56, 54, 2, 0, [5])
  | 56 => (.aload_n 0, 57, 0, 0, 0, [])
  | 57 => (.getfield 36, 60, 6, 1, 4, [])
  | 60 => (.invokevirtual 146, 63, 1, 1, 0, [0])
  | 63 => (.aload_n 0, 64, 0, 0, 0, [])
  | 64 => (.getfield 30, 67, 6, 1, 3, [])
  | 67 => (.getfield 149, 70, 5, 0, 8, [])
  | 70 => (.ireturn, 71, 0, 0, 0, [])
  | _ => (.nop, 1, 0, 0, 0, [])
def kt_X_fault : Nat → kx_E
  | 0 => (.aload_n 0, 1, 0, 0, 0, [])
  | 1 => (.getfield 64, 4, 6, 0, 9, [])
  | 4 => (.ireturn, 5, 0, 0, 0, [])
  | _ => (.nop, 1, 0, 0, 0, [])
def kt_X_steps : Nat → kx_E
  | 0 => (.aload_n 0, 1, 0, 0, 0, [])
  | 1 => (.invokevirtual 152, 4, 109, 1, 0, [6])
  | 4 => (.ifCond .eq 6, 7, 10, 0, 0, [])
  | 7 => (.ldc 155, 9, 0, 0, (-1000002), [])
  | 9 => (.ireturn, 10, 0, 0, 0, [])
  | 10 => (.iload_n 1, 11, 1, 0, 0, [])
  | 11 => (.iconst 1, 12, 0, 0, 1, [])
  | 12 => (.bipush 20, 14, 0, 0, 20, [])
  | 14 => (.invokestatic 75, 17, 113, 3, 0, [])
  | 17 => (.ifCond .ne 6, 20, 23, 0, 0, [])
  | 20 => (.ldc 79, 22, 0, 0, (-1000001), [])
  | 22 => (.ireturn, 23, 0, 0, 0, [])
  | 23 => (.aload_n 0, 24, 0, 0, 0, [])
  | 24 => (.getfield 30, 27, 6, 1, 3, [])
  | 27 => (.getfield 156, 30, 5, 0, 13, [])
  | 30 => (.iload_n 1, 31, 1, 0, 0, [])
  | 31 => (.iadd, 32, 0, 0, 0, [])
  | 32 => (.sipush 999, 35, 0, 0, 999, [])
  | 35 => (.if_icmp .le 6, 38, 41, 0, 0, [])
  | 38 => (.ldc 127, 40, 0, 0, (-1000003), [])
  | 40 => (.ireturn, 41, 0, 0, 0, [])
  | 41 => (.iconst 0, 42, 0, 0, 0, [])
  | 42 => (.istore_n 2, 43, 2, 0, 0, [])
  | 43 => (.iload_n 2, 44, 2, 0, 0, [])
  | 44 => (.iload_n 1, 45, 1, 0, 0, [])
  | 45 => (.if_icmp .ge 44, 48, 89, 0, 0, [])
  | 48 => (.aload_n 0, 49, 0, 0, 0, [])
  | 49 => (.getfield 30, 52, 6, 1, 3, [])
  | 52 => (.getfield 159, 55, 5, 0, 11, [])
  | 55 => (.istore_n 3, 56, 3, 0, 0, [])
  | 56 => (.aload_n 0, 57, 0, 0, 0, [])
  | 57 => (.getfield 30, 60, 6, 1, 3, [])
  | 60 => (.getfield 162, 63, 5, 0, 12, [])
  | 63 => (.istore 4, 65, 4, 0, 0, [])
  | 65 => (.aload_n 0, 66, 0, 0, 0, [])
  | 66 => (.getfield 36, 69, 6, 1, 4, [])
  | 69 => (.iconst 0, 70, 0, 0, 0, [])
  | 70 => (.iload_n 3, 71, 3, 0, 0, [])
  | 71 => (.iload 4, 73, 4, 0, 0, [])
  | 73 => (.aload_n 0, 74, 0, 0, 0, [])
  | 74 => (.getfield 30, 77, 6, 1, 3, [])
  | 77 => (.invokevirtual 165, 80, 61, 1, 0, [5])
  | 80 => (.invokevirtual 168, 83, 2, 5, 0, [0])
  | 83 => (.iinc 2 1, 86, 2, 0, 1, [])
  | 86 => (.goto (-43), 89, 43, 0, 0, [])
  | 89 => (.aload_n 0, 90, 0, 0, 0, [])
  | 90 => (.getfield 30, 93, 6, 1, 3, [])
  | 93 => (.getfield 159, 96, 5, 0, 11, [])
  | 96 => (.ireturn, 97, 0, 0, 0, [])
  | _ => (.nop, 1, 0, 0, 0, [])
def kt_X_wind : Nat → kx_E
  | 0 => (.aload_n 0, 1, 0, 0, 0, [])
  | 1 => (.invokevirtual 152, 4, 109, 1, 0, [6])
  | 4 => (.ifCond .eq 6, 7, 10, 0, 0, [])
  | 7 => (.ldc 155, 9, 0, 0, (-1000002), [])
  | 9 => (.ireturn, 10, 0, 0, 0, [])
  | 10 => (.iload_n 1, 11, 1, 0, 0, [])
  | 11 => (.iconst 0, 12, 0, 0, 0, [])
  | 12 => (.iconst 5, 13, 0, 0, 5, [])
  | 13 => (.invokestatic 75, 16, 113, 3, 0, [])
  | 16 => (.ifCond .ne 6, 19, 22, 0, 0, [])
  | 19 => (.ldc 79, 21, 0, 0, (-1000001), [])
  | 21 => (.ireturn, 22, 0, 0, 0, [])
  | 22 => (.aload_n 0, 23, 0, 0, 0, [])
  | 23 => (.getfield 30, 26, 6, 1, 3, [])
  | 26 => (.getfield 172, 29, 5, 0, 10, [])
  | 29 => (.istore_n 2, 30, 2, 0, 0, [])
  | 30 => (.aload_n 0, 31, 0, 0, 0, [])
  | 31 => (.getfield 36, 34, 6, 1, 4, [])
  | 34 => (.iconst 1, 35, 0, 0, 1, [])
  | 35 => (.aload_n 0, 36, 0, 0, 0, [])
  | 36 => (.getfield 30, 39, 6, 1, 3, [])
  | 39 => (.getfield 159, 42, 5, 0, 11, [])
  | 42 => (.aload_n 0, 43, 0, 0, 0, [])
  | 43 => (.getfield 30, 46, 6, 1, 3, [])
  | 46 => (.getfield 162, 49, 5, 0, 12, [])
  | 49 => (.iload_n 2, 50, 2, 0, 0, [])
  | 50 => (.invokevirtual 168, 53, 2, 5, 0, [0])
  | 53 => (.aload_n 0, 54, 0, 0, 0, [])
  | 54 => (.getfield 30, 57, 6, 1, 3, [])
  | 57 => (.iload_n 1, 58, 1, 0, 0, [])
  | 58 => (.putfield 172, 61, 5, 0, 10, [])
  | 61 => (.iload_n 2, 62, 2, 0, 0, [])
  | 62 => (.ireturn, 63, 0, 0, 0, [])
  | _ => (.nop, 1, 0, 0, 0, [])
def kt_X_give : Nat → kx_E
  | 0 => (.aload_n 0, 1, 0, 0, 0, [])
  | 1 => (.getfield 30, 4, 6, 1, 3, [])
  | 4 => (.iload_n 1, 5, 1, 0, 0, [])
  | 5 => (.invokevirtual 175, 8, 57, 2, 0, [5])
  | 8 => (.ifCond .ne 6, 11, 14, 0, 0, [])
  | 11 => (.ldc 79, 13, 0, 0, (-1000001), [])
  | 13 => (.ireturn, 14, 0, 0, 0, [])
  | 14 => (.aload_n 0, 15, 0, 0, 0, [])
  | 15 => (.getfield 30, 18, 6, 1, 3, [])
  | 18 => (.getfield 159, 21, 5, 0, 11, [])
  | 21 => (.istore_n 2, 22, 2, 0, 0, [])
  | 22 => (.aload_n 0, 23, 0, 0, 0, [])
  | 23 => (.getfield 36, 26, 6, 1, 4, [])
  | 26 => (.iconst 2, 27, 0, 0, 2, [])
  | 27 => (.iload_n 2, 28, 2, 0, 0, [])
  | 28 => (.aload_n 0, 29, 0, 0, 0, [])
  | 29 => (.getfield 30, 32, 6, 1, 3, [])
  | 32 => (.getfield 162, 35, 5, 0, 12, [])
  | 35 => (.iload_n 1, 36, 1, 0, 0, [])
  | 36 => (.invokevirtual 168, 39, 2, 5, 0, [0])
  | 39 => (.aload_n 0, 40, 0, 0, 0, [])
  | 40 => (.getfield 30, 43, 6, 1, 3, [])
  | 43 => (.iload_n 1, 44, 1, 0, 0, [])
  | 44 => (.invokevirtual 178, 47, 60, 2, 0, [5])
  | 47 => (.iload_n 2, 48, 2, 0, 0, [])
  | 48 => (.ireturn, 49, 0, 0, 0, [])
  | _ => (.nop, 1, 0, 0, 0, [])
def kt_X_order : Nat → kx_E
  | 0 => (.aload_n 0, 1, 0, 0, 0, [])
  | 1 => (.invokevirtual 152, 4, 109, 1, 0, [6])
  | 4 => (.ifCond .eq 6, 7, 10, 0, 0, [])
  | 7 => (.ldc 155, 9, 0, 0, (-1000002), [])
  | 9 => (.ireturn, 10, 0, 0, 0, [])
  | 10 => (.iload_n 1, 11, 1, 0, 0, [])
  | 11 => (.iconst 1, 12, 0, 0, 1, [])
  | 12 => (.bipush 40, 14, 0, 0, 40, [])
  | 14 => (.invokestatic 75, 17, 113, 3, 0, [])
  | 17 => (.ifCond .ne 6, 20, 23, 0, 0, [])
  | 20 => (.ldc 79, 22, 0, 0, (-1000001), [])
  | 22 => (.ireturn, 23, 0, 0, 0, [])
  | 23 => (.aload_n 0, 24, 0, 0, 0, [])
  | 24 => (.getfield 30, 27, 6, 1, 3, [])
  | 27 => (.getfield 182, 30, 5, 0, 9, [])
  | 30 => (.iconst 4, 31, 0, 0, 4, [])
  | 31 => (.if_icmp .lt 6, 34, 37, 0, 0, [])
  | 34 => (.ldc 127, 36, 0, 0, (-1000003), [])
  | 36 => (.ireturn, 37, 0, 0, 0, [])
  | 37 => (.aload_n 0, 38, 0, 0, 0, [])
  | 38 => (.getfield 30, 41, 6, 1, 3, [])
  | 41 => (.iload_n 1, 42, 1, 0, 0, [])
  | 42 => (.invokevirtual 185, 45, 56, 2, 0, [5])
  | 45 => (.istore_n 2, 46, 2, 0, 0, [])
  | 46 => (.aload_n 0, 47, 0, 0, 0, [])
  | 47 => (.getfield 36, 50, 6, 1, 4, [])
  | 50 => (.iconst 3, 51, 0, 0, 3, [])
  | 51 => (.aload_n 0, 52, 0, 0, 0, [])
  | 52 => (.getfield 30, 55, 6, 1, 3, [])
  | 55 => (.getfield 159, 58, 5, 0, 11, [])
  | 58 => (.aload_n 0, 59, 0, 0, 0, [])
  | 59 => (.getfield 30, 62, 6, 1, 3, [])
  | 62 => (.getfield 162, 65, 5, 0, 12, [])
  | 65 => (.iload_n 2, 66, 2, 0, 0, [])
  | 66 => (.invokevirtual 168, 69, 2, 5, 0, [0])
  | 69 => (.iload_n 2, 70, 2, 0, 0, [])
  | 70 => (.ireturn, 71, 0, 0, 0, [])
  | _ => (.nop, 1, 0, 0, 0, [])
def kt_X_back : Nat → kx_E
  | 0 => (.aload_n 0, 1, 0, 0, 0, [])
  | 1 => (.getfield 30, 4, 6, 1, 3, [])
  | 4 => (.iload_n 1, 5, 1, 0, 0, [])
  | 5 => (.invokevirtual 188, 8, 58, 2, 0, [5])
  | 8 => (.ifCond .ne 6, 11, 14, 0, 0, [])
  | 11 => (.ldc 79, 13, 0, 0, (-1000001), [])
  | 13 => (.ireturn, 14, 0, 0, 0, [])
  | 14 => (.aload_n 0, 15, 0, 0, 0, [])
  | 15 => (.getfield 30, 18, 6, 1, 3, [])
  | 18 => (.getfield 191, 21, 5, 1, 6, [])
  | 21 => (.iload_n 1, 22, 1, 0, 0, [])
  | 22 => (.iaload, 23, 0, 0, 0, [])
  | 23 => (.ifCond .eq 6, 26, 29, 0, 0, [])
  | 26 => (.ldc 155, 28, 0, 0, (-1000002), [])
  | 28 => (.ireturn, 29, 0, 0, 0, [])
  | 29 => (.aload_n 0, 30, 0, 0, 0, [])
  | 30 => (.getfield 36, 33, 6, 1, 4, [])
  | 33 => (.iconst 4, 34, 0, 0, 4, [])
  | 34 => (.aload_n 0, 35, 0, 0, 0, [])
  | 35 => (.getfield 30, 38, 6, 1, 3, [])
  | 38 => (.getfield 159, 41, 5, 0, 11, [])
  | 41 => (.aload_n 0, 42, 0, 0, 0, [])
  | 42 => (.getfield 30, 45, 6, 1, 3, [])
  | 45 => (.getfield 162, 48, 5, 0, 12, [])
  | 48 => (.iload_n 1, 49, 1, 0, 0, [])
  | 49 => (.invokevirtual 168, 52, 2, 5, 0, [0])
  | 52 => (.aload_n 0, 53, 0, 0, 0, [])
  | 53 => (.getfield 30, 56, 6, 1, 3, [])
  | 56 => (.getfield 191, 59, 5, 1, 6, [])
  | 59 => (.iload_n 1, 60, 1, 0, 0, [])
  | 60 => (.iconst 2, 61, 0, 0, 2, [])
  | 61 => (.iastore, 62, 0, 0, 0, [])
  | 62 => (.aload_n 0, 63, 0, 0, 0, [])
  | 63 => (.getfield 30, 66, 6, 1, 3, [])
  | 66 => (.getfield 194, 69, 5, 1, 5, [])
  | 69 => (.iload_n 1, 70, 1, 0, 0, [])
  | 70 => (.iaload, 71, 0, 0, 0, [])
  | 71 => (.ireturn, 72, 0, 0, 0, [])
  | _ => (.nop, 1, 0, 0, 0, [])
def kt_X_undo : Nat → kx_E
  | 0 => (.aload_n 0, 1, 0, 0, 0, [])
  | 1 => (.getfield 36, 4, 6, 1, 4, [])
  | 4 => (.getfield 197, 7, 0, 0, 5, [])
  | 7 => (.ifCond .ne 6, 10, 13, 0, 0, [])
  | 10 => (.ldc 155, 12, 0, 0, (-1000002), [])
  | 12 => (.ireturn, 13, 0, 0, 0, [])
  | 13 => (.aload_n 0, 14, 0, 0, 0, [])
  | 14 => (.getfield 36, 17, 6, 1, 4, [])
  | 17 => (.aload_n 0, 18, 0, 0, 0, [])
  | 18 => (.getfield 30, 21, 6, 1, 3, [])
  | 21 => (.invokevirtual 200, 24, 3, 2, 0, [0])
  | 24 => (.aload_n 0, 25, 0, 0, 0, [])
  | 25 => (.getfield 36, 28, 6, 1, 4, [])
  | 28 => (.getfield 197, 31, 0, 0, 5, [])
  | 31 => (.ireturn, 32, 0, 0, 0, [])
  | _ => (.nop, 1, 0, 0, 0, [])
def kt_X_head : Nat → kx_E
  | 0 => (.aload_n 0, 1, 0, 0, 0, [])
  | 1 => (.getfield 30, 4, 6, 1, 3, [])
  | 4 => (.iload_n 1, 5, 1, 0, 0, [])
  | 5 => (.invokevirtual 175, 8, 57, 2, 0, [5])
  | 8 => (.ifCond .ne 6, 11, 14, 0, 0, [])
  | 11 => (.ldc 79, 13, 0, 0, (-1000001), [])
  | 13 => (.ireturn, 14, 0, 0, 0, [])
  | 14 => (.iload_n 2, 15, 2, 0, 0, [])
  | 15 => (.tableswitch 76 0 3 #[29, 39, 49, 66], 44, 91, 0, 0, [44, 54, 64, 81])
  | 44 => (.aload_n 0, 45, 0, 0, 0, [])
  | 45 => (.getfield 30, 48, 6, 1, 3, [])
  | 48 => (.getfield 203, 51, 5, 1, 1, [])
  | 51 => (.iload_n 1, 52, 1, 0, 0, [])
  | 52 => (.iaload, 53, 0, 0, 0, [])
  | 53 => (.ireturn, 54, 0, 0, 0, [])
  | 54 => (.aload_n 0, 55, 0, 0, 0, [])
  | 55 => (.getfield 30, 58, 6, 1, 3, [])
  | 58 => (.getfield 206, 61, 5, 1, 2, [])
  | 61 => (.iload_n 1, 62, 1, 0, 0, [])
  | 62 => (.iaload, 63, 0, 0, 0, [])
  | 63 => (.ireturn, 64, 0, 0, 0, [])
  | 64 => (.aload_n 0, 65, 0, 0, 0, [])
  | 65 => (.getfield 30, 68, 6, 1, 3, [])
  | 68 => (.getfield 159, 71, 5, 0, 11, [])
  | 71 => (.iload_n 1, 72, 1, 0, 0, [])
  | 72 => (.if_icmp .ne 7, 75, 79, 0, 0, [])
  | 75 => (.iconst 1, 76, 0, 0, 1, [])
  | 76 => (.goto 4, 79, 80, 0, 0, [])
  | 79 => (.iconst 0, 80, 0, 0, 0, [])
  | 80 => (.ireturn, 81, 0, 0, 0, [])
  | 81 => (.aload_n 0, 82, 0, 0, 0, [])
  | 82 => (.getfield 30, 85, 6, 1, 3, [])
  | 85 => (.getfield 209, 88, 5, 1, 3, [])
  | 88 => (.iload_n 1, 89, 1, 0, 0, [])
  | 89 => (.iaload, 90, 0, 0, 0, [])
  | 90 => (.ireturn, 91, 0, 0, 0, [])
  | 91 => (.ldc 79, 93, 0, 0, (-1000001), [])
  | 93 => (.ireturn, 94, 0, 0, 0, [])
  | _ => (.nop, 1, 0, 0, 0, [])
def kt_X_orderHas : Nat → kx_E
  | 0 => (.aload_n 0, 1, 0, 0, 0, [])
  | 1 => (.getfield 30, 4, 6, 1, 3, [])
  | 4 => (.iload_n 1, 5, 1, 0, 0, [])
  | 5 => (.invokevirtual 188, 8, 58, 2, 0, [5])
  | 8 => (.ifCond .ne 6, 11, 14, 0, 0, [])
  | 11 => (.ldc 79, 13, 0, 0, (-1000001), [])
  | 13 => (.ireturn, 14, 0, 0, 0, [])
  | 14 => (.iload_n 2, 15, 2, 0, 0, [])
  | 15 => (.tableswitch 55 0 2 #[25, 35, 45], 40, 70, 0, 0, [40, 50, 60])
  | 40 => (.aload_n 0, 41, 0, 0, 0, [])
  | 41 => (.getfield 30, 44, 6, 1, 3, [])
  | 44 => (.getfield 212, 47, 5, 1, 4, [])
  | 47 => (.iload_n 1, 48, 1, 0, 0, [])
  | 48 => (.iaload, 49, 0, 0, 0, [])
  | 49 => (.ireturn, 50, 0, 0, 0, [])
  | 50 => (.aload_n 0, 51, 0, 0, 0, [])
  | 51 => (.getfield 30, 54, 6, 1, 3, [])
  | 54 => (.getfield 194, 57, 5, 1, 5, [])
  | 57 => (.iload_n 1, 58, 1, 0, 0, [])
  | 58 => (.iaload, 59, 0, 0, 0, [])
  | 59 => (.ireturn, 60, 0, 0, 0, [])
  | 60 => (.aload_n 0, 61, 0, 0, 0, [])
  | 61 => (.getfield 30, 64, 6, 1, 3, [])
  | 64 => (.getfield 191, 67, 5, 1, 6, [])
  | 67 => (.iload_n 1, 68, 1, 0, 0, [])
  | 68 => (.iaload, 69, 0, 0, 0, [])
  | 69 => (.ireturn, 70, 0, 0, 0, [])
  | 70 => (.ldc 79, 72, 0, 0, (-1000001), [])
  | 72 => (.ireturn, 73, 0, 0, 0, [])
  | _ => (.nop, 1, 0, 0, 0, [])
def kt_X_hat : Nat → kx_E
  | 0 => (.aload_n 0, 1, 0, 0, 0, [])
  | 1 => (.invokevirtual 152, 4, 109, 1, 0, [6])
  | 4 => (.ifCond .eq 6, 7, 10, 0, 0, [])
  | 7 => (.ldc 155, 9, 0, 0, (-1000002), [])
  | 9 => (.ireturn, 10, 0, 0, 0, [])
  | 10 => (.iload_n 1, 11, 1, 0, 0, [])
  | 11 => (.tableswitch 61 0 3 #[29, 37, 45, 53], 40, 72, 0, 0, [40, 48, 56, 64])
  | 40 => (.aload_n 0, 41, 0, 0, 0, [])
  | 41 => (.getfield 30, 44, 6, 1, 3, [])
  | 44 => (.getfield 159, 47, 5, 0, 11, [])
  | 47 => (.ireturn, 48, 0, 0, 0, [])
  | 48 => (.aload_n 0, 49, 0, 0, 0, [])
  | 49 => (.getfield 30, 52, 6, 1, 3, [])
  | 52 => (.getfield 162, 55, 5, 0, 12, [])
  | 55 => (.ireturn, 56, 0, 0, 0, [])
  | 56 => (.aload_n 0, 57, 0, 0, 0, [])
  | 57 => (.getfield 30, 60, 6, 1, 3, [])
  | 60 => (.getfield 172, 63, 5, 0, 10, [])
  | 63 => (.ireturn, 64, 0, 0, 0, [])
  | 64 => (.aload_n 0, 65, 0, 0, 0, [])
  | 65 => (.getfield 30, 68, 6, 1, 3, [])
  | 68 => (.getfield 156, 71, 5, 0, 13, [])
  | 71 => (.ireturn, 72, 0, 0, 0, [])
  | 72 => (.ldc 79, 74, 0, 0, (-1000001), [])
  | 74 => (.ireturn, 75, 0, 0, 0, [])
  | _ => (.nop, 1, 0, 0, 0, [])
def kt_X_who : Nat → kx_E
  | 0 => (.aload_n 0, 1, 0, 0, 0, [])
  | 1 => (.invokevirtual 152, 4, 109, 1, 0, [6])
  | 4 => (.ifCond .eq 6, 7, 10, 0, 0, [])
  | 7 => (.ldc 155, 9, 0, 0, (-1000002), [])
  | 9 => (.ireturn, 10, 0, 0, 0, [])
  | 10 => (.iload_n 1, 11, 1, 0, 0, [])
  | 11 => (.invokestatic 215, 14, 112, 1, 0, [])
  | 14 => (.ifCond .eq 14, 17, 28, 0, 0, [])
  | 17 => (.aload_n 0, 18, 0, 0, 0, [])
  | 18 => (.getfield 45, 21, 6, 1, 5, [])
  | 21 => (.iload_n 1, 22, 1, 0, 0, [])
  | 22 => (.invokevirtual 218, 25, 11, 2, 0, [2])
  | 25 => (.goto 5, 28, 30, 0, 0, [])
  | 28 => (.ldc 79, 30, 0, 0, (-1000001), [])
  | 30 => (.ireturn, 31, 0, 0, 0, [])
  | _ => (.nop, 1, 0, 0, 0, [])
def kt_X_gets : Nat → kx_E
  | 0 => (.aload_n 0, 1, 0, 0, 0, [])
  | 1 => (.getfield 30, 4, 6, 1, 3, [])
  | 4 => (.iload_n 1, 5, 1, 0, 0, [])
  | 5 => (.invokevirtual 175, 8, 57, 2, 0, [5])
  | 8 => (.ifCond .eq 14, 11, 22, 0, 0, [])
  | 11 => (.aload_n 0, 12, 0, 0, 0, [])
  | 12 => (.getfield 45, 15, 6, 1, 5, [])
  | 15 => (.iload_n 1, 16, 1, 0, 0, [])
  | 16 => (.invokevirtual 221, 19, 12, 2, 0, [2])
  | 19 => (.goto 5, 22, 24, 0, 0, [])
  | 22 => (.ldc 79, 24, 0, 0, (-1000001), [])
  | 24 => (.ireturn, 25, 0, 0, 0, [])
  | _ => (.nop, 1, 0, 0, 0, [])
def kt_X_ever : Nat → kx_E
  | 0 => (.aload_n 0, 1, 0, 0, 0, [])
  | 1 => (.invokevirtual 152, 4, 109, 1, 0, [6])
  | 4 => (.ifCond .eq 6, 7, 10, 0, 0, [])
  | 7 => (.ldc 155, 9, 0, 0, (-1000002), [])
  | 9 => (.ireturn, 10, 0, 0, 0, [])
  | 10 => (.iload_n 1, 11, 1, 0, 0, [])
  | 11 => (.invokestatic 215, 14, 112, 1, 0, [])
  | 14 => (.ifCond .eq 14, 17, 28, 0, 0, [])
  | 17 => (.aload_n 0, 18, 0, 0, 0, [])
  | 18 => (.getfield 45, 21, 6, 1, 5, [])
  | 21 => (.iload_n 1, 22, 1, 0, 0, [])
  | 22 => (.invokevirtual 224, 25, 13, 2, 0, [2])
  | 25 => (.goto 5, 28, 30, 0, 0, [])
  | 28 => (.ldc 79, 30, 0, 0, (-1000001), [])
  | 30 => (.ireturn, 31, 0, 0, 0, [])
  | _ => (.nop, 1, 0, 0, 0, [])
def kt_X_round : Nat → kx_E
  | 0 => (.aload_n 0, 1, 0, 0, 0, [])
  | 1 => (.invokevirtual 152, 4, 109, 1, 0, [6])
  | 4 => (.ifCond .eq 6, 7, 10, 0, 0, [])
  | 7 => (.ldc 155, 9, 0, 0, (-1000002), [])
  | 9 => (.ireturn, 10, 0, 0, 0, [])
  | 10 => (.iload_n 1, 11, 1, 0, 0, [])
  | 11 => (.iconst 0, 12, 0, 0, 0, [])
  | 12 => (.iconst 1, 13, 0, 0, 1, [])
  | 13 => (.invokestatic 75, 16, 113, 3, 0, [])
  | 16 => (.ifCond .eq 14, 19, 30, 0, 0, [])
  | 19 => (.aload_n 0, 20, 0, 0, 0, [])
  | 20 => (.getfield 45, 23, 6, 1, 5, [])
  | 23 => (.iload_n 1, 24, 1, 0, 0, [])
  | 24 => (.invokevirtual 227, 27, 14, 2, 0, [2])
  | 27 => (.goto 5, 30, 32, 0, 0, [])
  | 30 => (.ldc 79, 32, 0, 0, (-1000001), [])
  | 32 => (.ireturn, 33, 0, 0, 0, [])
  | _ => (.nop, 1, 0, 0, 0, [])
def kt_X_done : Nat → kx_E
  | 0 => (.aload_n 0, 1, 0, 0, 0, [])
  | 1 => (.getfield 30, 4, 6, 1, 3, [])
  | 4 => (.iload_n 1, 5, 1, 0, 0, [])
  | 5 => (.invokevirtual 188, 8, 58, 2, 0, [5])
  | 8 => (.ifCond .eq 14, 11, 22, 0, 0, [])
  | 11 => (.aload_n 0, 12, 0, 0, 0, [])
  | 12 => (.getfield 45, 15, 6, 1, 5, [])
  | 15 => (.iload_n 1, 16, 1, 0, 0, [])
  | 16 => (.invokevirtual 230, 19, 15, 2, 0, [2])
  | 19 => (.goto 5, 22, 24, 0, 0, [])
  | 22 => (.ldc 79, 24, 0, 0, (-1000001), [])
  | 24 => (.ireturn, 25, 0, 0, 0, [])
  | _ => (.nop, 1, 0, 0, 0, [])
def kt_X_first : Nat → kx_E
  | 0 => (.aload_n 0, 1, 0, 0, 0, [])
  | 1 => (.invokevirtual 152, 4, 109, 1, 0, [6])
  | 4 => (.ifCond .eq 8, 7, 12, 0, 0, [])
  | 7 => (.ldc 155, 9, 0, 0, (-1000002), [])
  | 9 => (.goto 10, 12, 19, 0, 0, [])
  | 12 => (.aload_n 0, 13, 0, 0, 0, [])
  | 13 => (.getfield 45, 16, 6, 1, 5, [])
  | 16 => (.invokevirtual 233, 19, 16, 1, 0, [2])
  | 19 => (.ireturn, 20, 0, 0, 0, [])
  | _ => (.nop, 1, 0, 0, 0, [])
def kt_X_by : Nat → kx_E
  | 0 => (.aload_n 0, 1, 0, 0, 0, [])
  | 1 => (.getfield 30, 4, 6, 1, 3, [])
  | 4 => (.iload_n 1, 5, 1, 0, 0, [])
  | 5 => (.invokevirtual 175, 8, 57, 2, 0, [5])
  | 8 => (.ifCond .eq 10, 11, 18, 0, 0, [])
  | 11 => (.iload_n 2, 12, 2, 0, 0, [])
  | 12 => (.invokestatic 215, 15, 112, 1, 0, [])
  | 15 => (.ifCond .ne 6, 18, 21, 0, 0, [])
  | 18 => (.ldc 79, 20, 0, 0, (-1000001), [])
  | 20 => (.ireturn, 21, 0, 0, 0, [])
  | 21 => (.aload_n 0, 22, 0, 0, 0, [])
  | 22 => (.getfield 45, 25, 6, 1, 5, [])
  | 25 => (.iload_n 1, 26, 1, 0, 0, [])
  | 26 => (.iload_n 2, 27, 2, 0, 0, [])
  | 27 => (.invokevirtual 236, 30, 17, 3, 0, [2])
  | 30 => (.ireturn, 31, 0, 0, 0, [])
  | _ => (.nop, 1, 0, 0, 0, [])
def kt_X_toGive : Nat → kx_E
  | 0 => (.aload_n 0, 1, 0, 0, 0, [])
  | 1 => (.getfield 30, 4, 6, 1, 3, [])
  | 4 => (.iload_n 1, 5, 1, 0, 0, [])
  | 5 => (.invokevirtual 188, 8, 58, 2, 0, [5])
  | 8 => (.ifCond .eq 12, 11, 20, 0, 0, [])
  | 11 => (.iload_n 2, 12, 2, 0, 0, [])
  | 12 => (.iconst 0, 13, 0, 0, 0, [])
  | 13 => (.iconst 1, 14, 0, 0, 1, [])
  | 14 => (.invokestatic 75, 17, 113, 3, 0, [])
  | 17 => (.ifCond .ne 6, 20, 23, 0, 0, [])
  | 20 => (.ldc 79, 22, 0, 0, (-1000001), [])
  | 22 => (.ireturn, 23, 0, 0, 0, [])
  | 23 => (.aload_n 0, 24, 0, 0, 0, [])
  | 24 => (.getfield 30, 27, 6, 1, 3, [])
  | 27 => (.getfield 191, 30, 5, 1, 6, [])
  | 30 => (.iload_n 1, 31, 1, 0, 0, [])
  | 31 => (.iaload, 32, 0, 0, 0, [])
  | 32 => (.ifCond .eq 6, 35, 38, 0, 0, [])
  | 35 => (.ldc 155, 37, 0, 0, (-1000002), [])
  | 37 => (.ireturn, 38, 0, 0, 0, [])
  | 38 => (.aload_n 0, 39, 0, 0, 0, [])
  | 39 => (.getfield 45, 42, 6, 1, 5, [])
  | 42 => (.iload_n 1, 43, 1, 0, 0, [])
  | 43 => (.iload_n 2, 44, 2, 0, 0, [])
  | 44 => (.invokevirtual 239, 47, 18, 3, 0, [2])
  | 47 => (.ireturn, 48, 0, 0, 0, [])
  | _ => (.nop, 1, 0, 0, 0, [])
def kt_X_winds : Nat → kx_E
  | 0 => (.aload_n 0, 1, 0, 0, 0, [])
  | 1 => (.getfield 30, 4, 6, 1, 3, [])
  | 4 => (.iload_n 1, 5, 1, 0, 0, [])
  | 5 => (.invokevirtual 175, 8, 57, 2, 0, [5])
  | 8 => (.ifCond .eq 10, 11, 18, 0, 0, [])
  | 11 => (.iload_n 2, 12, 2, 0, 0, [])
  | 12 => (.invokestatic 215, 15, 112, 1, 0, [])
  | 15 => (.ifCond .ne 6, 18, 21, 0, 0, [])
  | 18 => (.ldc 79, 20, 0, 0, (-1000001), [])
  | 20 => (.ireturn, 21, 0, 0, 0, [])
  | 21 => (.aload_n 0, 22, 0, 0, 0, [])
  | 22 => (.getfield 45, 25, 6, 1, 5, [])
  | 25 => (.iload_n 1, 26, 1, 0, 0, [])
  | 26 => (.iload_n 2, 27, 2, 0, 0, [])
  | 27 => (.invokevirtual 242, 30, 19, 3, 0, [2])
  | 30 => (.ireturn, 31, 0, 0, 0, [])
  | _ => (.nop, 1, 0, 0, 0, [])
def kt_X_lot : Nat → kx_E
  | 0 => (.aload_n 0, 1, 0, 0, 0, [])
  | 1 => (.getfield 30, 4, 6, 1, 3, [])
  | 4 => (.iload_n 1, 5, 1, 0, 0, [])
  | 5 => (.invokevirtual 175, 8, 57, 2, 0, [5])
  | 8 => (.ifCond .eq 19, 11, 27, 0, 0, [])
  | 11 => (.iload_n 2, 12, 2, 0, 0, [])
  | 12 => (.invokestatic 215, 15, 112, 1, 0, [])
  | 15 => (.ifCond .eq 12, 18, 27, 0, 0, [])
  | 18 => (.iload_n 3, 19, 3, 0, 0, [])
  | 19 => (.iconst 0, 20, 0, 0, 0, [])
  | 20 => (.iconst 1, 21, 0, 0, 1, [])
  | 21 => (.invokestatic 75, 24, 113, 3, 0, [])
  | 24 => (.ifCond .ne 6, 27, 30, 0, 0, [])
  | 27 => (.ldc 79, 29, 0, 0, (-1000001), [])
  | 29 => (.ireturn, 30, 0, 0, 0, [])
  | 30 => (.aload_n 0, 31, 0, 0, 0, [])
  | 31 => (.getfield 45, 34, 6, 1, 5, [])
  | 34 => (.iload_n 1, 35, 1, 0, 0, [])
  | 35 => (.iload_n 2, 36, 2, 0, 0, [])
  | 36 => (.invokevirtual 242, 39, 19, 3, 0, [2])
  | 39 => (.invokestatic 245, 42, 191, 1, 0, [])
  | 42 => (.istore 4, 44, 4, 0, 0, [])
  | 44 => (.bipush 6, 46, 0, 0, 6, [])
  | 46 => (.istore 5, 48, 5, 0, 0, [])
  | 48 => (.iload_n 3, 49, 3, 0, 0, [])
  | 49 => (.ifCond .ne 15, 52, 64, 0, 0, [])
  | 52 => (.iload 4, 54, 4, 0, 0, [])
  | 54 => (.iload 4, 56, 4, 0, 0, [])
  | 56 => (.iload 5, 58, 5, 0, 0, [])
  | 58 => (.invokestatic 250, 61, 114, 3, 0, [])
  | 61 => (.goto 12, 64, 73, 0, 0, [])
  | 64 => (.iload 5, 66, 5, 0, 0, [])
  | 66 => (.iload 4, 68, 4, 0, 0, [])
  | 68 => (.iload 5, 70, 5, 0, 0, [])
  | 70 => (.invokestatic 250, 73, 114, 3, 0, [])
  | 73 => (.ireturn, 74, 0, 0, 0, [])
  | _ => (.nop, 1, 0, 0, 0, [])
def kt_X_seen : Nat → kx_E
  | 0 => (.aload_n 0, 1, 0, 0, 0, [])
  | 1 => (.invokevirtual 152, 4, 109, 1, 0, [6])
  | 4 => (.ifCond .eq 6, 7, 10, 0, 0, [])
  | 7 => (.ldc 155, 9, 0, 0, (-1000002), [])
  | 9 => (.ireturn, 10, 0, 0, 0, [])
  | 10 => (.iload_n 1, 11, 1, 0, 0, [])
  | 11 => (.invokestatic 71, 14, 110, 1, 0, [])
  | 14 => (.ifCond .eq 23, 17, 37, 0, 0, [])
  | 17 => (.iload_n 3, 18, 3, 0, 0, [])
  | 18 => (.iconst 1, 19, 0, 0, 1, [])
  | 19 => (.bipush 16, 21, 0, 0, 16, [])
  | 21 => (.invokestatic 75, 24, 113, 3, 0, [])
  | 24 => (.ifCond .eq 13, 27, 37, 0, 0, [])
  | 27 => (.iload 4, 29, 4, 0, 0, [])
  | 29 => (.iconst 0, 30, 0, 0, 0, [])
  | 30 => (.iconst 1, 31, 0, 0, 1, [])
  | 31 => (.invokestatic 75, 34, 113, 3, 0, [])
  | 34 => (.ifCond .ne 6, 37, 40, 0, 0, [])
  | 37 => (.ldc 79, 39, 0, 0, (-1000001), [])
  | 39 => (.ireturn, 40, 0, 0, 0, [])
  | 40 => (.aload_n 0, 41, 0, 0, 0, [])
  | 41 => (.iload_n 1, 42, 1, 0, 0, [])
  | 42 => (.iload_n 2, 43, 2, 0, 0, [])
  | 43 => (.iload_n 3, 44, 3, 0, 0, [])
  | 44 => (.invokevirtual 91, 47, 107, 4, 0, [6])
  | 47 => (.istore 5, 49, 5, 0, 0, [])
  | 49 => (.iload 5, 51, 5, 0, 0, [])
  | 51 => (.ifCond .eq 10, 54, 61, 0, 0, [])
  | 54 => (.aload_n 0, 55, 0, 0, 0, [])
  | 55 => (.iload 5, 57, 5, 0, 0, [])
  | 57 => (.invokevirtual 80, 60, 105, 2, 0, [6])
  | 60 => (.ireturn, 61, 0, 0, 0, [])
  | 61 => (.aload_n 0, 62, 0, 0, 0, [])
  | 62 => (.aload_n 0, 63, 0, 0, 0, [])
  | 63 => (.getfield 45, 66, 6, 1, 5, [])
  | 66 => (.aload_n 0, 67, 0, 0, 0, [])
  | 67 => (.getfield 11, 70, 6, 1, 0, [])
  | 70 => (.iload_n 1, 71, 1, 0, 0, [])
  | 71 => (.aaload, 72, 0, 0, 0, [])
  | 72 => (.iload_n 2, 73, 2, 0, 0, [])
  | 73 => (.iload_n 3, 74, 3, 0, 0, [])
  | 74 => (.iload 4, 76, 4, 0, 0, [])
  | 76 => (.invokevirtual 253, 79, 20, 5, 0, [2])
  | 79 => (.invokevirtual 88, 82, 106, 2, 0, [6])
  | 82 => (.ireturn, 83, 0, 0, 0, [])
  | _ => (.nop, 1, 0, 0, 0, [])
def kt_X_keeps : Nat → kx_E
  | 0 => (.aload_n 0, 1, 0, 0, 0, [])
  | 1 => (.getfield 30, 4, 6, 1, 3, [])
  | 4 => (.iload_n 1, 5, 1, 0, 0, [])
  | 5 => (.invokevirtual 175, 8, 57, 2, 0, [5])
  | 8 => (.ifCond .eq 21, 11, 29, 0, 0, [])
  | 11 => (.iload_n 2, 12, 2, 0, 0, [])
  | 12 => (.invokestatic 71, 15, 110, 1, 0, [])
  | 15 => (.ifCond .eq 14, 18, 29, 0, 0, [])
  | 18 => (.iload 4, 20, 4, 0, 0, [])
  | 20 => (.iconst 1, 21, 0, 0, 1, [])
  | 21 => (.bipush 16, 23, 0, 0, 16, [])
  | 23 => (.invokestatic 75, 26, 113, 3, 0, [])
  | 26 => (.ifCond .ne 6, 29, 32, 0, 0, [])
  | 29 => (.ldc 79, 31, 0, 0, (-1000001), [])
  | 31 => (.ireturn, 32, 0, 0, 0, [])
  | 32 => (.aload_n 0, 33, 0, 0, 0, [])
  | 33 => (.iload_n 2, 34, 2, 0, 0, [])
  | 34 => (.iload_n 3, 35, 3, 0, 0, [])
  | 35 => (.iload 4, 37, 4, 0, 0, [])
  | 37 => (.invokevirtual 91, 40, 107, 4, 0, [6])
  | 40 => (.istore 5, 42, 5, 0, 0, [])
  | 42 => (.iload 5, 44, 5, 0, 0, [])
  | 44 => (.ifCond .eq 10, 47, 54, 0, 0, [])
  | 47 => (.aload_n 0, 48, 0, 0, 0, [])
  | 48 => (.iload 5, 50, 5, 0, 0, [])
  | 50 => (.invokevirtual 80, 53, 105, 2, 0, [6])
  | 53 => (.ireturn, 54, 0, 0, 0, [])
  | 54 => (.aload_n 0, 55, 0, 0, 0, [])
  | 55 => (.aload_n 0, 56, 0, 0, 0, [])
  | 56 => (.getfield 45, 59, 6, 1, 5, [])
  | 59 => (.iload_n 1, 60, 1, 0, 0, [])
  | 60 => (.aload_n 0, 61, 0, 0, 0, [])
  | 61 => (.getfield 11, 64, 6, 1, 0, [])
  | 64 => (.iload_n 2, 65, 2, 0, 0, [])
  | 65 => (.aaload, 66, 0, 0, 0, [])
  | 66 => (.iload_n 3, 67, 3, 0, 0, [])
  | 67 => (.iload 4, 69, 4, 0, 0, [])
  | 69 => (.invokevirtual 257, 72, 21, 5, 0, [2])
  | 72 => (.invokevirtual 88, 75, 106, 2, 0, [6])
  | 75 => (.ireturn, 76, 0, 0, 0, [])
  | _ => (.nop, 1, 0, 0, 0, [])
def kt_X_image : Nat → kx_E
  | 0 => (.iload_n 1, 1, 1, 0, 0, [])
  | 1 => (.invokestatic 261, 4, 111, 1, 0, [])
  | 4 => (.ifCond .ne 6, 7, 10, 0, 0, [])
  | 7 => (.ldc 79, 9, 0, 0, (-1000001), [])
  | 9 => (.ireturn, 10, 0, 0, 0, [])
  | 10 => (.aload_n 0, 11, 0, 0, 0, [])
  | 11 => (.invokevirtual 152, 14, 109, 1, 0, [6])
  | 14 => (.ifCond .eq 6, 17, 20, 0, 0, [])
  | 17 => (.ldc 155, 19, 0, 0, (-1000002), [])
  | 19 => (.ireturn, 20, 0, 0, 0, [])
  | 20 => (.aload_n 0, 21, 0, 0, 0, [])
  | 21 => (.getfield 56, 24, 6, 1, 7, [])
  | 24 => (.iload_n 1, 25, 1, 0, 0, [])
  | 25 => (.aaload, 26, 0, 0, 0, [])
  | 26 => (.aload_n 0, 27, 0, 0, 0, [])
  | 27 => (.getfield 30, 30, 6, 1, 3, [])
  | 30 => (.invokevirtual 143, 33, 54, 2, 0, [5])
  | 33 => (.aload_n 0, 34, 0, 0, 0, [])
  | 34 => (.getfield 60, 37, 6, 1, 8, [])
  | 37 => (.iload_n 1, 38, 1, 0, 0, [])
  | 38 => (.iconst 1, 39, 0, 0, 1, [])
  | 39 => (.bastore, 40, 0, 0, 0, [])
  | 40 => (.iconst 1, 41, 0, 0, 1, [])
  | 41 => (.ireturn, 42, 0, 0, 0, [])
  | _ => (.nop, 1, 0, 0, 0, [])
def kt_X_restore : Nat → kx_E
  | 0 => (.iload_n 1, 1, 1, 0, 0, [])
  | 1 => (.invokestatic 261, 4, 111, 1, 0, [])
  | 4 => (.ifCond .ne 6, 7, 10, 0, 0, [])
  | 7 => (.ldc 79, 9, 0, 0, (-1000001), [])
  | 9 => (.ireturn, 10, 0, 0, 0, [])
  | 10 => (.aload_n 0, 11, 0, 0, 0, [])
  | 11 => (.getfield 60, 14, 6, 1, 8, [])
  | 14 => (.iload_n 1, 15, 1, 0, 0, [])
  | 15 => (.baload, 16, 0, 0, 0, [])
  | 16 => (.ifCond .ne 6, 19, 22, 0, 0, [])
  | 19 => (.ldc 155, 21, 0, 0, (-1000002), [])
  | 21 => (.ireturn, 22, 0, 0, 0, [])
  | 22 => (.aload_n 0, 23, 0, 0, 0, [])
  | 23 => (.getfield 30, 26, 6, 1, 3, [])
  | 26 => (.aload_n 0, 27, 0, 0, 0, [])
  | 27 => (.getfield 56, 30, 6, 1, 7, [])
  | 30 => (.iload_n 1, 31, 1, 0, 0, [])
  | 31 => (.aaload, 32, 0, 0, 0, [])
  | 32 => (.invokevirtual 143, 35, 54, 2, 0, [5])
  | 35 => (.aload_n 0, 36, 0, 0, 0, [])
  | 36 => (.getfield 36, 39, 6, 1, 4, [])
  | 39 => (.invokevirtual 146, 42, 1, 1, 0, [0])
  | 42 => (.iconst 1, 43, 0, 0, 1, [])
  | 43 => (.ireturn, 44, 0, 0, 0, [])
  | _ => (.nop, 1, 0, 0, 0, [])
def kt_X_kind : Nat → kx_E
  | 0 => (.aload_n 0, 1, 0, 0, 0, [])
  | 1 => (.getfield 30, 4, 6, 1, 3, [])
  | 4 => (.iload_n 1, 5, 1, 0, 0, [])
  | 5 => (.invokevirtual 175, 8, 57, 2, 0, [5])
  | 8 => (.ifCond .eq 15, 11, 23, 0, 0, [])
  | 11 => (.aload_n 0, 12, 0, 0, 0, [])
  | 12 => (.getfield 30, 15, 6, 1, 3, [])
  | 15 => (.getfield 264, 18, 5, 1, 0, [])
  | 18 => (.iload_n 1, 19, 1, 0, 0, [])
  | 19 => (.iaload, 20, 0, 0, 0, [])
  | 20 => (.goto 5, 23, 25, 0, 0, [])
  | 23 => (.ldc 79, 25, 0, 0, (-1000001), [])
  | 25 => (.ireturn, 26, 0, 0, 0, [])
  | _ => (.nop, 1, 0, 0, 0, [])
def kt_X_as : Nat → kx_E
  | 0 => (.aload_n 0, 1, 0, 0, 0, [])
  | 1 => (.getfield 30, 4, 6, 1, 3, [])
  | 4 => (.iload_n 1, 5, 1, 0, 0, [])
  | 5 => (.invokevirtual 175, 8, 57, 2, 0, [5])
  | 8 => (.ifCond .eq 12, 11, 20, 0, 0, [])
  | 11 => (.iload_n 2, 12, 2, 0, 0, [])
  | 12 => (.iconst 0, 13, 0, 0, 0, [])
  | 13 => (.iconst 5, 14, 0, 0, 5, [])
  | 14 => (.invokestatic 75, 17, 113, 3, 0, [])
  | 17 => (.ifCond .ne 6, 20, 23, 0, 0, [])
  | 20 => (.ldc 79, 22, 0, 0, (-1000001), [])
  | 22 => (.ireturn, 23, 0, 0, 0, [])
  | 23 => (.aload_n 0, 24, 0, 0, 0, [])
  | 24 => (.getfield 30, 27, 6, 1, 3, [])
  | 27 => (.getfield 264, 30, 5, 1, 0, [])
  | 30 => (.iload_n 1, 31, 1, 0, 0, [])
  | 31 => (.iaload, 32, 0, 0, 0, [])
  | 32 => (.iload_n 2, 33, 2, 0, 0, [])
  | 33 => (.invokestatic 269, 36, 28, 2, 0, [])
  | 36 => (.ifCond .ne 9, 39, 45, 0, 0, [])
  | 39 => (.aload_n 0, 40, 0, 0, 0, [])
  | 40 => (.iconst 3, 41, 0, 0, 3, [])
  | 41 => (.invokevirtual 80, 44, 105, 2, 0, [6])
  | 44 => (.ireturn, 45, 0, 0, 0, [])
  | 45 => (.aload_n 0, 46, 0, 0, 0, [])
  | 46 => (.iload_n 1, 47, 1, 0, 0, [])
  | 47 => (.invokevirtual 88, 50, 106, 2, 0, [6])
  | 50 => (.ireturn, 51, 0, 0, 0, [])
  | _ => (.nop, 1, 0, 0, 0, [])
def kt_X_ask : Nat → kx_E
  | 0 => (.aload_n 0, 1, 0, 0, 0, [])
  | 1 => (.getfield 30, 4, 6, 1, 3, [])
  | 4 => (.iload_n 1, 5, 1, 0, 0, [])
  | 5 => (.invokevirtual 175, 8, 57, 2, 0, [5])
  | 8 => (.ifCond .eq 12, 11, 20, 0, 0, [])
  | 11 => (.iload_n 2, 12, 2, 0, 0, [])
  | 12 => (.iconst 0, 13, 0, 0, 0, [])
  | 13 => (.iconst 1, 14, 0, 0, 1, [])
  | 14 => (.invokestatic 75, 17, 113, 3, 0, [])
  | 17 => (.ifCond .ne 6, 20, 23, 0, 0, [])
  | 20 => (.ldc 79, 22, 0, 0, (-1000001), [])
  | 22 => (.ireturn, 23, 0, 0, 0, [])
  | 23 => (.aload_n 0, 24, 0, 0, 0, [])
  | 24 => (.getfield 52, 27, 6, 1, 6, [])
  | 27 => (.aload_n 0, 28, 0, 0, 0, [])
  | 28 => (.getfield 30, 31, 6, 1, 3, [])
  | 31 => (.iload_n 1, 32, 1, 0, 0, [])
  | 32 => (.iload_n 2, 33, 2, 0, 0, [])
  | 33 => (.invokevirtual 272, 36, 6, 4, 0, [1])
  | 36 => (.ireturn, 37, 0, 0, 0, [])
  | _ => (.nop, 1, 0, 0, 0, [])
def kt_X_trace : Nat → kx_E
  | 0 => (.aload_n 0, 1, 0, 0, 0, [])
  | 1 => (.getfield 52, 4, 6, 1, 6, [])
  | 4 => (.iload_n 1, 5, 1, 0, 0, [])
  | 5 => (.invokevirtual 276, 8, 5, 2, 0, [1])
  | 8 => (.ireturn, 9, 0, 0, 0, [])
  | _ => (.nop, 1, 0, 0, 0, [])
def kt_X_count : Nat → kx_E
  | 0 => (.iload_n 1, 1, 1, 0, 0, [])
  | 1 => (.tableswitch 110 0 7 #[47, 52, 60, 68, 77, 86, 94, 102], 48, 111, 0, 0, [48, 53, 61, 69, 78, 87, 95, 103])
  | 48 => (.aload_n 0, 49, 0, 0, 0, [])
  | 49 => (.invokevirtual 279, 52, 108, 1, 0, [6])
  | 52 => (.ireturn, 53, 0, 0, 0, [])
  | 53 => (.aload_n 0, 54, 0, 0, 0, [])
  | 54 => (.getfield 30, 57, 6, 1, 3, [])
  | 57 => (.getfield 149, 60, 5, 0, 8, [])
  | 60 => (.ireturn, 61, 0, 0, 0, [])
  | 61 => (.aload_n 0, 62, 0, 0, 0, [])
  | 62 => (.getfield 30, 65, 6, 1, 3, [])
  | 65 => (.getfield 182, 68, 5, 0, 9, [])
  | 68 => (.ireturn, 69, 0, 0, 0, [])
  | 69 => (.aload_n 0, 70, 0, 0, 0, [])
  | 70 => (.getfield 30, 73, 6, 1, 3, [])
  | 73 => (.iconst 0, 74, 0, 0, 0, [])
  | 74 => (.invokevirtual 282, 77, 59, 2, 0, [5])
  | 77 => (.ireturn, 78, 0, 0, 0, [])
  | 78 => (.aload_n 0, 79, 0, 0, 0, [])
  | 79 => (.getfield 30, 82, 6, 1, 3, [])
  | 82 => (.iconst 1, 83, 0, 0, 1, [])
  | 83 => (.invokevirtual 282, 86, 59, 2, 0, [5])
  | 86 => (.ireturn, 87, 0, 0, 0, [])
  | 87 => (.aload_n 0, 88, 0, 0, 0, [])
  | 88 => (.getfield 30, 91, 6, 1, 3, [])
  | 91 => (.getfield 156, 94, 5, 0, 13, [])
  | 94 => (.ireturn, 95, 0, 0, 0, [])
  | 95 => (.aload_n 0, 96, 0, 0, 0, [])
  | 96 => (.getfield 36, 99, 6, 1, 4, [])
  | 99 => (.getfield 197, 102, 0, 0, 5, [])
  | 102 => (.ireturn, 103, 0, 0, 0, [])
  | 103 => (.aload_n 0, 104, 0, 0, 0, [])
  | 104 => (.getfield 19, 107, 6, 1, 1, [])
  | 107 => (.getfield 285, 110, 4, 0, 1, [])
  | 110 => (.ireturn, 111, 0, 0, 0, [])
  | 111 => (.ldc 79, 113, 0, 0, (-1000001), [])
  | 113 => (.ireturn, 114, 0, 0, 0, [])
  | _ => (.nop, 1, 0, 0, 0, [])
def kt_X_status : Nat → kx_E
  | 0 => (.aload_n 0, 1, 0, 0, 0, [])
  | 1 => (.getfield 68, 4, 6, 0, 10, [])
  | 4 => (.ireturn, 5, 0, 0, 0, [])
  | _ => (.nop, 1, 0, 0, 0, [])
def kt_X_finding : Nat → kx_E
  | 0 => (.aload_n 0, 1, 0, 0, 0, [])
  | 1 => (.iload_n 1, 2, 1, 0, 0, [])
  | 2 => (.putfield 68, 5, 6, 0, 10, [])
  | 5 => (.ldc_w 288, 8, 0, 0, (-1000010), [])
  | 8 => (.iload_n 1, 9, 1, 0, 0, [])
  | 9 => (.isub, 10, 0, 0, 0, [])
  | 10 => (.ireturn, 11, 0, 0, 0, [])
  | _ => (.nop, 1, 0, 0, 0, [])
def kt_X_noFinding : Nat → kx_E
  | 0 => (.aload_n 0, 1, 0, 0, 0, [])
  | 1 => (.iconst 0, 2, 0, 0, 0, [])
  | 2 => (.putfield 68, 5, 6, 0, 10, [])
  | 5 => (.iload_n 1, 6, 1, 0, 0, [])
  | 6 => (.ireturn, 7, 0, 0, 0, [])
  | _ => (.nop, 1, 0, 0, 0, [])
def kt_X_findingOf : Nat → kx_E
  | 0 => (.aload_n 0, 1, 0, 0, 0, [])
  | 1 => (.getfield 11, 4, 6, 1, 0, [])
  | 4 => (.iload_n 1, 5, 1, 0, 0, [])
  | 5 => (.aaload, 6, 0, 0, 0, [])
  | 6 => (.invokevirtual 99, 9, 31, 1, 0, [3])
  | 9 => (.ifCond .eq 5, 12, 14, 0, 0, [])
  | 12 => (.iconst 1, 13, 0, 0, 1, [])
  | 13 => (.ireturn, 14, 0, 0, 0, [])
  | 14 => (.aload_n 0, 15, 0, 0, 0, [])
  | 15 => (.getfield 11, 18, 6, 1, 0, [])
  | 18 => (.iload_n 1, 19, 1, 0, 0, [])
  | 19 => (.aaload, 20, 0, 0, 0, [])
  | 20 => (.iload_n 2, 21, 2, 0, 0, [])
  | 21 => (.iload_n 3, 22, 3, 0, 0, [])
  | 22 => (.invokevirtual 106, 25, 34, 3, 0, [3])
  | 25 => (.ifCond .eq 7, 28, 32, 0, 0, [])
  | 28 => (.iconst 0, 29, 0, 0, 0, [])
  | 29 => (.goto 4, 32, 33, 0, 0, [])
  | 32 => (.iconst 2, 33, 0, 0, 2, [])
  | 33 => (.ireturn, 34, 0, 0, 0, [])
  | _ => (.nop, 1, 0, 0, 0, [])
def kt_X_rowsThere : Nat → kx_E
  | 0 => (.iconst 0, 1, 0, 0, 0, [])
  | 1 => (.istore_n 1, 2, 1, 0, 0, [])
  | 2 => (.iconst 0, 3, 0, 0, 0, [])
  | 3 => (.istore_n 2, 4, 2, 0, 0, [])
  | 4 => (.iload_n 2, 5, 2, 0, 0, [])
  | 5 => (.bipush 8, 7, 0, 0, 8, [])
  | 7 => (.if_icmp .ge 24, 10, 31, 0, 0, [])
  | 10 => (.aload_n 0, 11, 0, 0, 0, [])
  | 11 => (.getfield 11, 14, 6, 1, 0, [])
  | 14 => (.iload_n 2, 15, 2, 0, 0, [])
  | 15 => (.aaload, 16, 0, 0, 0, [])
  | 16 => (.invokevirtual 99, 19, 31, 1, 0, [3])
  | 19 => (.ifCond .ne 6, 22, 25, 0, 0, [])
  | 22 => (.iinc 1 1, 25, 1, 0, 1, [])
  | 25 => (.iinc 2 1, 28, 2, 0, 1, [])
  | 28 => (.goto (-24), 31, 4, 0, 0, [])
  | 31 => (.iload_n 1, 32, 1, 0, 0, [])
  | 32 => (.ireturn, 33, 0, 0, 0, [])
  | _ => (.nop, 1, 0, 0, 0, [])
def kt_X_isNoTown : Nat → kx_E
  | 0 => (.aload_n 0, 1, 0, 0, 0, [])
  | 1 => (.getfield 30, 4, 6, 1, 3, [])
  | 4 => (.getfield 149, 7, 5, 0, 8, [])
  | 7 => (.ifCond .ne 7, 10, 14, 0, 0, [])
  | 10 => (.iconst 1, 11, 0, 0, 1, [])
  | 11 => (.goto 4, 14, 15, 0, 0, [])
  | 14 => (.iconst 0, 15, 0, 0, 0, [])
  | 15 => (.ireturn, 16, 1, 0, 0, [])
  | _ => (.nop, 1, 0, 0, 0, [])
def kt_X_isRow : Nat → kx_E
  | 0 => (.iload_n 0, 1, 0, 0, 0, [])
  | 1 => (.iconst 0, 2, 0, 0, 0, [])
  | 2 => (.bipush 7, 4, 0, 0, 7, [])
  | 4 => (.invokestatic 75, 7, 113, 3, 0, [])
  | 7 => (.ireturn, 8, 1, 0, 0, [])
  | _ => (.nop, 1, 0, 0, 0, [])
def kt_X_isImage : Nat → kx_E
  | 0 => (.iload_n 0, 1, 0, 0, 0, [])
  | 1 => (.iconst 0, 2, 0, 0, 0, [])
  | 2 => (.iconst 1, 3, 0, 0, 1, [])
  | 3 => (.invokestatic 75, 6, 113, 3, 0, [])
  | 6 => (.ireturn, 7, 1, 0, 0, [])
  | _ => (.nop, 1, 0, 0, 0, [])
def kt_X_isSpan : Nat → kx_E
  | 0 => (.iload_n 0, 1, 0, 0, 0, [])
  | 1 => (.iconst 0, 2, 0, 0, 0, [])
  | 2 => (.bipush 60, 4, 0, 0, 60, [])
  | 4 => (.invokestatic 75, 7, 113, 3, 0, [])
  | 7 => (.ireturn, 8, 1, 0, 0, [])
  | _ => (.nop, 1, 0, 0, 0, [])
def kt_X_isBetween : Nat → kx_E
  | 0 => (.iload_n 1, 1, 1, 0, 0, [])
  | 1 => (.iload_n 0, 2, 0, 0, 0, [])
  | 2 => (.if_icmp .gt 12, 5, 14, 0, 0, [])
  | 5 => (.iload_n 0, 6, 0, 0, 0, [])
  | 6 => (.iload_n 2, 7, 2, 0, 0, [])
  | 7 => (.if_icmp .gt 7, 10, 14, 0, 0, [])
  | 10 => (.iconst 1, 11, 0, 0, 1, [])
  | 11 => (.goto 4, 14, 15, 0, 0, [])
  | 14 => (.iconst 0, 15, 0, 0, 0, [])
  | 15 => (.ireturn, 16, 1, 0, 0, [])
  | _ => (.nop, 1, 0, 0, 0, [])
def kt_X_inLowestTerms : Nat → kx_E
  | 0 => (.iload_n 2, 1, 2, 0, 0, [])
  | 1 => (.istore_n 3, 2, 3, 0, 0, [])
  | 2 => (.iload_n 3, 3, 3, 0, 0, [])
  | 3 => (.iconst 1, 4, 0, 0, 1, [])
  | 4 => (.if_icmp .le 25, 7, 29, 0, 0, [])
  | 7 => (.iload_n 1, 8, 1, 0, 0, [])
  | 8 => (.iload_n 3, 9, 3, 0, 0, [])
  | 9 => (.irem, 10, 0, 0, 0, [])
  | 10 => (.ifCond .ne 13, 13, 23, 0, 0, [])
  | 13 => (.iload_n 2, 14, 2, 0, 0, [])
  | 14 => (.iload_n 3, 15, 3, 0, 0, [])
  | 15 => (.irem, 16, 0, 0, 0, [])
  | 16 => (.ifCond .ne 7, 19, 23, 0, 0, [])
  | 19 => (.iload_n 0, 20, 0, 0, 0, [])
  | 20 => (.iload_n 3, 21, 3, 0, 0, [])
  | 21 => (.idiv, 22, 0, 0, 0, [])
  | 22 => (.ireturn, 23, 0, 0, 0, [])
  | 23 => (.iinc 3 (-1), 26, 3, 0, (-1), [])
  | 26 => (.goto (-24), 29, 2, 0, 0, [])
  | 29 => (.iload_n 0, 30, 0, 0, 0, [])
  | 30 => (.ireturn, 31, 0, 0, 0, [])
  | _ => (.nop, 1, 0, 0, 0, [])
end
section
def kt_M_init : Nat → kx_E
  | 0 => (.aload_n 0, 1, 0, 0, 0, [])
  | 1 => (.invokespecial 1, 4, 0, 0, 1, [])
  | 4 => (.aload_n 0, 5, 0, 0, 0, [])
  | 5 => (.bipush 8, 7, 0, 0, 8, [])
  | 7 => (.newarray .int, 9, 2, 0, 0, [])
  | 9 => (.putfield 7, 12, 7, 1, 0, [])
  | 12 => (.aload_n 0, 13, 0, 0, 0, [])
  | 13 => (.bipush 8, 15, 0, 0, 8, [])
  | 15 => (.newarray .int, 17, 2, 0, 0, [])
  | 17 => (.putfield 13, 20, 7, 1, 1, [])
  | 20 => (.aload_n 0, 21, 0, 0, 0, [])
  | 21 => (.sipush 320, 24, 0, 0, 320, [])
  | 24 => (.newarray .int, 26, 2, 0, 0, [])
  | 26 => (.putfield 16, 29, 7, 1, 2, [])
  | 29 => (.aload_n 0, 30, 0, 0, 0, [])
  | 30 => (.bipush 46, 32, 0, 0, 46, [])
  | 32 => (.newarray .int, 34, 2, 0, 0, [])
  | 34 => (.putfield 19, 37, 7, 1, 5, [])
  | 37 => (.aload_n 0, 38, 0, 0, 0, [])
  | 38 => (.bipush 40, 40, 0, 0, 40, [])
  | 40 => (.newarray .int, 42, 2, 0, 0, [])
  | 42 => (.putfield 22, 45, 7, 1, 6, [])
  | 45 => (.aload_n 0, 46, 0, 0, 0, [])
  | 46 => (.bipush 120, 48, 0, 0, 120, [])
  | 48 => (.newarray .int, 50, 2, 0, 0, [])
  | 50 => (.putfield 25, 53, 7, 1, 7, [])
  | 53 => (.aload_n 0, 54, 0, 0, 0, [])
  | 54 => (.bipush 46, 56, 0, 0, 46, [])
  | 56 => (.newarray .int, 58, 2, 0, 0, [])
  | 58 => (.putfield 28, 61, 7, 1, 15, [])
  | 61 => (.aload_n 0, 62, 0, 0, 0, [])
  | 62 => (.sipush 1104, 65, 0, 0, 1104, [])
  | 65 => (.newarray .int, 67, 2, 0, 0, [])
  | 67 => (.putfield 31, 70, 7, 1, 16, [])
  | 70 => (.aload_n 0, 71, 0, 0, 0, [])
  | 71 => (.bipush 46, 73, 0, 0, 46, [])
  | 73 => (.newarray .int, 75, 2, 0, 0, [])
  | 75 => (.putfield 34, 78, 7, 1, 18, [])
  | 78 => (.aload_n 0, 79, 0, 0, 0, [])
  | 79 => (.sipush 366, 82, 0, 0, 366, [])
  | 82 => (.newarray .int, 84, 2, 0, 0, [])
  | 84 => (.putfield 37, 87, 7, 1, 19, [])
  | 87 => (.aload_n 0, 88, 0, 0, 0, [])
  | 88 => (.iconst 2, 89, 0, 0, 2, [])
  | 89 => (.newarray .boolean, 91, 4, 0, 0, [])
  | 91 => (.putfield 40, 94, 7, 1, 20, [])
  | 94 => (.aload_n 0, 95, 0, 0, 0, [])
  | 95 => (.bipush 92, 97, 0, 0, 92, [])
  | 97 => (.newarray .int, 99, 2, 0, 0, [])
  | 99 => (.putfield 44, 102, 7, 1, 21, [])
  | 102 => (.aload_n 0, 103, 0, 0, 0, [])
  | 103 => (.bipush 16, 105, 0, 0, 16, [])
  | 105 => (.newarray .int, 107, 2, 0, 0, [])
  | 107 => (.putfield 47, 110, 7, 1, 22, [])
  | 110 => (.iconst 0, 111, 0, 0, 0, [])
  | 111 => (.istore_n 1, 112, 1, 0, 0, [])
  | 112 => (.iload_n 1, 113, 1, 0, 0, [])
  | 113 => (.bipush 8, 115, 0, 0, 8, [])
  | 115 => (.if_icmp .ge 16, 118, 131, 0, 0, [])
  | 118 => (.aload_n 0, 119, 0, 0, 0, [])
  | 119 => (.getfield 13, 122, 7, 1, 1, [])
  | 122 => (.iload_n 1, 123, 1, 0, 0, [])
  | 123 => (.iconst (-1), 124, 0, 0, (-1), [])
  | 124 => (.iastore, 125, 0, 0, 0, [])
  | 125 => (.iinc 1 1, 128, 1, 0, 1, [])
  | 128 => (.goto (-16), 131, 112, 0, 0, [])
  | 131 => (.return_, 132, 0, 0, 0, [])
  | _ => (.nop, 1, 0, 0, 0, [])
def kt_M_in : Nat → kx_E
  | 0 => (.lload_n 0, 1, 0, 0, 0, [])
  | 1 => (.lload_n 2, 2, 2, 0, 0, [])
  | 2 => (.lcmp, 3, 0, 0, 0, [])
  | 3 => (.ifCond .lt 14, 6, 17, 0, 0, [])
  | 6 => (.lload_n 0, 7, 0, 0, 0, [])
  | 7 => (.lload 4, 9, 4, 0, 0, [])
  | 9 => (.lcmp, 10, 0, 0, 0, [])
  | 10 => (.ifCond .gt 7, 13, 17, 0, 0, [])
  | 13 => (.iconst 1, 14, 0, 0, 1, [])
  | 14 => (.goto 4, 17, 18, 0, 0, [])
  | 17 => (.iconst 0, 18, 0, 0, 0, [])
  | 18 => (.ireturn, 19, 1, 0, 0, [])
  | _ => (.nop, 1, 0, 0, 0, [])
def kt_M_has : Nat → kx_E
  | 0 => (.iload_n 0, 1, 0, 0, 0, [])
  | 1 => (.iload_n 1, 2, 1, 0, 0, [])
  | 2 => (.ishr, 3, 0, 0, 0, [])
  | 3 => (.iconst 1, 4, 0, 0, 1, [])
  | 4 => (.iand, 5, 0, 0, 0, [])
  | 5 => (.iconst 1, 6, 0, 0, 1, [])
  | 6 => (.if_icmp .ne 7, 9, 13, 0, 0, [])
  | 9 => (.iconst 1, 10, 0, 0, 1, [])
  | 10 => (.goto 4, 13, 14, 0, 0, [])
  | 13 => (.iconst 0, 14, 0, 0, 0, [])
  | 14 => (.ireturn, 15, 1, 0, 0, [])
  | _ => (.nop, 1, 0, 0, 0, [])
def kt_M_find : Nat → kx_E
  | 0 => (.aload_n 0, 1, 0, 0, 0, [])
  | 1 => (.iload_n 1, 2, 1, 0, 0, [])
  | 2 => (.putfield 50, 5, 7, 0, 3, [])
  | 5 => (.ldc 54, 7, 0, 0, (-1000010), [])
  | 7 => (.iload_n 1, 8, 1, 0, 0, [])
  | 8 => (.isub, 9, 0, 0, 0, [])
  | 9 => (.ireturn, 10, 0, 0, 0, [])
  | _ => (.nop, 1, 0, 0, 0, [])
def kt_M_well : Nat → kx_E
  | 0 => (.aload_n 0, 1, 0, 0, 0, [])
  | 1 => (.iconst 0, 2, 0, 0, 0, [])
  | 2 => (.putfield 50, 5, 7, 0, 3, [])
  | 5 => (.iload_n 1, 6, 1, 0, 0, [])
  | 6 => (.ireturn, 7, 0, 0, 0, [])
  | _ => (.nop, 1, 0, 0, 0, [])
def kt_M_isRow : Nat → kx_E
  | 0 => (.iload_n 0, 1, 0, 0, 0, [])
  | 1 => (.i2l, 2, 0, 0, 0, [])
  | 2 => (.lconst 0, 3, 0, 0, 0, [])
  | 3 => (.ldc2_w 55, 6, 0, 0, 7, [])
  | 6 => (.invokestatic 57, 9, 116, 3, 0, [])
  | 9 => (.ireturn, 10, 1, 0, 0, [])
  | _ => (.nop, 1, 0, 0, 0, [])
def kt_M_row : Nat → kx_E
  | 0 => (.iload_n 1, 1, 1, 0, 0, [])
  | 1 => (.invokestatic 61, 4, 120, 1, 0, [])
  | 4 => (.ifCond .eq 21, 7, 25, 0, 0, [])
  | 7 => (.iload_n 2, 8, 2, 0, 0, [])
  | 8 => (.i2l, 9, 0, 0, 0, [])
  | 9 => (.lconst 0, 10, 0, 0, 0, [])
  | 10 => (.ldc2_w 65, 13, 0, 0, 2, [])
  | 13 => (.invokestatic 57, 16, 116, 3, 0, [])
  | 16 => (.ifCond .eq 9, 19, 25, 0, 0, [])
  | 19 => (.iload_n 3, 20, 3, 0, 0, [])
  | 20 => (.bipush 40, 22, 0, 0, 40, [])
  | 22 => (.if_icmp .le 6, 25, 28, 0, 0, [])
  | 25 => (.ldc 67, 27, 0, 0, (-1000001), [])
  | 27 => (.ireturn, 28, 0, 0, 0, [])
  | 28 => (.iload_n 3, 29, 3, 0, 0, [])
  | 29 => (.ifCond .ge 9, 32, 38, 0, 0, [])
  | 32 => (.aload_n 0, 33, 0, 0, 0, [])
  | 33 => (.iconst 4, 34, 0, 0, 4, [])
  | 34 => (.invokevirtual 68, 37, 118, 2, 0, [7])
  | 37 => (.ireturn, 38, 0, 0, 0, [])
  | 38 => (.aload_n 0, 39, 0, 0, 0, [])
  | 39 => (.getfield 7, 42, 7, 1, 0, [])
  | 42 => (.iload_n 1, 43, 1, 0, 0, [])
  | 43 => (.iload_n 2, 44, 2, 0, 0, [])
  | 44 => (.iastore, 45, 0, 0, 0, [])
  | 45 => (.aload_n 0, 46, 0, 0, 0, [])
  | 46 => (.getfield 13, 49, 7, 1, 1, [])
  | 49 => (.iload_n 1, 50, 1, 0, 0, [])
  | 50 => (.iload_n 3, 51, 3, 0, 0, [])
  | 51 => (.iastore, 52, 0, 0, 0, [])
  | 52 => (.iconst 0, 53, 0, 0, 0, [])
  | 53 => (.istore 4, 55, 4, 0, 0, [])
  | 55 => (.iload 4, 57, 4, 0, 0, [])
  | 57 => (.bipush 40, 59, 0, 0, 40, [])
  | 59 => (.if_icmp .ge 22, 62, 81, 0, 0, [])
  | 62 => (.aload_n 0, 63, 0, 0, 0, [])
  | 63 => (.getfield 16, 66, 7, 1, 2, [])
  | 66 => (.bipush 40, 68, 0, 0, 40, [])
  | 68 => (.iload_n 1, 69, 1, 0, 0, [])
  | 69 => (.imul, 70, 0, 0, 0, [])
  | 70 => (.iload 4, 72, 4, 0, 0, [])
  | 72 => (.iadd, 73, 0, 0, 0, [])
  | 73 => (.iconst 0, 74, 0, 0, 0, [])
  | 74 => (.iastore, 75, 0, 0, 0, [])
  | 75 => (.iinc 4 1, 78, 4, 0, 1, [])
  | 78 => (.goto (-23), 81, 55, 0, 0, [])
  | 81 => (.aload_n 0, 82, 0, 0, 0, [])
  | 82 => (.iload_n 3, 83, 3, 0, 0, [])
  | 83 => (.invokevirtual 72, 86, 119, 2, 0, [7])
  | 86 => (.ireturn, 87, 0, 0, 0, [])
  | _ => (.nop, 1, 0, 0, 0, [])
def kt_M_asLane : Nat → kx_E
  | 0 => (.iload_n 0, 1, 0, 0, 0, [])
  | 1 => (.ifCond .ne 13, 4, 14, 0, 0, [])
  | 4 => (.iload_n 1, 5, 1, 0, 0, [])
  | 5 => (.bipush 24, 7, 0, 0, 24, [])
  | 7 => (.ishl, 8, 0, 0, 0, [])
  | 8 => (.bipush 24, 10, 0, 0, 24, [])
  | 10 => (.ishr, 11, 0, 0, 0, [])
  | 11 => (.goto 19, 14, 30, 0, 0, [])
  | 14 => (.iload_n 0, 15, 0, 0, 0, [])
  | 15 => (.iconst 1, 16, 0, 0, 1, [])
  | 16 => (.if_icmp .ne 13, 19, 29, 0, 0, [])
  | 19 => (.iload_n 1, 20, 1, 0, 0, [])
  | 20 => (.bipush 16, 22, 0, 0, 16, [])
  | 22 => (.ishl, 23, 0, 0, 0, [])
  | 23 => (.bipush 16, 25, 0, 0, 16, [])
  | 25 => (.ishr, 26, 0, 0, 0, [])
  | 26 => (.goto 4, 29, 30, 0, 0, [])
  | 29 => (.iload_n 1, 30, 1, 0, 0, [])
  | 30 => (.ireturn, 31, 0, 0, 0, [])
  | _ => (.nop, 1, 0, 0, 0, [])
def kt_M_set : Nat → kx_E
  | 0 => (.iload_n 1, 1, 1, 0, 0, [])
  | 1 => (.invokestatic 61, 4, 120, 1, 0, [])
  | 4 => (.ifCond .ne 6, 7, 10, 0, 0, [])
  | 7 => (.ldc 67, 9, 0, 0, (-1000001), [])
  | 9 => (.ireturn, 10, 0, 0, 0, [])
  | 10 => (.aload_n 0, 11, 0, 0, 0, [])
  | 11 => (.getfield 13, 14, 7, 1, 1, [])
  | 14 => (.iload_n 1, 15, 1, 0, 0, [])
  | 15 => (.iaload, 16, 0, 0, 0, [])
  | 16 => (.ifCond .ge 9, 19, 25, 0, 0, [])
  | 19 => (.aload_n 0, 20, 0, 0, 0, [])
  | 20 => (.iconst 1, 21, 0, 0, 1, [])
  | 21 => (.invokevirtual 68, 24, 118, 2, 0, [7])
  | 24 => (.ireturn, 25, 0, 0, 0, [])
  | 25 => (.iload_n 2, 26, 2, 0, 0, [])
  | 26 => (.i2l, 27, 0, 0, 0, [])
  | 27 => (.lconst 0, 28, 0, 0, 0, [])
  | 28 => (.aload_n 0, 29, 0, 0, 0, [])
  | 29 => (.getfield 13, 32, 7, 1, 1, [])
  | 32 => (.iload_n 1, 33, 1, 0, 0, [])
  | 33 => (.iaload, 34, 0, 0, 0, [])
  | 34 => (.iconst 1, 35, 0, 0, 1, [])
  | 35 => (.isub, 36, 0, 0, 0, [])
  | 36 => (.i2l, 37, 0, 0, 0, [])
  | 37 => (.invokestatic 57, 40, 116, 3, 0, [])
  | 40 => (.ifCond .ne 9, 43, 49, 0, 0, [])
  | 43 => (.aload_n 0, 44, 0, 0, 0, [])
  | 44 => (.iconst 2, 45, 0, 0, 2, [])
  | 45 => (.invokevirtual 68, 48, 118, 2, 0, [7])
  | 48 => (.ireturn, 49, 0, 0, 0, [])
  | 49 => (.aload_n 0, 50, 0, 0, 0, [])
  | 50 => (.getfield 16, 53, 7, 1, 2, [])
  | 53 => (.bipush 40, 55, 0, 0, 40, [])
  | 55 => (.iload_n 1, 56, 1, 0, 0, [])
  | 56 => (.imul, 57, 0, 0, 0, [])
  | 57 => (.iload_n 2, 58, 2, 0, 0, [])
  | 58 => (.iadd, 59, 0, 0, 0, [])
  | 59 => (.aload_n 0, 60, 0, 0, 0, [])
  | 60 => (.getfield 7, 63, 7, 1, 0, [])
  | 63 => (.iload_n 1, 64, 1, 0, 0, [])
  | 64 => (.iaload, 65, 0, 0, 0, [])
  | 65 => (.iload_n 3, 66, 3, 0, 0, [])
  | 66 => (.invokestatic 75, 69, 122, 2, 0, [])
  | 69 => (.iastore, 70, 0, 0, 0, [])
  | 70 => (.aload_n 0, 71, 0, 0, 0, [])
  | 71 => (.aload_n 0, 72, 0, 0, 0, [])
  | 72 => (.getfield 16, 75, 7, 1, 2, [])
  | 75 => (.bipush 40, 77, 0, 0, 40, [])
  | 77 => (.iload_n 1, 78, 1, 0, 0, [])
  | 78 => (.imul, 79, 0, 0, 0, [])
  | 79 => (.iload_n 2, 80, 2, 0, 0, [])
  | 80 => (.iadd, 81, 0, 0, 0, [])
  | 81 => (.iaload, 82, 0, 0, 0, [])
  | 82 => (.invokevirtual 72, 85, 119, 2, 0, [7])
  | 85 => (.ireturn, 86, 0, 0, 0, [])
  | _ => (.nop, 1, 0, 0, 0, [])
def kt_M_copy : Nat → kx_E
  | 0 => (.iload_n 1, 1, 1, 0, 0, [])
  | 1 => (.invokestatic 61, 4, 120, 1, 0, [])
  | 4 => (.ifCond .eq 10, 7, 14, 0, 0, [])
  | 7 => (.iload_n 3, 8, 3, 0, 0, [])
  | 8 => (.invokestatic 61, 11, 120, 1, 0, [])
  | 11 => (.ifCond .ne 6, 14, 17, 0, 0, [])
  | 14 => (.ldc 67, 16, 0, 0, (-1000001), [])
  | 16 => (.ireturn, 17, 0, 0, 0, [])
  | 17 => (.aload_n 0, 18, 0, 0, 0, [])
  | 18 => (.getfield 13, 21, 7, 1, 1, [])
  | 21 => (.iload_n 1, 22, 1, 0, 0, [])
  | 22 => (.iaload, 23, 0, 0, 0, [])
  | 23 => (.ifCond .lt 12, 26, 35, 0, 0, [])
  | 26 => (.aload_n 0, 27, 0, 0, 0, [])
  | 27 => (.getfield 13, 30, 7, 1, 1, [])
  | 30 => (.iload_n 3, 31, 3, 0, 0, [])
  | 31 => (.iaload, 32, 0, 0, 0, [])
  | 32 => (.ifCond .ge 9, 35, 41, 0, 0, [])
  | 35 => (.aload_n 0, 36, 0, 0, 0, [])
  | 36 => (.iconst 1, 37, 0, 0, 1, [])
  | 37 => (.invokevirtual 68, 40, 118, 2, 0, [7])
  | 40 => (.ireturn, 41, 0, 0, 0, [])
  | 41 => (.aload_n 0, 42, 0, 0, 0, [])
  | 42 => (.getfield 7, 45, 7, 1, 0, [])
  | 45 => (.iload_n 1, 46, 1, 0, 0, [])
  | 46 => (.iaload, 47, 0, 0, 0, [])
  | 47 => (.aload_n 0, 48, 0, 0, 0, [])
  | 48 => (.getfield 7, 51, 7, 1, 0, [])
  | 51 => (.iload_n 3, 52, 3, 0, 0, [])
  | 52 => (.iaload, 53, 0, 0, 0, [])
  | 53 => (.if_icmp .eq 9, 56, 62, 0, 0, [])
  | 56 => (.aload_n 0, 57, 0, 0, 0, [])
  | 57 => (.iconst 5, 58, 0, 0, 5, [])
  | 58 => (.invokevirtual 68, 61, 118, 2, 0, [7])
  | 61 => (.ireturn, 62, 0, 0, 0, [])
  | 62 => (.iload 5, 64, 5, 0, 0, [])
  | 64 => (.ifCond .lt 44, 67, 108, 0, 0, [])
  | 67 => (.iload_n 2, 68, 2, 0, 0, [])
  | 68 => (.i2l, 69, 0, 0, 0, [])
  | 69 => (.lconst 0, 70, 0, 0, 0, [])
  | 70 => (.aload_n 0, 71, 0, 0, 0, [])
  | 71 => (.getfield 13, 74, 7, 1, 1, [])
  | 74 => (.iload_n 1, 75, 1, 0, 0, [])
  | 75 => (.iaload, 76, 0, 0, 0, [])
  | 76 => (.i2l, 77, 0, 0, 0, [])
  | 77 => (.iload 5, 79, 5, 0, 0, [])
  | 79 => (.i2l, 80, 0, 0, 0, [])
  | 80 => (.lsub, 81, 0, 0, 0, [])
  | 81 => (.invokestatic 57, 84, 116, 3, 0, [])
  | 84 => (.ifCond .eq 24, 87, 108, 0, 0, [])
  | 87 => (.iload 4, 89, 4, 0, 0, [])
  | 89 => (.i2l, 90, 0, 0, 0, [])
  | 90 => (.lconst 0, 91, 0, 0, 0, [])
  | 91 => (.aload_n 0, 92, 0, 0, 0, [])
  | 92 => (.getfield 13, 95, 7, 1, 1, [])
  | 95 => (.iload_n 3, 96, 3, 0, 0, [])
  | 96 => (.iaload, 97, 0, 0, 0, [])
  | 97 => (.i2l, 98, 0, 0, 0, [])
  | 98 => (.iload 5, 100, 5, 0, 0, [])
  | 100 => (.i2l, 101, 0, 0, 0, [])
  | 101 => (.lsub, 102, 0, 0, 0, [])
  | 102 => (.invokestatic 57, 105, 116, 3, 0, [])
  | 105 => (.ifCond .ne 9, 108, 114, 0, 0, [])
  | 108 => (.aload_n 0, 109, 0, 0, 0, [])
  | 109 => (.iconst 2, 110, 0, 0, 2, [])
  | 110 => (.invokevirtual 68, 113, 118, 2, 0, [7])
  | 113 => (.ireturn, 114, 0, 0, 0, [])
  | 114 => (.iconst 0, 115, 0, 0, 0, [])
  | 115 => (.istore 6, 117, 6, 0, 0, [])
  | 117 => (.iload 6, 119, 6, 0, 0, [])
  | 119 => (.iload 5, 121, 5, 0, 0, [])
  | 121 => (.if_icmp .ge 30, 124, 151, 0, 0, [])
  | 124 => (.aload_n 0, 125, 0, 0, 0, [])
  | 125 => (.getfield 22, 128, 7, 1, 6, [])
  | 128 => (.iload 6, 130, 6, 0, 0, [])
  | 130 => (.aload_n 0, 131, 0, 0, 0, [])
  | 131 => (.getfield 16, 134, 7, 1, 2, [])
  | 134 => (.bipush 40, 136, 0, 0, 40, [])
  | 136 => (.iload_n 1, 137, 1, 0, 0, [])
  | 137 => (.imul, 138, 0, 0, 0, [])
  | 138 => (.iload_n 2, 139, 2, 0, 0, [])
  | 139 => (.iadd, 140, 0, 0, 0, [])
  | 140 => (.iload 6, 142, 6, 0, 0, [])
  | 142 => (.iadd, 143, 0, 0, 0, [])
  | 143 => (.iaload, 144, 0, 0, 0, [])
  | 144 => (.iastore, 145, 0, 0, 0, [])
  | 145 => (.iinc 6 1, 148, 6, 0, 1, [])
  | 148 => (.goto (-31), 151, 117, 0, 0, [])
  | 151 => (.iconst 0, 152, 0, 0, 0, [])
  | 152 => (.istore 6, 154, 6, 0, 0, [])
  | 154 => (.iload 6, 156, 6, 0, 0, [])
  | 156 => (.iload 5, 158, 5, 0, 0, [])
  | 158 => (.if_icmp .ge 31, 161, 189, 0, 0, [])
  | 161 => (.aload_n 0, 162, 0, 0, 0, [])
  | 162 => (.getfield 16, 165, 7, 1, 2, [])
  | 165 => (.bipush 40, 167, 0, 0, 40, [])
  | 167 => (.iload_n 3, 168, 3, 0, 0, [])
  | 168 => (.imul, 169, 0, 0, 0, [])
  | 169 => (.iload 4, 171, 4, 0, 0, [])
  | 171 => (.iadd, 172, 0, 0, 0, [])
  | 172 => (.iload 6, 174, 6, 0, 0, [])
  | 174 => (.iadd, 175, 0, 0, 0, [])
  | 175 => (.aload_n 0, 176, 0, 0, 0, [])
  | 176 => (.getfield 22, 179, 7, 1, 6, [])
  | 179 => (.iload 6, 181, 6, 0, 0, [])
  | 181 => (.iaload, 182, 0, 0, 0, [])
  | 182 => (.iastore, 183, 0, 0, 0, [])
  | 183 => (.iinc 6 1, 186, 6, 0, 1, [])
  | 186 => (.goto (-32), 189, 154, 0, 0, [])
  | 189 => (.aload_n 0, 190, 0, 0, 0, [])
  | 190 => (.iload 5, 192, 5, 0, 0, [])
  | 192 => (.invokevirtual 72, 195, 119, 2, 0, [7])
  | 195 => (.ireturn, 196, 0, 0, 0, [])
  | _ => (.nop, 1, 0, 0, 0, [])
def kt_M_drop : Nat → kx_E
  | 0 => (.iload_n 1, 1, 1, 0, 0, [])
  | 1 => (.invokestatic 61, 4, 120, 1, 0, [])
  | 4 => (.ifCond .ne 6, 7, 10, 0, 0, [])
  | 7 => (.ldc 67, 9, 0, 0, (-1000001), [])
  | 9 => (.ireturn, 10, 0, 0, 0, [])
  | 10 => (.aload_n 0, 11, 0, 0, 0, [])
  | 11 => (.getfield 13, 14, 7, 1, 1, [])
  | 14 => (.iload_n 1, 15, 1, 0, 0, [])
  | 15 => (.iaload, 16, 0, 0, 0, [])
  | 16 => (.ifCond .ge 9, 19, 25, 0, 0, [])
  | 19 => (.aload_n 0, 20, 0, 0, 0, [])
  | 20 => (.iconst 1, 21, 0, 0, 1, [])
  | 21 => (.invokevirtual 68, 24, 118, 2, 0, [7])
  | 24 => (.ireturn, 25, 0, 0, 0, [])
  | 25 => (.aload_n 0, 26, 0, 0, 0, [])
  | 26 => (.getfield 13, 29, 7, 1, 1, [])
  | 29 => (.iload_n 1, 30, 1, 0, 0, [])
  | 30 => (.iaload, 31, 0, 0, 0, [])
  | 31 => (.istore_n 2, 32, 2, 0, 0, [])
  | 32 => (.aload_n 0, 33, 0, 0, 0, [])
  | 33 => (.getfield 13, 36, 7, 1, 1, [])
  | 36 => (.iload_n 1, 37, 1, 0, 0, [])
  | 37 => (.iconst (-1), 38, 0, 0, (-1), [])
  | 38 => (.iastore, 39, 0, 0, 0, [])
  | 39 => (.aload_n 0, 40, 0, 0, 0, [])
  | 40 => (.iload_n 2, 41, 2, 0, 0, [])
  | 41 => (.invokevirtual 72, 44, 119, 2, 0, [7])
  | 44 => (.ireturn, 45, 0, 0, 0, [])
  | _ => (.nop, 1, 0, 0, 0, [])
def kt_M_feed : Nat → kx_E
  | 0 => (.iload_n 1, 1, 1, 0, 0, [])
  | 1 => (.i2l, 2, 0, 0, 0, [])
  | 2 => (.lconst 0, 3, 0, 0, 0, [])
  | 3 => (.ldc2_w 79, 6, 0, 0, 255, [])
  | 6 => (.invokestatic 57, 9, 116, 3, 0, [])
  | 9 => (.ifCond .ne 6, 12, 15, 0, 0, [])
  | 12 => (.ldc 67, 14, 0, 0, (-1000001), [])
  | 14 => (.ireturn, 15, 0, 0, 0, [])
  | 15 => (.aload_n 0, 16, 0, 0, 0, [])
  | 16 => (.getfield 81, 19, 7, 0, 8, [])
  | 19 => (.bipush 120, 21, 0, 0, 120, [])
  | 21 => (.if_icmp .ne 6, 24, 27, 0, 0, [])
  | 24 => (.ldc 84, 26, 0, 0, (-1000003), [])
  | 26 => (.ireturn, 27, 0, 0, 0, [])
  | 27 => (.aload_n 0, 28, 0, 0, 0, [])
  | 28 => (.getfield 25, 31, 7, 1, 7, [])
  | 31 => (.aload_n 0, 32, 0, 0, 0, [])
  | 32 => (.getfield 81, 35, 7, 0, 8, [])
  | 35 => (.iload_n 1, 36, 1, 0, 0, [])
  | 36 => (.iastore, 37, 0, 0, 0, [])
  | 37 => (.aload_n 0, 38, 0, 0, 0, [])
  | 38 => (.dup, 39, 0, 0, 0, [])
  | 39 => (.getfield 81, 42, 7, 0, 8, [])
  | 42 => (.iconst 1, 43, 0, 0, 1, [])
  | 43 => (.iadd, 44, 0, 0, 0, [])
  | 44 => (.putfield 81, 47, 7, 0, 8, [])
  | 47 => (.aload_n 0, 48, 0, 0, 0, [])
  | 48 => (.getfield 81, 51, 7, 0, 8, [])
  | 51 => (.ireturn, 52, 0, 0, 0, [])
  | _ => (.nop, 1, 0, 0, 0, [])
def kt_M_nextToken : Nat → kx_E
  | 0 => (.aload_n 0, 1, 0, 0, 0, [])
  | 1 => (.aload_n 0, 2, 0, 0, 0, [])
  | 2 => (.getfield 85, 5, 7, 0, 10, [])
  | 5 => (.putfield 88, 8, 7, 0, 13, [])
  | 8 => (.aload_n 0, 9, 0, 0, 0, [])
  | 9 => (.aload_n 0, 10, 0, 0, 0, [])
  | 10 => (.getfield 85, 13, 7, 0, 10, [])
  | 13 => (.aload_n 0, 14, 0, 0, 0, [])
  | 14 => (.getfield 81, 17, 7, 0, 8, [])
  | 17 => (.if_icmp .ne 7, 20, 24, 0, 0, [])
  | 20 => (.iconst 3, 21, 0, 0, 3, [])
  | 21 => (.goto 4, 24, 25, 0, 0, [])
  | 24 => (.iconst 0, 25, 0, 0, 0, [])
  | 25 => (.putfield 91, 28, 7, 0, 11, [])
  | 28 => (.aload_n 0, 29, 0, 0, 0, [])
  | 29 => (.iconst 0, 30, 0, 0, 0, [])
  | 30 => (.putfield 94, 33, 7, 0, 12, [])
  | 33 => (.aload_n 0, 34, 0, 0, 0, [])
  | 34 => (.getfield 85, 37, 7, 0, 10, [])
  | 37 => (.aload_n 0, 38, 0, 0, 0, [])
  | 38 => (.getfield 81, 41, 7, 0, 8, [])
  | 41 => (.if_icmp .ge 78, 44, 119, 0, 0, [])
  | 44 => (.aload_n 0, 45, 0, 0, 0, [])
  | 45 => (.getfield 25, 48, 7, 1, 7, [])
  | 48 => (.aload_n 0, 49, 0, 0, 0, [])
  | 49 => (.getfield 85, 52, 7, 0, 10, [])
  | 52 => (.iaload, 53, 0, 0, 0, [])
  | 53 => (.i2l, 54, 0, 0, 0, [])
  | 54 => (.ldc2_w 97, 57, 0, 0, 48, [])
  | 57 => (.ldc2_w 99, 60, 0, 0, 57, [])
  | 60 => (.invokestatic 57, 63, 116, 3, 0, [])
  | 63 => (.ifCond .eq 56, 66, 119, 0, 0, [])
  | 66 => (.aload_n 0, 67, 0, 0, 0, [])
  | 67 => (.aload_n 0, 68, 0, 0, 0, [])
  | 68 => (.getfield 94, 71, 7, 0, 12, [])
  | 71 => (.bipush 99, 73, 0, 0, 99, [])
  | 73 => (.if_icmp .le 10, 76, 83, 0, 0, [])
  | 76 => (.aload_n 0, 77, 0, 0, 0, [])
  | 77 => (.getfield 94, 80, 7, 0, 12, [])
  | 80 => (.goto 23, 83, 103, 0, 0, [])
  | 83 => (.bipush 10, 85, 0, 0, 10, [])
  | 85 => (.aload_n 0, 86, 0, 0, 0, [])
  | 86 => (.getfield 94, 89, 7, 0, 12, [])
  | 89 => (.imul, 90, 0, 0, 0, [])
  | 90 => (.aload_n 0, 91, 0, 0, 0, [])
  | 91 => (.getfield 25, 94, 7, 1, 7, [])
  | 94 => (.aload_n 0, 95, 0, 0, 0, [])
  | 95 => (.getfield 85, 98, 7, 0, 10, [])
  | 98 => (.iaload, 99, 0, 0, 0, [])
  | 99 => (.iadd, 100, 0, 0, 0, [])
  | 100 => (.bipush 48, 102, 0, 0, 48, [])
  | 102 => (.isub, 103, 0, 0, 0, [])
  | 103 => (.putfield 94, 106, 7, 0, 12, [])
  | 106 => (.aload_n 0, 107, 0, 0, 0, [])
  | 107 => (.dup, 108, 0, 0, 0, [])
  | 108 => (.getfield 85, 111, 7, 0, 10, [])
  | 111 => (.iconst 1, 112, 0, 0, 1, [])
  | 112 => (.iadd, 113, 0, 0, 0, [])
  | 113 => (.putfield 85, 116, 7, 0, 10, [])
  | 116 => (.goto (-83), 119, 33, 0, 0, [])
  | 119 => (.aload_n 0, 120, 0, 0, 0, [])
  | 120 => (.getfield 85, 123, 7, 0, 10, [])
  | 123 => (.aload_n 0, 124, 0, 0, 0, [])
  | 124 => (.getfield 88, 127, 7, 0, 13, [])
  | 127 => (.if_icmp .le 28, 130, 155, 0, 0, [])
  | 130 => (.aload_n 0, 131, 0, 0, 0, [])
  | 131 => (.aload_n 0, 132, 0, 0, 0, [])
  | 132 => (.getfield 85, 135, 7, 0, 10, [])
  | 135 => (.aload_n 0, 136, 0, 0, 0, [])
  | 136 => (.getfield 88, 139, 7, 0, 13, [])
  | 139 => (.isub, 140, 0, 0, 0, [])
  | 140 => (.iconst 2, 141, 0, 0, 2, [])
  | 141 => (.if_icmp .le 7, 144, 148, 0, 0, [])
  | 144 => (.iconst 0, 145, 0, 0, 0, [])
  | 145 => (.goto 4, 148, 149, 0, 0, [])
  | 148 => (.iconst 2, 149, 0, 0, 2, [])
  | 149 => (.putfield 91, 152, 7, 0, 11, [])
  | 152 => (.goto 77, 155, 229, 0, 0, [])
  | 155 => (.aload_n 0, 156, 0, 0, 0, [])
  | 156 => (.getfield 91, 159, 7, 0, 11, [])
  | 159 => (.ifCond .ne 70, 162, 229, 0, 0, [])
  | 162 => (.aload_n 0, 163, 0, 0, 0, [])
  | 163 => (.aload_n 0, 164, 0, 0, 0, [])
  | 164 => (.getfield 25, 167, 7, 1, 7, [])
  | 167 => (.aload_n 0, 168, 0, 0, 0, [])
  | 168 => (.getfield 85, 171, 7, 0, 10, [])
  | 171 => (.iaload, 172, 0, 0, 0, [])
  | 172 => (.putfield 94, 175, 7, 0, 12, [])
  | 175 => (.aload_n 0, 176, 0, 0, 0, [])
  | 176 => (.aload_n 0, 177, 0, 0, 0, [])
  | 177 => (.getfield 94, 180, 7, 0, 12, [])
  | 180 => (.i2l, 181, 0, 0, 0, [])
  | 181 => (.ldc2_w 101, 184, 0, 0, 97, [])
  | 184 => (.ldc2_w 103, 187, 0, 0, 122, [])
  | 187 => (.invokestatic 57, 190, 116, 3, 0, [])
  | 190 => (.ifCond .ne 21, 193, 211, 0, 0, [])
  | 193 => (.aload_n 0, 194, 0, 0, 0, [])
  | 194 => (.getfield 94, 197, 7, 0, 12, [])
  | 197 => (.bipush 44, 199, 0, 0, 44, [])
  | 199 => (.if_icmp .eq 12, 202, 211, 0, 0, [])
  | 202 => (.aload_n 0, 203, 0, 0, 0, [])
  | 203 => (.getfield 94, 206, 7, 0, 12, [])
  | 206 => (.bipush 59, 208, 0, 0, 59, [])
  | 208 => (.if_icmp .ne 7, 211, 215, 0, 0, [])
  | 211 => (.iconst 1, 212, 0, 0, 1, [])
  | 212 => (.goto 4, 215, 216, 0, 0, [])
  | 215 => (.iconst 0, 216, 0, 0, 0, [])
  | 216 => (.putfield 91, 219, 7, 0, 11, [])
  | 219 => (.aload_n 0, 220, 0, 0, 0, [])
  | 220 => (.dup, 221, 0, 0, 0, [])
  | 221 => (.getfield 85, 224, 7, 0, 10, [])
  | 224 => (.iconst 1, 225, 0, 0, 1, [])
  | 225 => (.iadd, 226, 0, 0, 0, [])
  | 226 => (.putfield 85, 229, 7, 0, 10, [])
  | 229 => (.return_, 230, 0, 0, 0, [])
  | _ => (.nop, 1, 0, 0, 0, [])
def kt_M_faults : Nat → kx_E
  | 0 => (.aload_n 0, 1, 0, 0, 0, [])
  | 1 => (.iload_n 1, 2, 1, 0, 0, [])
  | 2 => (.putfield 105, 5, 7, 0, 14, [])
  | 5 => (.iconst 0, 6, 0, 0, 0, [])
  | 6 => (.ireturn, 7, 1, 0, 0, [])
  | _ => (.nop, 1, 0, 0, 0, [])
def kt_M_isLetter : Nat → kx_E
  | 0 => (.aload_n 0, 1, 0, 0, 0, [])
  | 1 => (.getfield 91, 4, 7, 0, 11, [])
  | 4 => (.iconst 1, 5, 0, 0, 1, [])
  | 5 => (.if_icmp .ne 15, 8, 20, 0, 0, [])
  | 8 => (.aload_n 0, 9, 0, 0, 0, [])
  | 9 => (.getfield 94, 12, 7, 0, 12, [])
  | 12 => (.iload_n 1, 13, 1, 0, 0, [])
  | 13 => (.if_icmp .ne 7, 16, 20, 0, 0, [])
  | 16 => (.iconst 1, 17, 0, 0, 1, [])
  | 17 => (.goto 4, 20, 21, 0, 0, [])
  | 20 => (.iconst 0, 21, 0, 0, 0, [])
  | 21 => (.ireturn, 22, 1, 0, 0, [])
  | _ => (.nop, 1, 0, 0, 0, [])
def kt_M_takes : Nat → kx_E
  | 0 => (.aload_n 0, 1, 0, 0, 0, [])
  | 1 => (.iload_n 1, 2, 1, 0, 0, [])
  | 2 => (.invokevirtual 108, 5, 129, 2, 0, [7])
  | 5 => (.ifCond .ne 9, 8, 14, 0, 0, [])
  | 8 => (.aload_n 0, 9, 0, 0, 0, [])
  | 9 => (.iconst 1, 10, 0, 0, 1, [])
  | 10 => (.invokevirtual 111, 13, 128, 2, 0, [7])
  | 13 => (.ireturn, 14, 1, 0, 0, [])
  | 14 => (.aload_n 0, 15, 0, 0, 0, [])
  | 15 => (.invokevirtual 114, 18, 127, 1, 0, [7])
  | 18 => (.iconst 1, 19, 0, 0, 1, [])
  | 19 => (.ireturn, 20, 1, 0, 0, [])
  | _ => (.nop, 1, 0, 0, 0, [])
def kt_M_takesNumber : Nat → kx_E
  | 0 => (.aload_n 0, 1, 0, 0, 0, [])
  | 1 => (.getfield 91, 4, 7, 0, 11, [])
  | 4 => (.iconst 2, 5, 0, 0, 2, [])
  | 5 => (.if_icmp .ne 18, 8, 23, 0, 0, [])
  | 8 => (.aload_n 0, 9, 0, 0, 0, [])
  | 9 => (.getfield 94, 12, 7, 0, 12, [])
  | 12 => (.i2l, 13, 0, 0, 0, [])
  | 13 => (.iload_n 1, 14, 1, 0, 0, [])
  | 14 => (.i2l, 15, 0, 0, 0, [])
  | 15 => (.iload_n 2, 16, 2, 0, 0, [])
  | 16 => (.i2l, 17, 0, 0, 0, [])
  | 17 => (.invokestatic 57, 20, 116, 3, 0, [])
  | 20 => (.ifCond .ne 21, 23, 41, 0, 0, [])
  | 23 => (.aload_n 0, 24, 0, 0, 0, [])
  | 24 => (.aload_n 0, 25, 0, 0, 0, [])
  | 25 => (.getfield 91, 28, 7, 0, 11, [])
  | 28 => (.iconst 2, 29, 0, 0, 2, [])
  | 29 => (.if_icmp .ne 7, 32, 36, 0, 0, [])
  | 32 => (.iconst 2, 33, 0, 0, 2, [])
  | 33 => (.goto 4, 36, 37, 0, 0, [])
  | 36 => (.iconst 1, 37, 0, 0, 1, [])
  | 37 => (.invokevirtual 111, 40, 128, 2, 0, [7])
  | 40 => (.ireturn, 41, 1, 0, 0, [])
  | 41 => (.aload_n 0, 42, 0, 0, 0, [])
  | 42 => (.getfield 28, 45, 7, 1, 15, [])
  | 45 => (.iload_n 3, 46, 3, 0, 0, [])
  | 46 => (.aload_n 0, 47, 0, 0, 0, [])
  | 47 => (.getfield 94, 50, 7, 0, 12, [])
  | 50 => (.iastore, 51, 0, 0, 0, [])
  | 51 => (.aload_n 0, 52, 0, 0, 0, [])
  | 52 => (.invokevirtual 114, 55, 127, 1, 0, [7])
  | 55 => (.aload_n 0, 56, 0, 0, 0, [])
  | 56 => (.iload 4, 58, 4, 0, 0, [])
  | 58 => (.invokevirtual 117, 61, 130, 2, 0, [7])
  | 61 => (.ireturn, 62, 1, 0, 0, [])
  | _ => (.nop, 1, 0, 0, 0, [])
def kt_M_readHead : Nat → kx_E
  | 0 => (.aload_n 0, 1, 0, 0, 0, [])
  | 1 => (.getfield 28, 4, 7, 1, 15, [])
  | 4 => (.iconst 1, 5, 0, 0, 1, [])
  | 5 => (.iaload, 6, 0, 0, 0, [])
  | 6 => (.istore_n 2, 7, 2, 0, 0, [])
  | 7 => (.iload_n 2, 8, 2, 0, 0, [])
  | 8 => (.bipush 6, 10, 0, 0, 6, [])
  | 10 => (.if_icmp .eq 12, 13, 22, 0, 0, [])
  | 13 => (.aload_n 0, 14, 0, 0, 0, [])
  | 14 => (.getfield 28, 17, 7, 1, 15, [])
  | 17 => (.iconst 2, 18, 0, 0, 2, [])
  | 18 => (.iaload, 19, 0, 0, 0, [])
  | 19 => (.ifCond .le 22, 22, 41, 0, 0, [])
  | 22 => (.aload_n 0, 23, 0, 0, 0, [])
  | 23 => (.aload_n 0, 24, 0, 0, 0, [])
  | 24 => (.getfield 28, 27, 7, 1, 15, [])
  | 27 => (.iconst 2, 28, 0, 0, 2, [])
  | 28 => (.iaload, 29, 0, 0, 0, [])
  | 29 => (.ifCond .le 7, 32, 36, 0, 0, [])
  | 32 => (.iconst 1, 33, 0, 0, 1, [])
  | 33 => (.goto 4, 36, 37, 0, 0, [])
  | 36 => (.iconst 3, 37, 0, 0, 3, [])
  | 37 => (.invokevirtual 111, 40, 128, 2, 0, [7])
  | 40 => (.ireturn, 41, 1, 0, 0, [])
  | 41 => (.aload_n 0, 42, 0, 0, 0, [])
  | 42 => (.invokevirtual 114, 45, 127, 1, 0, [7])
  | 45 => (.aload_n 0, 46, 0, 0, 0, [])
  | 46 => (.getfield 28, 49, 7, 1, 15, [])
  | 49 => (.bipush 6, 51, 0, 0, 6, [])
  | 51 => (.iload_n 2, 52, 2, 0, 0, [])
  | 52 => (.iadd, 53, 0, 0, 0, [])
  | 53 => (.iload_n 1, 54, 1, 0, 0, [])
  | 54 => (.iastore, 55, 0, 0, 0, [])
  | 55 => (.aload_n 0, 56, 0, 0, 0, [])
  | 56 => (.getfield 28, 59, 7, 1, 15, [])
  | 59 => (.iconst 1, 60, 0, 0, 1, [])
  | 60 => (.dup2, 61, 0, 0, 0, [])
  | 61 => (.iaload, 62, 0, 0, 0, [])
  | 62 => (.iconst 1, 63, 0, 0, 1, [])
  | 63 => (.iadd, 64, 0, 0, 0, [])
  | 64 => (.iastore, 65, 0, 0, 0, [])
  | 65 => (.aload_n 0, 66, 0, 0, 0, [])
  | 66 => (.iconst 1, 67, 0, 0, 1, [])
  | 67 => (.bipush 9, 69, 0, 0, 9, [])
  | 69 => (.bipush 12, 71, 0, 0, 12, [])
  | 71 => (.iload_n 2, 72, 2, 0, 0, [])
  | 72 => (.iadd, 73, 0, 0, 0, [])
  | 73 => (.bipush 44, 75, 0, 0, 44, [])
  | 75 => (.invokevirtual 120, 78, 131, 5, 0, [7])
  | 78 => (.ifCond .eq 23, 81, 101, 0, 0, [])
  | 81 => (.aload_n 0, 82, 0, 0, 0, [])
  | 82 => (.iconst 0, 83, 0, 0, 0, [])
  | 83 => (.bipush 15, 85, 0, 0, 15, [])
  | 85 => (.bipush 18, 87, 0, 0, 18, [])
  | 87 => (.iload_n 2, 88, 2, 0, 0, [])
  | 88 => (.iadd, 89, 0, 0, 0, [])
  | 89 => (.bipush 59, 91, 0, 0, 59, [])
  | 91 => (.invokevirtual 120, 94, 131, 5, 0, [7])
  | 94 => (.ifCond .eq 7, 97, 101, 0, 0, [])
  | 97 => (.iconst 1, 98, 0, 0, 1, [])
  | 98 => (.goto 4, 101, 102, 0, 0, [])
  | 101 => (.iconst 0, 102, 0, 0, 0, [])
  | 102 => (.ireturn, 103, 1, 0, 0, [])
  | _ => (.nop, 1, 0, 0, 0, [])
def kt_M_readOrder : Nat → kx_E
  | 0 => (.aload_n 0, 1, 0, 0, 0, [])
  | 1 => (.getfield 28, 4, 7, 1, 15, [])
  | 4 => (.iconst 2, 5, 0, 0, 2, [])
  | 5 => (.iaload, 6, 0, 0, 0, [])
  | 6 => (.istore_n 1, 7, 1, 0, 0, [])
  | 7 => (.iload_n 1, 8, 1, 0, 0, [])
  | 8 => (.iconst 4, 9, 0, 0, 4, [])
  | 9 => (.if_icmp .ne 9, 12, 18, 0, 0, [])
  | 12 => (.aload_n 0, 13, 0, 0, 0, [])
  | 13 => (.iconst 3, 14, 0, 0, 3, [])
  | 14 => (.invokevirtual 111, 17, 128, 2, 0, [7])
  | 17 => (.ireturn, 18, 1, 0, 0, [])
  | 18 => (.aload_n 0, 19, 0, 0, 0, [])
  | 19 => (.invokevirtual 114, 22, 127, 1, 0, [7])
  | 22 => (.aload_n 0, 23, 0, 0, 0, [])
  | 23 => (.getfield 28, 26, 7, 1, 15, [])
  | 26 => (.iconst 2, 27, 0, 0, 2, [])
  | 27 => (.dup2, 28, 0, 0, 0, [])
  | 28 => (.iaload, 29, 0, 0, 0, [])
  | 29 => (.iconst 1, 30, 0, 0, 1, [])
  | 30 => (.iadd, 31, 0, 0, 0, [])
  | 31 => (.iastore, 32, 0, 0, 0, [])
  | 32 => (.aload_n 0, 33, 0, 0, 0, [])
  | 33 => (.iconst 1, 34, 0, 0, 1, [])
  | 34 => (.bipush 40, 36, 0, 0, 40, [])
  | 36 => (.bipush 30, 38, 0, 0, 30, [])
  | 38 => (.iload_n 1, 39, 1, 0, 0, [])
  | 39 => (.iadd, 40, 0, 0, 0, [])
  | 40 => (.bipush 59, 42, 0, 0, 59, [])
  | 42 => (.invokevirtual 120, 45, 131, 5, 0, [7])
  | 45 => (.istore_n 2, 46, 2, 0, 0, [])
  | 46 => (.aload_n 0, 47, 0, 0, 0, [])
  | 47 => (.getfield 28, 50, 7, 1, 15, [])
  | 50 => (.bipush 34, 52, 0, 0, 34, [])
  | 52 => (.iload_n 1, 53, 1, 0, 0, [])
  | 53 => (.iadd, 54, 0, 0, 0, [])
  | 54 => (.aload_n 0, 55, 0, 0, 0, [])
  | 55 => (.getfield 28, 58, 7, 1, 15, [])
  | 58 => (.bipush 30, 60, 0, 0, 30, [])
  | 60 => (.iload_n 1, 61, 1, 0, 0, [])
  | 61 => (.iadd, 62, 0, 0, 0, [])
  | 62 => (.iaload, 63, 0, 0, 0, [])
  | 63 => (.iastore, 64, 0, 0, 0, [])
  | 64 => (.iload_n 2, 65, 2, 0, 0, [])
  | 65 => (.ireturn, 66, 1, 0, 0, [])
  | _ => (.nop, 1, 0, 0, 0, [])
def kt_M_readTown : Nat → kx_E
  | 0 => (.aload_n 0, 1, 0, 0, 0, [])
  | 1 => (.iconst 0, 2, 0, 0, 0, [])
  | 2 => (.putfield 85, 5, 7, 0, 10, [])
  | 5 => (.iconst 0, 6, 0, 0, 0, [])
  | 6 => (.istore_n 1, 7, 1, 0, 0, [])
  | 7 => (.iload_n 1, 8, 1, 0, 0, [])
  | 8 => (.bipush 46, 10, 0, 0, 46, [])
  | 10 => (.if_icmp .ge 16, 13, 26, 0, 0, [])
  | 13 => (.aload_n 0, 14, 0, 0, 0, [])
  | 14 => (.getfield 28, 17, 7, 1, 15, [])
  | 17 => (.iload_n 1, 18, 1, 0, 0, [])
  | 18 => (.iconst 0, 19, 0, 0, 0, [])
  | 19 => (.iastore, 20, 0, 0, 0, [])
  | 20 => (.iinc 1 1, 23, 1, 0, 1, [])
  | 23 => (.goto (-16), 26, 7, 0, 0, [])
  | 26 => (.aload_n 0, 27, 0, 0, 0, [])
  | 27 => (.invokevirtual 114, 30, 127, 1, 0, [7])
  | 30 => (.aload_n 0, 31, 0, 0, 0, [])
  | 31 => (.bipush 104, 33, 0, 0, 104, [])
  | 33 => (.invokevirtual 117, 36, 130, 2, 0, [7])
  | 36 => (.ifCond .eq 15, 39, 51, 0, 0, [])
  | 39 => (.aload_n 0, 40, 0, 0, 0, [])
  | 40 => (.iconst 0, 41, 0, 0, 0, [])
  | 41 => (.iconst 5, 42, 0, 0, 5, [])
  | 42 => (.iconst 0, 43, 0, 0, 0, [])
  | 43 => (.bipush 59, 45, 0, 0, 59, [])
  | 45 => (.invokevirtual 120, 48, 131, 5, 0, [7])
  | 48 => (.ifCond .ne 5, 51, 53, 0, 0, [])
  | 51 => (.iconst 0, 52, 0, 0, 0, [])
  | 52 => (.ireturn, 53, 1, 0, 0, [])
  | 53 => (.iconst 1, 54, 0, 0, 1, [])
  | 54 => (.istore_n 1, 55, 1, 0, 0, [])
  | 55 => (.iload_n 1, 56, 1, 0, 0, [])
  | 56 => (.ifCond .eq 133, 59, 189, 0, 0, [])
  | 59 => (.aload_n 0, 60, 0, 0, 0, [])
  | 60 => (.getfield 91, 63, 7, 0, 11, [])
  | 63 => (.iconst 3, 64, 0, 0, 3, [])
  | 64 => (.if_icmp .ne 12, 67, 76, 0, 0, [])
  | 67 => (.aload_n 0, 68, 0, 0, 0, [])
  | 68 => (.getfield 28, 71, 7, 1, 15, [])
  | 71 => (.iconst 1, 72, 0, 0, 1, [])
  | 72 => (.iaload, 73, 0, 0, 0, [])
  | 73 => (.ifCond .ne 116, 76, 189, 0, 0, [])
  | 76 => (.aload_n 0, 77, 0, 0, 0, [])
  | 77 => (.bipush 102, 79, 0, 0, 102, [])
  | 79 => (.invokevirtual 108, 82, 129, 2, 0, [7])
  | 82 => (.ifCond .eq 7, 85, 89, 0, 0, [])
  | 85 => (.iconst 1, 86, 0, 0, 1, [])
  | 86 => (.goto 56, 89, 142, 0, 0, [])
  | 89 => (.aload_n 0, 90, 0, 0, 0, [])
  | 90 => (.bipush 115, 92, 0, 0, 115, [])
  | 92 => (.invokevirtual 108, 95, 129, 2, 0, [7])
  | 95 => (.ifCond .eq 7, 98, 102, 0, 0, [])
  | 98 => (.iconst 2, 99, 0, 0, 2, [])
  | 99 => (.goto 43, 102, 142, 0, 0, [])
  | 102 => (.aload_n 0, 103, 0, 0, 0, [])
  | 103 => (.bipush 116, 105, 0, 0, 116, [])
  | 105 => (.invokevirtual 108, 108, 129, 2, 0, [7])
  | 108 => (.ifCond .eq 7, 111, 115, 0, 0, [])
  | 111 => (.iconst 3, 112, 0, 0, 3, [])
  | 112 => (.goto 30, 115, 142, 0, 0, [])
  | 115 => (.aload_n 0, 116, 0, 0, 0, [])
  | 116 => (.bipush 119, 118, 0, 0, 119, [])
  | 118 => (.invokevirtual 108, 121, 129, 2, 0, [7])
  | 121 => (.ifCond .eq 7, 124, 128, 0, 0, [])
  | 124 => (.iconst 4, 125, 0, 0, 4, [])
  | 125 => (.goto 17, 128, 142, 0, 0, [])
  | 128 => (.aload_n 0, 129, 0, 0, 0, [])
  | 129 => (.bipush 98, 131, 0, 0, 98, [])
  | 131 => (.invokevirtual 108, 134, 129, 2, 0, [7])
  | 134 => (.ifCond .eq 7, 137, 141, 0, 0, [])
  | 137 => (.iconst 5, 138, 0, 0, 5, [])
  | 138 => (.goto 4, 141, 142, 0, 0, [])
  | 141 => (.iconst 0, 142, 0, 0, 0, [])
  | 142 => (.istore_n 2, 143, 2, 0, 0, [])
  | 143 => (.iload_n 2, 144, 2, 0, 0, [])
  | 144 => (.ifCond .le 11, 147, 155, 0, 0, [])
  | 147 => (.aload_n 0, 148, 0, 0, 0, [])
  | 148 => (.iload_n 2, 149, 2, 0, 0, [])
  | 149 => (.invokevirtual 124, 152, 132, 2, 0, [7])
  | 152 => (.goto 33, 155, 185, 0, 0, [])
  | 155 => (.aload_n 0, 156, 0, 0, 0, [])
  | 156 => (.bipush 111, 158, 0, 0, 111, [])
  | 158 => (.invokevirtual 108, 161, 129, 2, 0, [7])
  | 161 => (.ifCond .eq 19, 164, 180, 0, 0, [])
  | 164 => (.aload_n 0, 165, 0, 0, 0, [])
  | 165 => (.getfield 28, 168, 7, 1, 15, [])
  | 168 => (.iconst 1, 169, 0, 0, 1, [])
  | 169 => (.iaload, 170, 0, 0, 0, [])
  | 170 => (.ifCond .le 10, 173, 180, 0, 0, [])
  | 173 => (.aload_n 0, 174, 0, 0, 0, [])
  | 174 => (.invokevirtual 127, 177, 133, 1, 0, [7])
  | 177 => (.goto 8, 180, 185, 0, 0, [])
  | 180 => (.aload_n 0, 181, 0, 0, 0, [])
  | 181 => (.iconst 1, 182, 0, 0, 1, [])
  | 182 => (.invokevirtual 111, 185, 128, 2, 0, [7])
  | 185 => (.istore_n 1, 186, 1, 0, 0, [])
  | 186 => (.goto (-131), 189, 55, 0, 0, [])
  | 189 => (.iload_n 1, 190, 1, 0, 0, [])
  | 190 => (.ireturn, 191, 1, 0, 0, [])
  | _ => (.nop, 1, 0, 0, 0, [])
def kt_M_town : Nat → kx_E
  | 0 => (.aload_n 0, 1, 0, 0, 0, [])
  | 1 => (.invokevirtual 131, 4, 134, 1, 0, [7])
  | 4 => (.istore_n 1, 5, 1, 0, 0, [])
  | 5 => (.aload_n 0, 6, 0, 0, 0, [])
  | 6 => (.iconst 0, 7, 0, 0, 0, [])
  | 7 => (.putfield 81, 10, 7, 0, 8, [])
  | 10 => (.iload_n 1, 11, 1, 0, 0, [])
  | 11 => (.ifCond .ne 19, 14, 30, 0, 0, [])
  | 14 => (.aload_n 0, 15, 0, 0, 0, [])
  | 15 => (.aload_n 0, 16, 0, 0, 0, [])
  | 16 => (.getfield 105, 19, 7, 0, 14, [])
  | 19 => (.putfield 134, 22, 7, 0, 9, [])
  | 22 => (.ldc 137, 24, 0, 0, (-1000100), [])
  | 24 => (.aload_n 0, 25, 0, 0, 0, [])
  | 25 => (.getfield 88, 28, 7, 0, 13, [])
  | 28 => (.isub, 29, 0, 0, 0, [])
  | 29 => (.ireturn, 30, 0, 0, 0, [])
  | 30 => (.iconst 0, 31, 0, 0, 0, [])
  | 31 => (.istore_n 2, 32, 2, 0, 0, [])
  | 32 => (.iload_n 2, 33, 2, 0, 0, [])
  | 33 => (.bipush 46, 35, 0, 0, 46, [])
  | 35 => (.if_icmp .ge 21, 38, 56, 0, 0, [])
  | 38 => (.aload_n 0, 39, 0, 0, 0, [])
  | 39 => (.getfield 19, 42, 7, 1, 5, [])
  | 42 => (.iload_n 2, 43, 2, 0, 0, [])
  | 43 => (.aload_n 0, 44, 0, 0, 0, [])
  | 44 => (.getfield 28, 47, 7, 1, 15, [])
  | 47 => (.iload_n 2, 48, 2, 0, 0, [])
  | 48 => (.iaload, 49, 0, 0, 0, [])
  | 49 => (.iastore, 50, 0, 0, 0, [])
  | 50 => (.iinc 2 1, 53, 2, 0, 1, [])
  | 53 => (.goto (-21), 56, 32, 0, 0, [])
  | 56 => (.aload_n 0, 57, 0, 0, 0, [])
  | 57 => (.iconst 1, 58, 0, 0, 1, [])
  | 58 => (.putfield 138, 61, 7, 2, 4, [])
  | 61 => (.aload_n 0, 62, 0, 0, 0, [])
  | 62 => (.iconst 0, 63, 0, 0, 0, [])
  | 63 => (.putfield 142, 66, 7, 0, 17, [])
  | 66 => (.aload_n 0, 67, 0, 0, 0, [])
  | 67 => (.getfield 19, 70, 7, 1, 5, [])
  | 70 => (.iconst 1, 71, 0, 0, 1, [])
  | 71 => (.iaload, 72, 0, 0, 0, [])
  | 72 => (.ireturn, 73, 0, 0, 0, [])
  | _ => (.nop, 1, 0, 0, 0, [])
def kt_M_fault : Nat → kx_E
  | 0 => (.aload_n 0, 1, 0, 0, 0, [])
  | 1 => (.getfield 134, 4, 7, 0, 9, [])
  | 4 => (.ireturn, 5, 0, 0, 0, [])
  | _ => (.nop, 1, 0, 0, 0, [])
def kt_M_isHead : Nat → kx_E
  | 0 => (.iload_n 1, 1, 1, 0, 0, [])
  | 1 => (.i2l, 2, 0, 0, 0, [])
  | 2 => (.lconst 0, 3, 0, 0, 0, [])
  | 3 => (.aload_n 0, 4, 0, 0, 0, [])
  | 4 => (.getfield 19, 7, 7, 1, 5, [])
  | 7 => (.iconst 1, 8, 0, 0, 1, [])
  | 8 => (.iaload, 9, 0, 0, 0, [])
  | 9 => (.iconst 1, 10, 0, 0, 1, [])
  | 10 => (.isub, 11, 0, 0, 0, [])
  | 11 => (.i2l, 12, 0, 0, 0, [])
  | 12 => (.invokestatic 57, 15, 116, 3, 0, [])
  | 15 => (.ireturn, 16, 1, 0, 0, [])
  | _ => (.nop, 1, 0, 0, 0, [])
def kt_M_isOrder : Nat → kx_E
  | 0 => (.iload_n 1, 1, 1, 0, 0, [])
  | 1 => (.i2l, 2, 0, 0, 0, [])
  | 2 => (.lconst 0, 3, 0, 0, 0, [])
  | 3 => (.aload_n 0, 4, 0, 0, 0, [])
  | 4 => (.getfield 19, 7, 7, 1, 5, [])
  | 7 => (.iconst 2, 8, 0, 0, 2, [])
  | 8 => (.iaload, 9, 0, 0, 0, [])
  | 9 => (.iconst 1, 10, 0, 0, 1, [])
  | 10 => (.isub, 11, 0, 0, 0, [])
  | 11 => (.i2l, 12, 0, 0, 0, [])
  | 12 => (.invokestatic 57, 15, 116, 3, 0, [])
  | 15 => (.ireturn, 16, 1, 0, 0, [])
  | _ => (.nop, 1, 0, 0, 0, [])
def kt_M_outMany : Nat → kx_E
  | 0 => (.iconst 0, 1, 0, 0, 0, [])
  | 1 => (.istore_n 1, 2, 1, 0, 0, [])
  | 2 => (.iconst 0, 3, 0, 0, 0, [])
  | 3 => (.istore_n 2, 4, 2, 0, 0, [])
  | 4 => (.iload_n 2, 5, 2, 0, 0, [])
  | 5 => (.aload_n 0, 6, 0, 0, 0, [])
  | 6 => (.getfield 19, 9, 7, 1, 5, [])
  | 9 => (.iconst 2, 10, 0, 0, 2, [])
  | 10 => (.iaload, 11, 0, 0, 0, [])
  | 11 => (.if_icmp .ge 29, 14, 40, 0, 0, [])
  | 14 => (.iload_n 1, 15, 1, 0, 0, [])
  | 15 => (.aload_n 0, 16, 0, 0, 0, [])
  | 16 => (.getfield 19, 19, 7, 1, 5, [])
  | 19 => (.bipush 38, 21, 0, 0, 38, [])
  | 21 => (.iload_n 2, 22, 2, 0, 0, [])
  | 22 => (.iadd, 23, 0, 0, 0, [])
  | 23 => (.iaload, 24, 0, 0, 0, [])
  | 24 => (.ifCond .ne 7, 27, 31, 0, 0, [])
  | 27 => (.iconst 1, 28, 0, 0, 1, [])
  | 28 => (.goto 4, 31, 32, 0, 0, [])
  | 31 => (.iconst 0, 32, 0, 0, 0, [])
  | 32 => (.iadd, 33, 0, 0, 0, [])
  | 33 => (.istore_n 1, 34, 1, 0, 0, [])
  | 34 => (.iinc 2 1, 37, 2, 0, 1, [])
  | 37 => (.goto (-33), 40, 4, 0, 0, [])
  | 40 => (.iload_n 1, 41, 1, 0, 0, [])
  | 41 => (.ireturn, 42, 0, 0, 0, [])
  | _ => (.nop, 1, 0, 0, 0, [])
def kt_M_work : Nat → kx_E
  | 0 => (.iconst (-1), 1, 0, 0, (-1), [])
  | 1 => (.istore_n 2, 2, 2, 0, 0, [])
  | 2 => (.aload_n 0, 3, 0, 0, 0, [])
  | 3 => (.getfield 19, 6, 7, 1, 5, [])
  | 6 => (.iconst 2, 7, 0, 0, 2, [])
  | 7 => (.iaload, 8, 0, 0, 0, [])
  | 8 => (.iconst 1, 9, 0, 0, 1, [])
  | 9 => (.isub, 10, 0, 0, 0, [])
  | 10 => (.istore_n 3, 11, 3, 0, 0, [])
  | 11 => (.iload_n 3, 12, 3, 0, 0, [])
  | 12 => (.ifCond .lt 43, 15, 55, 0, 0, [])
  | 15 => (.aload_n 0, 16, 0, 0, 0, [])
  | 16 => (.getfield 19, 19, 7, 1, 5, [])
  | 19 => (.bipush 38, 21, 0, 0, 38, [])
  | 21 => (.iload_n 3, 22, 3, 0, 0, [])
  | 22 => (.iadd, 23, 0, 0, 0, [])
  | 23 => (.iaload, 24, 0, 0, 0, [])
  | 24 => (.ifCond .ne 23, 27, 47, 0, 0, [])
  | 27 => (.aload_n 0, 28, 0, 0, 0, [])
  | 28 => (.getfield 19, 31, 7, 1, 5, [])
  | 31 => (.bipush 18, 33, 0, 0, 18, [])
  | 33 => (.iload_n 1, 34, 1, 0, 0, [])
  | 34 => (.iadd, 35, 0, 0, 0, [])
  | 35 => (.iaload, 36, 0, 0, 0, [])
  | 36 => (.iload_n 3, 37, 3, 0, 0, [])
  | 37 => (.invokestatic 145, 40, 117, 2, 0, [])
  | 40 => (.ifCond .eq 7, 43, 47, 0, 0, [])
  | 43 => (.iload_n 3, 44, 3, 0, 0, [])
  | 44 => (.goto 4, 47, 48, 0, 0, [])
  | 47 => (.iload_n 2, 48, 2, 0, 0, [])
  | 48 => (.istore_n 2, 49, 2, 0, 0, [])
  | 49 => (.iinc 3 (-1), 52, 3, 0, (-1), [])
  | 52 => (.goto (-41), 55, 11, 0, 0, [])
  | 55 => (.iload_n 2, 56, 2, 0, 0, [])
  | 56 => (.ifCond .lt 68, 59, 124, 0, 0, [])
  | 59 => (.aload_n 0, 60, 0, 0, 0, [])
  | 60 => (.getfield 19, 63, 7, 1, 5, [])
  | 63 => (.bipush 34, 65, 0, 0, 34, [])
  | 65 => (.iload_n 2, 66, 2, 0, 0, [])
  | 66 => (.iadd, 67, 0, 0, 0, [])
  | 67 => (.dup2, 68, 0, 0, 0, [])
  | 68 => (.iaload, 69, 0, 0, 0, [])
  | 69 => (.iconst 1, 70, 0, 0, 1, [])
  | 70 => (.isub, 71, 0, 0, 0, [])
  | 71 => (.iastore, 72, 0, 0, 0, [])
  | 72 => (.aload_n 0, 73, 0, 0, 0, [])
  | 73 => (.getfield 19, 76, 7, 1, 5, [])
  | 76 => (.bipush 24, 78, 0, 0, 24, [])
  | 78 => (.iload_n 1, 79, 1, 0, 0, [])
  | 79 => (.iadd, 80, 0, 0, 0, [])
  | 80 => (.dup2, 81, 0, 0, 0, [])
  | 81 => (.iaload, 82, 0, 0, 0, [])
  | 82 => (.iconst 1, 83, 0, 0, 1, [])
  | 83 => (.iadd, 84, 0, 0, 0, [])
  | 84 => (.iastore, 85, 0, 0, 0, [])
  | 85 => (.aload_n 0, 86, 0, 0, 0, [])
  | 86 => (.getfield 19, 89, 7, 1, 5, [])
  | 89 => (.bipush 34, 91, 0, 0, 34, [])
  | 91 => (.iload_n 2, 92, 2, 0, 0, [])
  | 92 => (.iadd, 93, 0, 0, 0, [])
  | 93 => (.iaload, 94, 0, 0, 0, [])
  | 94 => (.ifCond .ne 30, 97, 124, 0, 0, [])
  | 97 => (.aload_n 0, 98, 0, 0, 0, [])
  | 98 => (.getfield 19, 101, 7, 1, 5, [])
  | 101 => (.bipush 38, 103, 0, 0, 38, [])
  | 103 => (.iload_n 2, 104, 2, 0, 0, [])
  | 104 => (.iadd, 105, 0, 0, 0, [])
  | 105 => (.iconst 1, 106, 0, 0, 1, [])
  | 106 => (.iastore, 107, 0, 0, 0, [])
  | 107 => (.aload_n 0, 108, 0, 0, 0, [])
  | 108 => (.getfield 19, 111, 7, 1, 5, [])
  | 111 => (.bipush 42, 113, 0, 0, 42, [])
  | 113 => (.iload_n 2, 114, 2, 0, 0, [])
  | 114 => (.iadd, 115, 0, 0, 0, [])
  | 115 => (.aload_n 0, 116, 0, 0, 0, [])
  | 116 => (.getfield 19, 119, 7, 1, 5, [])
  | 119 => (.iconst 3, 120, 0, 0, 3, [])
  | 120 => (.iaload, 121, 0, 0, 0, [])
  | 121 => (.iconst 1, 122, 0, 0, 1, [])
  | 122 => (.iadd, 123, 0, 0, 0, [])
  | 123 => (.iastore, 124, 0, 0, 0, [])
  | 124 => (.return_, 125, 0, 0, 0, [])
  | _ => (.nop, 1, 0, 0, 0, [])
def kt_M_oneStep : Nat → kx_E
  | 0 => (.aload_n 0, 1, 0, 0, 0, [])
  | 1 => (.getfield 19, 4, 7, 1, 5, [])
  | 4 => (.iconst 4, 5, 0, 0, 4, [])
  | 5 => (.iaload, 6, 0, 0, 0, [])
  | 6 => (.istore_n 1, 7, 1, 0, 0, [])
  | 7 => (.aload_n 0, 8, 0, 0, 0, [])
  | 8 => (.getfield 19, 11, 7, 1, 5, [])
  | 11 => (.bipush 6, 13, 0, 0, 6, [])
  | 13 => (.iload_n 1, 14, 1, 0, 0, [])
  | 14 => (.iadd, 15, 0, 0, 0, [])
  | 15 => (.iaload, 16, 0, 0, 0, [])
  | 16 => (.istore_n 2, 17, 2, 0, 0, [])
  | 17 => (.aload_n 0, 18, 0, 0, 0, [])
  | 18 => (.iload_n 1, 19, 1, 0, 0, [])
  | 19 => (.invokevirtual 149, 22, 140, 2, 0, [7])
  | 22 => (.aload_n 0, 23, 0, 0, 0, [])
  | 23 => (.getfield 19, 26, 7, 1, 5, [])
  | 26 => (.iconst 5, 27, 0, 0, 5, [])
  | 27 => (.dup2, 28, 0, 0, 0, [])
  | 28 => (.iaload, 29, 0, 0, 0, [])
  | 29 => (.iconst 1, 30, 0, 0, 1, [])
  | 30 => (.iadd, 31, 0, 0, 0, [])
  | 31 => (.iastore, 32, 0, 0, 0, [])
  | 32 => (.aload_n 0, 33, 0, 0, 0, [])
  | 33 => (.getfield 19, 36, 7, 1, 5, [])
  | 36 => (.iconst 3, 37, 0, 0, 3, [])
  | 37 => (.dup2, 38, 0, 0, 0, [])
  | 38 => (.iaload, 39, 0, 0, 0, [])
  | 39 => (.iconst 1, 40, 0, 0, 1, [])
  | 40 => (.iadd, 41, 0, 0, 0, [])
  | 41 => (.iastore, 42, 0, 0, 0, [])
  | 42 => (.aload_n 0, 43, 0, 0, 0, [])
  | 43 => (.getfield 19, 46, 7, 1, 5, [])
  | 46 => (.iconst 5, 47, 0, 0, 5, [])
  | 47 => (.iaload, 48, 0, 0, 0, [])
  | 48 => (.aload_n 0, 49, 0, 0, 0, [])
  | 49 => (.getfield 19, 52, 7, 1, 5, [])
  | 52 => (.bipush 12, 54, 0, 0, 12, [])
  | 54 => (.iload_n 1, 55, 1, 0, 0, [])
  | 55 => (.iadd, 56, 0, 0, 0, [])
  | 56 => (.iaload, 57, 0, 0, 0, [])
  | 57 => (.iload_n 2, 58, 2, 0, 0, [])
  | 58 => (.iconst 3, 59, 0, 0, 3, [])
  | 59 => (.if_icmp .ne 10, 62, 69, 0, 0, [])
  | 62 => (.aload_n 0, 63, 0, 0, 0, [])
  | 63 => (.invokevirtual 153, 66, 139, 1, 0, [7])
  | 66 => (.goto 4, 69, 70, 0, 0, [])
  | 69 => (.iconst 0, 70, 0, 0, 0, [])
  | 70 => (.iadd, 71, 0, 0, 0, [])
  | 71 => (.if_icmp .lt 75, 74, 146, 0, 0, [])
  | 74 => (.iload_n 2, 75, 2, 0, 0, [])
  | 75 => (.iconst 2, 76, 0, 0, 2, [])
  | 76 => (.if_icmp .ne 7, 79, 83, 0, 0, [])
  | 79 => (.iconst 2, 80, 0, 0, 2, [])
  | 80 => (.goto 42, 83, 122, 0, 0, [])
  | 83 => (.iload_n 2, 84, 2, 0, 0, [])
  | 84 => (.iconst 4, 85, 0, 0, 4, [])
  | 85 => (.if_icmp .ne 12, 88, 97, 0, 0, [])
  | 88 => (.aload_n 0, 89, 0, 0, 0, [])
  | 89 => (.getfield 19, 92, 7, 1, 5, [])
  | 92 => (.iconst 0, 93, 0, 0, 0, [])
  | 93 => (.iaload, 94, 0, 0, 0, [])
  | 94 => (.goto 28, 97, 122, 0, 0, [])
  | 97 => (.iload_n 2, 98, 2, 0, 0, [])
  | 98 => (.iconst 5, 99, 0, 0, 5, [])
  | 99 => (.if_icmp .ne 22, 102, 121, 0, 0, [])
  | 102 => (.aload_n 0, 103, 0, 0, 0, [])
  | 103 => (.getfield 19, 106, 7, 1, 5, [])
  | 106 => (.iconst 1, 107, 0, 0, 1, [])
  | 107 => (.iaload, 108, 0, 0, 0, [])
  | 108 => (.bipush 6, 110, 0, 0, 6, [])
  | 110 => (.imul, 111, 0, 0, 0, [])
  | 111 => (.aload_n 0, 112, 0, 0, 0, [])
  | 112 => (.getfield 19, 115, 7, 1, 5, [])
  | 115 => (.iconst 0, 116, 0, 0, 0, [])
  | 116 => (.iaload, 117, 0, 0, 0, [])
  | 117 => (.isub, 118, 0, 0, 0, [])
  | 118 => (.goto 4, 121, 122, 0, 0, [])
  | 121 => (.iconst 1, 122, 0, 0, 1, [])
  | 122 => (.istore_n 3, 123, 3, 0, 0, [])
  | 123 => (.aload_n 0, 124, 0, 0, 0, [])
  | 124 => (.getfield 19, 127, 7, 1, 5, [])
  | 127 => (.iconst 4, 128, 0, 0, 4, [])
  | 128 => (.iload_n 1, 129, 1, 0, 0, [])
  | 129 => (.iload_n 3, 130, 3, 0, 0, [])
  | 130 => (.iadd, 131, 0, 0, 0, [])
  | 131 => (.aload_n 0, 132, 0, 0, 0, [])
  | 132 => (.getfield 19, 135, 7, 1, 5, [])
  | 135 => (.iconst 1, 136, 0, 0, 1, [])
  | 136 => (.iaload, 137, 0, 0, 0, [])
  | 137 => (.irem, 138, 0, 0, 0, [])
  | 138 => (.iastore, 139, 0, 0, 0, [])
  | 139 => (.aload_n 0, 140, 0, 0, 0, [])
  | 140 => (.getfield 19, 143, 7, 1, 5, [])
  | 143 => (.iconst 5, 144, 0, 0, 5, [])
  | 144 => (.iconst 0, 145, 0, 0, 0, [])
  | 145 => (.iastore, 146, 0, 0, 0, [])
  | 146 => (.return_, 147, 0, 0, 0, [])
  | _ => (.nop, 1, 0, 0, 0, [])
def kt_M_note : Nat → kx_E
  | 0 => (.aload_n 0, 1, 0, 0, 0, [])
  | 1 => (.getfield 142, 4, 7, 0, 17, [])
  | 4 => (.bipush 24, 6, 0, 0, 24, [])
  | 6 => (.if_icmp .ne 43, 9, 49, 0, 0, [])
  | 9 => (.iconst 0, 10, 0, 0, 0, [])
  | 10 => (.istore_n 1, 11, 1, 0, 0, [])
  | 11 => (.iload_n 1, 12, 1, 0, 0, [])
  | 12 => (.sipush 1058, 15, 0, 0, 1058, [])
  | 15 => (.if_icmp .ge 24, 18, 39, 0, 0, [])
  | 18 => (.aload_n 0, 19, 0, 0, 0, [])
  | 19 => (.getfield 31, 22, 7, 1, 16, [])
  | 22 => (.iload_n 1, 23, 1, 0, 0, [])
  | 23 => (.aload_n 0, 24, 0, 0, 0, [])
  | 24 => (.getfield 31, 27, 7, 1, 16, [])
  | 27 => (.iload_n 1, 28, 1, 0, 0, [])
  | 28 => (.bipush 46, 30, 0, 0, 46, [])
  | 30 => (.iadd, 31, 0, 0, 0, [])
  | 31 => (.iaload, 32, 0, 0, 0, [])
  | 32 => (.iastore, 33, 0, 0, 0, [])
  | 33 => (.iinc 1 1, 36, 1, 0, 1, [])
  | 36 => (.goto (-25), 39, 11, 0, 0, [])
  | 39 => (.aload_n 0, 40, 0, 0, 0, [])
  | 40 => (.dup, 41, 0, 0, 0, [])
  | 41 => (.getfield 142, 44, 7, 0, 17, [])
  | 44 => (.iconst 1, 45, 0, 0, 1, [])
  | 45 => (.isub, 46, 0, 0, 0, [])
  | 46 => (.putfield 142, 49, 7, 0, 17, [])
  | 49 => (.iconst 0, 50, 0, 0, 0, [])
  | 50 => (.istore_n 1, 51, 1, 0, 0, [])
  | 51 => (.iload_n 1, 52, 1, 0, 0, [])
  | 52 => (.bipush 46, 54, 0, 0, 46, [])
  | 54 => (.if_icmp .ge 29, 57, 83, 0, 0, [])
  | 57 => (.aload_n 0, 58, 0, 0, 0, [])
  | 58 => (.getfield 31, 61, 7, 1, 16, [])
  | 61 => (.bipush 46, 63, 0, 0, 46, [])
  | 63 => (.aload_n 0, 64, 0, 0, 0, [])
  | 64 => (.getfield 142, 67, 7, 0, 17, [])
  | 67 => (.imul, 68, 0, 0, 0, [])
  | 68 => (.iload_n 1, 69, 1, 0, 0, [])
  | 69 => (.iadd, 70, 0, 0, 0, [])
  | 70 => (.aload_n 0, 71, 0, 0, 0, [])
  | 71 => (.getfield 19, 74, 7, 1, 5, [])
  | 74 => (.iload_n 1, 75, 1, 0, 0, [])
  | 75 => (.iaload, 76, 0, 0, 0, [])
  | 76 => (.iastore, 77, 0, 0, 0, [])
  | 77 => (.iinc 1 1, 80, 1, 0, 1, [])
  | 80 => (.goto (-29), 83, 51, 0, 0, [])
  | 83 => (.aload_n 0, 84, 0, 0, 0, [])
  | 84 => (.dup, 85, 0, 0, 0, [])
  | 85 => (.getfield 142, 88, 7, 0, 17, [])
  | 88 => (.iconst 1, 89, 0, 0, 1, [])
  | 89 => (.iadd, 90, 0, 0, 0, [])
  | 90 => (.putfield 142, 93, 7, 0, 17, [])
  | 93 => (.return_, 94, 0, 0, 0, [])
  | _ => (.nop, 1, 0, 0, 0, [])
def kt_M_steps : Nat → kx_E
  | 0 => (.aload_n 0, 1, 0, 0, 0, [])
  | 1 => (.getfield 138, 4, 7, 2, 4, [])
  | 4 => (.ifCond .ne 6, 7, 10, 0, 0, [])
  | 7 => (.ldc 157, 9, 0, 0, (-1000002), [])
  | 9 => (.ireturn, 10, 0, 0, 0, [])
  | 10 => (.iload_n 1, 11, 1, 0, 0, [])
  | 11 => (.i2l, 12, 0, 0, 0, [])
  | 12 => (.lconst 1, 13, 0, 0, 1, [])
  | 13 => (.ldc2_w 158, 16, 0, 0, 20, [])
  | 16 => (.invokestatic 57, 19, 116, 3, 0, [])
  | 19 => (.ifCond .ne 6, 22, 25, 0, 0, [])
  | 22 => (.ldc 67, 24, 0, 0, (-1000001), [])
  | 24 => (.ireturn, 25, 0, 0, 0, [])
  | 25 => (.aload_n 0, 26, 0, 0, 0, [])
  | 26 => (.getfield 19, 29, 7, 1, 5, [])
  | 29 => (.iconst 3, 30, 0, 0, 3, [])
  | 30 => (.iaload, 31, 0, 0, 0, [])
  | 31 => (.iload_n 1, 32, 1, 0, 0, [])
  | 32 => (.iadd, 33, 0, 0, 0, [])
  | 33 => (.sipush 999, 36, 0, 0, 999, [])
  | 36 => (.if_icmp .le 6, 39, 42, 0, 0, [])
  | 39 => (.ldc 84, 41, 0, 0, (-1000003), [])
  | 41 => (.ireturn, 42, 0, 0, 0, [])
  | 42 => (.iconst 0, 43, 0, 0, 0, [])
  | 43 => (.istore_n 2, 44, 2, 0, 0, [])
  | 44 => (.iload_n 2, 45, 2, 0, 0, [])
  | 45 => (.iload_n 1, 46, 1, 0, 0, [])
  | 46 => (.if_icmp .ge 17, 49, 63, 0, 0, [])
  | 49 => (.aload_n 0, 50, 0, 0, 0, [])
  | 50 => (.invokevirtual 160, 53, 142, 1, 0, [7])
  | 53 => (.aload_n 0, 54, 0, 0, 0, [])
  | 54 => (.invokevirtual 163, 57, 141, 1, 0, [7])
  | 57 => (.iinc 2 1, 60, 2, 0, 1, [])
  | 60 => (.goto (-16), 63, 44, 0, 0, [])
  | 63 => (.aload_n 0, 64, 0, 0, 0, [])
  | 64 => (.getfield 19, 67, 7, 1, 5, [])
  | 67 => (.iconst 4, 68, 0, 0, 4, [])
  | 68 => (.iaload, 69, 0, 0, 0, [])
  | 69 => (.ireturn, 70, 0, 0, 0, [])
  | _ => (.nop, 1, 0, 0, 0, [])
def kt_M_wind : Nat → kx_E
  | 0 => (.aload_n 0, 1, 0, 0, 0, [])
  | 1 => (.getfield 138, 4, 7, 2, 4, [])
  | 4 => (.ifCond .ne 6, 7, 10, 0, 0, [])
  | 7 => (.ldc 157, 9, 0, 0, (-1000002), [])
  | 9 => (.ireturn, 10, 0, 0, 0, [])
  | 10 => (.iload_n 1, 11, 1, 0, 0, [])
  | 11 => (.i2l, 12, 0, 0, 0, [])
  | 12 => (.lconst 0, 13, 0, 0, 0, [])
  | 13 => (.ldc2_w 166, 16, 0, 0, 5, [])
  | 16 => (.invokestatic 57, 19, 116, 3, 0, [])
  | 19 => (.ifCond .ne 6, 22, 25, 0, 0, [])
  | 22 => (.ldc 67, 24, 0, 0, (-1000001), [])
  | 24 => (.ireturn, 25, 0, 0, 0, [])
  | 25 => (.aload_n 0, 26, 0, 0, 0, [])
  | 26 => (.invokevirtual 160, 29, 142, 1, 0, [7])
  | 29 => (.aload_n 0, 30, 0, 0, 0, [])
  | 30 => (.getfield 19, 33, 7, 1, 5, [])
  | 33 => (.iconst 0, 34, 0, 0, 0, [])
  | 34 => (.iaload, 35, 0, 0, 0, [])
  | 35 => (.istore_n 2, 36, 2, 0, 0, [])
  | 36 => (.aload_n 0, 37, 0, 0, 0, [])
  | 37 => (.getfield 19, 40, 7, 1, 5, [])
  | 40 => (.iconst 0, 41, 0, 0, 0, [])
  | 41 => (.iload_n 1, 42, 1, 0, 0, [])
  | 42 => (.iastore, 43, 0, 0, 0, [])
  | 43 => (.iload_n 2, 44, 2, 0, 0, [])
  | 44 => (.ireturn, 45, 0, 0, 0, [])
  | _ => (.nop, 1, 0, 0, 0, [])
def kt_M_giveTo : Nat → kx_E
  | 0 => (.aload_n 0, 1, 0, 0, 0, [])
  | 1 => (.getfield 19, 4, 7, 1, 5, [])
  | 4 => (.iconst 4, 5, 0, 0, 4, [])
  | 5 => (.iload_n 1, 6, 1, 0, 0, [])
  | 6 => (.iastore, 7, 0, 0, 0, [])
  | 7 => (.aload_n 0, 8, 0, 0, 0, [])
  | 8 => (.getfield 19, 11, 7, 1, 5, [])
  | 11 => (.iconst 5, 12, 0, 0, 5, [])
  | 12 => (.iconst 0, 13, 0, 0, 0, [])
  | 13 => (.iastore, 14, 0, 0, 0, [])
  | 14 => (.return_, 15, 0, 0, 0, [])
  | _ => (.nop, 1, 0, 0, 0, [])
def kt_M_give : Nat → kx_E
  | 0 => (.aload_n 0, 1, 0, 0, 0, [])
  | 1 => (.iload_n 1, 2, 1, 0, 0, [])
  | 2 => (.invokevirtual 168, 5, 137, 2, 0, [7])
  | 5 => (.ifCond .ne 6, 8, 11, 0, 0, [])
  | 8 => (.ldc 67, 10, 0, 0, (-1000001), [])
  | 10 => (.ireturn, 11, 0, 0, 0, [])
  | 11 => (.aload_n 0, 12, 0, 0, 0, [])
  | 12 => (.invokevirtual 160, 15, 142, 1, 0, [7])
  | 15 => (.aload_n 0, 16, 0, 0, 0, [])
  | 16 => (.getfield 19, 19, 7, 1, 5, [])
  | 19 => (.iconst 4, 20, 0, 0, 4, [])
  | 20 => (.iaload, 21, 0, 0, 0, [])
  | 21 => (.istore_n 2, 22, 2, 0, 0, [])
  | 22 => (.aload_n 0, 23, 0, 0, 0, [])
  | 23 => (.iload_n 1, 24, 1, 0, 0, [])
  | 24 => (.invokevirtual 171, 27, 145, 2, 0, [7])
  | 27 => (.iload_n 2, 28, 2, 0, 0, [])
  | 28 => (.ireturn, 29, 0, 0, 0, [])
  | _ => (.nop, 1, 0, 0, 0, [])
def kt_M_order : Nat → kx_E
  | 0 => (.aload_n 0, 1, 0, 0, 0, [])
  | 1 => (.getfield 138, 4, 7, 2, 4, [])
  | 4 => (.ifCond .ne 6, 7, 10, 0, 0, [])
  | 7 => (.ldc 157, 9, 0, 0, (-1000002), [])
  | 9 => (.ireturn, 10, 0, 0, 0, [])
  | 10 => (.iload_n 1, 11, 1, 0, 0, [])
  | 11 => (.i2l, 12, 0, 0, 0, [])
  | 12 => (.lconst 1, 13, 0, 0, 1, [])
  | 13 => (.ldc2_w 174, 16, 0, 0, 40, [])
  | 16 => (.invokestatic 57, 19, 116, 3, 0, [])
  | 19 => (.ifCond .ne 6, 22, 25, 0, 0, [])
  | 22 => (.ldc 67, 24, 0, 0, (-1000001), [])
  | 24 => (.ireturn, 25, 0, 0, 0, [])
  | 25 => (.aload_n 0, 26, 0, 0, 0, [])
  | 26 => (.getfield 19, 29, 7, 1, 5, [])
  | 29 => (.iconst 2, 30, 0, 0, 2, [])
  | 30 => (.iaload, 31, 0, 0, 0, [])
  | 31 => (.iconst 4, 32, 0, 0, 4, [])
  | 32 => (.if_icmp .ne 6, 35, 38, 0, 0, [])
  | 35 => (.ldc 84, 37, 0, 0, (-1000003), [])
  | 37 => (.ireturn, 38, 0, 0, 0, [])
  | 38 => (.aload_n 0, 39, 0, 0, 0, [])
  | 39 => (.invokevirtual 160, 42, 142, 1, 0, [7])
  | 42 => (.aload_n 0, 43, 0, 0, 0, [])
  | 43 => (.getfield 19, 46, 7, 1, 5, [])
  | 46 => (.iconst 2, 47, 0, 0, 2, [])
  | 47 => (.iaload, 48, 0, 0, 0, [])
  | 48 => (.istore_n 2, 49, 2, 0, 0, [])
  | 49 => (.aload_n 0, 50, 0, 0, 0, [])
  | 50 => (.getfield 19, 53, 7, 1, 5, [])
  | 53 => (.bipush 30, 55, 0, 0, 30, [])
  | 55 => (.iload_n 2, 56, 2, 0, 0, [])
  | 56 => (.iadd, 57, 0, 0, 0, [])
  | 57 => (.iload_n 1, 58, 1, 0, 0, [])
  | 58 => (.iastore, 59, 0, 0, 0, [])
  | 59 => (.aload_n 0, 60, 0, 0, 0, [])
  | 60 => (.getfield 19, 63, 7, 1, 5, [])
  | 63 => (.bipush 34, 65, 0, 0, 34, [])
  | 65 => (.iload_n 2, 66, 2, 0, 0, [])
  | 66 => (.iadd, 67, 0, 0, 0, [])
  | 67 => (.iload_n 1, 68, 1, 0, 0, [])
  | 68 => (.iastore, 69, 0, 0, 0, [])
  | 69 => (.aload_n 0, 70, 0, 0, 0, [])
  | 70 => (.getfield 19, 73, 7, 1, 5, [])
  | 73 => (.bipush 38, 75, 0, 0, 38, [])
  | 75 => (.iload_n 2, 76, 2, 0, 0, [])
  | 76 => (.iadd, 77, 0, 0, 0, [])
  | 77 => (.iconst 0, 78, 0, 0, 0, [])
  | 78 => (.iastore, 79, 0, 0, 0, [])
  | 79 => (.aload_n 0, 80, 0, 0, 0, [])
  | 80 => (.getfield 19, 83, 7, 1, 5, [])
  | 83 => (.bipush 42, 85, 0, 0, 42, [])
  | 85 => (.iload_n 2, 86, 2, 0, 0, [])
  | 86 => (.iadd, 87, 0, 0, 0, [])
  | 87 => (.iconst 0, 88, 0, 0, 0, [])
  | 88 => (.iastore, 89, 0, 0, 0, [])
  | 89 => (.aload_n 0, 90, 0, 0, 0, [])
  | 90 => (.getfield 19, 93, 7, 1, 5, [])
  | 93 => (.iconst 2, 94, 0, 0, 2, [])
  | 94 => (.dup2, 95, 0, 0, 0, [])
  | 95 => (.iaload, 96, 0, 0, 0, [])
  | 96 => (.iconst 1, 97, 0, 0, 1, [])
  | 97 => (.iadd, 98, 0, 0, 0, [])
  | 98 => (.iastore, 99, 0, 0, 0, [])
  | 99 => (.iload_n 2, 100, 2, 0, 0, [])
  | 100 => (.ireturn, 101, 0, 0, 0, [])
  | _ => (.nop, 1, 0, 0, 0, [])
def kt_M_back : Nat → kx_E
  | 0 => (.aload_n 0, 1, 0, 0, 0, [])
  | 1 => (.iload_n 1, 2, 1, 0, 0, [])
  | 2 => (.invokevirtual 176, 5, 138, 2, 0, [7])
  | 5 => (.ifCond .ne 6, 8, 11, 0, 0, [])
  | 8 => (.ldc 67, 10, 0, 0, (-1000001), [])
  | 10 => (.ireturn, 11, 0, 0, 0, [])
  | 11 => (.aload_n 0, 12, 0, 0, 0, [])
  | 12 => (.getfield 19, 15, 7, 1, 5, [])
  | 15 => (.bipush 38, 17, 0, 0, 38, [])
  | 17 => (.iload_n 1, 18, 1, 0, 0, [])
  | 18 => (.iadd, 19, 0, 0, 0, [])
  | 19 => (.iaload, 20, 0, 0, 0, [])
  | 20 => (.ifCond .eq 6, 23, 26, 0, 0, [])
  | 23 => (.ldc 157, 25, 0, 0, (-1000002), [])
  | 25 => (.ireturn, 26, 0, 0, 0, [])
  | 26 => (.aload_n 0, 27, 0, 0, 0, [])
  | 27 => (.invokevirtual 160, 30, 142, 1, 0, [7])
  | 30 => (.aload_n 0, 31, 0, 0, 0, [])
  | 31 => (.getfield 19, 34, 7, 1, 5, [])
  | 34 => (.bipush 38, 36, 0, 0, 38, [])
  | 36 => (.iload_n 1, 37, 1, 0, 0, [])
  | 37 => (.iadd, 38, 0, 0, 0, [])
  | 38 => (.iconst 2, 39, 0, 0, 2, [])
  | 39 => (.iastore, 40, 0, 0, 0, [])
  | 40 => (.aload_n 0, 41, 0, 0, 0, [])
  | 41 => (.getfield 19, 44, 7, 1, 5, [])
  | 44 => (.bipush 34, 46, 0, 0, 34, [])
  | 46 => (.iload_n 1, 47, 1, 0, 0, [])
  | 47 => (.iadd, 48, 0, 0, 0, [])
  | 48 => (.iaload, 49, 0, 0, 0, [])
  | 49 => (.ireturn, 50, 0, 0, 0, [])
  | _ => (.nop, 1, 0, 0, 0, [])
def kt_M_undo : Nat → kx_E
  | 0 => (.aload_n 0, 1, 0, 0, 0, [])
  | 1 => (.getfield 142, 4, 7, 0, 17, [])
  | 4 => (.ifCond .ne 6, 7, 10, 0, 0, [])
  | 7 => (.ldc 157, 9, 0, 0, (-1000002), [])
  | 9 => (.ireturn, 10, 0, 0, 0, [])
  | 10 => (.aload_n 0, 11, 0, 0, 0, [])
  | 11 => (.dup, 12, 0, 0, 0, [])
  | 12 => (.getfield 142, 15, 7, 0, 17, [])
  | 15 => (.iconst 1, 16, 0, 0, 1, [])
  | 16 => (.isub, 17, 0, 0, 0, [])
  | 17 => (.putfield 142, 20, 7, 0, 17, [])
  | 20 => (.iconst 0, 21, 0, 0, 0, [])
  | 21 => (.istore_n 1, 22, 1, 0, 0, [])
  | 22 => (.iload_n 1, 23, 1, 0, 0, [])
  | 23 => (.bipush 46, 25, 0, 0, 46, [])
  | 25 => (.if_icmp .ge 29, 28, 54, 0, 0, [])
  | 28 => (.aload_n 0, 29, 0, 0, 0, [])
  | 29 => (.getfield 19, 32, 7, 1, 5, [])
  | 32 => (.iload_n 1, 33, 1, 0, 0, [])
  | 33 => (.aload_n 0, 34, 0, 0, 0, [])
  | 34 => (.getfield 31, 37, 7, 1, 16, [])
  | 37 => (.bipush 46, 39, 0, 0, 46, [])
  | 39 => (.aload_n 0, 40, 0, 0, 0, [])
  | 40 => (.getfield 142, 43, 7, 0, 17, [])
  | 43 => (.imul, 44, 0, 0, 0, [])
  | 44 => (.iload_n 1, 45, 1, 0, 0, [])
  | 45 => (.iadd, 46, 0, 0, 0, [])
  | 46 => (.iaload, 47, 0, 0, 0, [])
  | 47 => (.iastore, 48, 0, 0, 0, [])
  | 48 => (.iinc 1 1, 51, 1, 0, 1, [])
  | 51 => (.goto (-29), 54, 22, 0, 0, [])
  | 54 => (.aload_n 0, 55, 0, 0, 0, [])
  | 55 => (.getfield 142, 58, 7, 0, 17, [])
  | 58 => (.ireturn, 59, 0, 0, 0, [])
  | _ => (.nop, 1, 0, 0, 0, [])
end
section
def kt_M_head : Nat → kx_E
  | 0 => (.aload_n 0, 1, 0, 0, 0, [])
  | 1 => (.iload_n 1, 2, 1, 0, 0, [])
  | 2 => (.invokevirtual 168, 5, 137, 2, 0, [7])
  | 5 => (.ifCond .ne 6, 8, 11, 0, 0, [])
  | 8 => (.ldc 67, 10, 0, 0, (-1000001), [])
  | 10 => (.ireturn, 11, 0, 0, 0, [])
  | 11 => (.iload_n 2, 12, 2, 0, 0, [])
  | 12 => (.tableswitch 78 0 3 #[32, 42, 52, 68], 44, 90, 0, 0, [44, 54, 64, 80])
  | 44 => (.aload_n 0, 45, 0, 0, 0, [])
  | 45 => (.getfield 19, 48, 7, 1, 5, [])
  | 48 => (.bipush 12, 50, 0, 0, 12, [])
  | 50 => (.iload_n 1, 51, 1, 0, 0, [])
  | 51 => (.iadd, 52, 0, 0, 0, [])
  | 52 => (.iaload, 53, 0, 0, 0, [])
  | 53 => (.ireturn, 54, 0, 0, 0, [])
  | 54 => (.aload_n 0, 55, 0, 0, 0, [])
  | 55 => (.getfield 19, 58, 7, 1, 5, [])
  | 58 => (.bipush 18, 60, 0, 0, 18, [])
  | 60 => (.iload_n 1, 61, 1, 0, 0, [])
  | 61 => (.iadd, 62, 0, 0, 0, [])
  | 62 => (.iaload, 63, 0, 0, 0, [])
  | 63 => (.ireturn, 64, 0, 0, 0, [])
  | 64 => (.aload_n 0, 65, 0, 0, 0, [])
  | 65 => (.getfield 19, 68, 7, 1, 5, [])
  | 68 => (.iconst 4, 69, 0, 0, 4, [])
  | 69 => (.iaload, 70, 0, 0, 0, [])
  | 70 => (.iload_n 1, 71, 1, 0, 0, [])
  | 71 => (.if_icmp .ne 7, 74, 78, 0, 0, [])
  | 74 => (.iconst 1, 75, 0, 0, 1, [])
  | 75 => (.goto 4, 78, 79, 0, 0, [])
  | 78 => (.iconst 0, 79, 0, 0, 0, [])
  | 79 => (.ireturn, 80, 0, 0, 0, [])
  | 80 => (.aload_n 0, 81, 0, 0, 0, [])
  | 81 => (.getfield 19, 84, 7, 1, 5, [])
  | 84 => (.bipush 24, 86, 0, 0, 24, [])
  | 86 => (.iload_n 1, 87, 1, 0, 0, [])
  | 87 => (.iadd, 88, 0, 0, 0, [])
  | 88 => (.iaload, 89, 0, 0, 0, [])
  | 89 => (.ireturn, 90, 0, 0, 0, [])
  | 90 => (.ldc 67, 92, 0, 0, (-1000001), [])
  | 92 => (.ireturn, 93, 0, 0, 0, [])
  | _ => (.nop, 1, 0, 0, 0, [])
def kt_M_orderHas : Nat → kx_E
  | 0 => (.aload_n 0, 1, 0, 0, 0, [])
  | 1 => (.iload_n 1, 2, 1, 0, 0, [])
  | 2 => (.invokevirtual 176, 5, 138, 2, 0, [7])
  | 5 => (.ifCond .eq 15, 8, 20, 0, 0, [])
  | 8 => (.iload_n 2, 9, 2, 0, 0, [])
  | 9 => (.i2l, 10, 0, 0, 0, [])
  | 10 => (.lconst 0, 11, 0, 0, 0, [])
  | 11 => (.ldc2_w 65, 14, 0, 0, 2, [])
  | 14 => (.invokestatic 57, 17, 116, 3, 0, [])
  | 17 => (.ifCond .ne 6, 20, 23, 0, 0, [])
  | 20 => (.ldc 67, 22, 0, 0, (-1000001), [])
  | 22 => (.ireturn, 23, 0, 0, 0, [])
  | 23 => (.iload_n 2, 24, 2, 0, 0, [])
  | 24 => (.ifCond .ne 15, 27, 39, 0, 0, [])
  | 27 => (.aload_n 0, 28, 0, 0, 0, [])
  | 28 => (.getfield 19, 31, 7, 1, 5, [])
  | 31 => (.bipush 30, 33, 0, 0, 30, [])
  | 33 => (.iload_n 1, 34, 1, 0, 0, [])
  | 34 => (.iadd, 35, 0, 0, 0, [])
  | 35 => (.iaload, 36, 0, 0, 0, [])
  | 36 => (.goto 29, 39, 65, 0, 0, [])
  | 39 => (.iload_n 2, 40, 2, 0, 0, [])
  | 40 => (.iconst 1, 41, 0, 0, 1, [])
  | 41 => (.if_icmp .ne 15, 44, 56, 0, 0, [])
  | 44 => (.aload_n 0, 45, 0, 0, 0, [])
  | 45 => (.getfield 19, 48, 7, 1, 5, [])
  | 48 => (.bipush 34, 50, 0, 0, 34, [])
  | 50 => (.iload_n 1, 51, 1, 0, 0, [])
  | 51 => (.iadd, 52, 0, 0, 0, [])
  | 52 => (.iaload, 53, 0, 0, 0, [])
  | 53 => (.goto 12, 56, 65, 0, 0, [])
  | 56 => (.aload_n 0, 57, 0, 0, 0, [])
  | 57 => (.getfield 19, 60, 7, 1, 5, [])
  | 60 => (.bipush 38, 62, 0, 0, 38, [])
  | 62 => (.iload_n 1, 63, 1, 0, 0, [])
  | 63 => (.iadd, 64, 0, 0, 0, [])
  | 64 => (.iaload, 65, 0, 0, 0, [])
  | 65 => (.ireturn, 66, 0, 0, 0, [])
  | _ => (.nop, 1, 0, 0, 0, [])
def kt_M_hat : Nat → kx_E
  | 0 => (.aload_n 0, 1, 0, 0, 0, [])
  | 1 => (.getfield 138, 4, 7, 2, 4, [])
  | 4 => (.ifCond .ne 6, 7, 10, 0, 0, [])
  | 7 => (.ldc 157, 9, 0, 0, (-1000002), [])
  | 9 => (.ireturn, 10, 0, 0, 0, [])
  | 10 => (.iload_n 1, 11, 1, 0, 0, [])
  | 11 => (.tableswitch 57 0 3 #[29, 36, 43, 50], 40, 68, 0, 0, [40, 47, 54, 61])
  | 40 => (.aload_n 0, 41, 0, 0, 0, [])
  | 41 => (.getfield 19, 44, 7, 1, 5, [])
  | 44 => (.iconst 4, 45, 0, 0, 4, [])
  | 45 => (.iaload, 46, 0, 0, 0, [])
  | 46 => (.ireturn, 47, 0, 0, 0, [])
  | 47 => (.aload_n 0, 48, 0, 0, 0, [])
  | 48 => (.getfield 19, 51, 7, 1, 5, [])
  | 51 => (.iconst 5, 52, 0, 0, 5, [])
  | 52 => (.iaload, 53, 0, 0, 0, [])
  | 53 => (.ireturn, 54, 0, 0, 0, [])
  | 54 => (.aload_n 0, 55, 0, 0, 0, [])
  | 55 => (.getfield 19, 58, 7, 1, 5, [])
  | 58 => (.iconst 0, 59, 0, 0, 0, [])
  | 59 => (.iaload, 60, 0, 0, 0, [])
  | 60 => (.ireturn, 61, 0, 0, 0, [])
  | 61 => (.aload_n 0, 62, 0, 0, 0, [])
  | 62 => (.getfield 19, 65, 7, 1, 5, [])
  | 65 => (.iconst 3, 66, 0, 0, 3, [])
  | 66 => (.iaload, 67, 0, 0, 0, [])
  | 67 => (.ireturn, 68, 0, 0, 0, [])
  | 68 => (.ldc 67, 70, 0, 0, (-1000001), [])
  | 70 => (.ireturn, 71, 0, 0, 0, [])
  | _ => (.nop, 1, 0, 0, 0, [])
def kt_M_putAside : Nat → kx_E
  | 0 => (.iconst 0, 1, 0, 0, 0, [])
  | 1 => (.istore_n 1, 2, 1, 0, 0, [])
  | 2 => (.iload_n 1, 3, 1, 0, 0, [])
  | 3 => (.bipush 46, 5, 0, 0, 46, [])
  | 5 => (.if_icmp .ge 21, 8, 26, 0, 0, [])
  | 8 => (.aload_n 0, 9, 0, 0, 0, [])
  | 9 => (.getfield 34, 12, 7, 1, 18, [])
  | 12 => (.iload_n 1, 13, 1, 0, 0, [])
  | 13 => (.aload_n 0, 14, 0, 0, 0, [])
  | 14 => (.getfield 19, 17, 7, 1, 5, [])
  | 17 => (.iload_n 1, 18, 1, 0, 0, [])
  | 18 => (.iaload, 19, 0, 0, 0, [])
  | 19 => (.iastore, 20, 0, 0, 0, [])
  | 20 => (.iinc 1 1, 23, 1, 0, 1, [])
  | 23 => (.goto (-21), 26, 2, 0, 0, [])
  | 26 => (.return_, 27, 0, 0, 0, [])
  | _ => (.nop, 1, 0, 0, 0, [])
def kt_M_takeBack : Nat → kx_E
  | 0 => (.iconst 0, 1, 0, 0, 0, [])
  | 1 => (.istore_n 1, 2, 1, 0, 0, [])
  | 2 => (.iload_n 1, 3, 1, 0, 0, [])
  | 3 => (.bipush 46, 5, 0, 0, 46, [])
  | 5 => (.if_icmp .ge 21, 8, 26, 0, 0, [])
  | 8 => (.aload_n 0, 9, 0, 0, 0, [])
  | 9 => (.getfield 19, 12, 7, 1, 5, [])
  | 12 => (.iload_n 1, 13, 1, 0, 0, [])
  | 13 => (.aload_n 0, 14, 0, 0, 0, [])
  | 14 => (.getfield 34, 17, 7, 1, 18, [])
  | 17 => (.iload_n 1, 18, 1, 0, 0, [])
  | 18 => (.iaload, 19, 0, 0, 0, [])
  | 19 => (.iastore, 20, 0, 0, 0, [])
  | 20 => (.iinc 1 1, 23, 1, 0, 1, [])
  | 23 => (.goto (-21), 26, 2, 0, 0, [])
  | 26 => (.return_, 27, 0, 0, 0, [])
  | _ => (.nop, 1, 0, 0, 0, [])
def kt_M_goOn : Nat → kx_E
  | 0 => (.iconst 0, 1, 0, 0, 0, [])
  | 1 => (.istore_n 2, 2, 2, 0, 0, [])
  | 2 => (.iload_n 2, 3, 2, 0, 0, [])
  | 3 => (.iload_n 1, 4, 1, 0, 0, [])
  | 4 => (.if_icmp .ge 13, 7, 17, 0, 0, [])
  | 7 => (.aload_n 0, 8, 0, 0, 0, [])
  | 8 => (.invokevirtual 163, 11, 141, 1, 0, [7])
  | 11 => (.iinc 2 1, 14, 2, 0, 1, [])
  | 14 => (.goto (-12), 17, 2, 0, 0, [])
  | 17 => (.return_, 18, 0, 0, 0, [])
  | _ => (.nop, 1, 0, 0, 0, [])
def kt_M_isFar : Nat → kx_E
  | 0 => (.iload_n 0, 1, 0, 0, 0, [])
  | 1 => (.i2l, 2, 0, 0, 0, [])
  | 2 => (.lconst 0, 3, 0, 0, 0, [])
  | 3 => (.ldc2_w 179, 6, 0, 0, 60, [])
  | 6 => (.invokestatic 57, 9, 116, 3, 0, [])
  | 9 => (.ireturn, 10, 1, 0, 0, [])
  | _ => (.nop, 1, 0, 0, 0, [])
def kt_M_who : Nat → kx_E
  | 0 => (.aload_n 0, 1, 0, 0, 0, [])
  | 1 => (.getfield 138, 4, 7, 2, 4, [])
  | 4 => (.ifCond .ne 6, 7, 10, 0, 0, [])
  | 7 => (.ldc 157, 9, 0, 0, (-1000002), [])
  | 9 => (.ireturn, 10, 0, 0, 0, [])
  | 10 => (.iload_n 1, 11, 1, 0, 0, [])
  | 11 => (.invokestatic 181, 14, 156, 1, 0, [])
  | 14 => (.ifCond .ne 6, 17, 20, 0, 0, [])
  | 17 => (.ldc 67, 19, 0, 0, (-1000001), [])
  | 19 => (.ireturn, 20, 0, 0, 0, [])
  | 20 => (.aload_n 0, 21, 0, 0, 0, [])
  | 21 => (.invokevirtual 184, 24, 153, 1, 0, [7])
  | 24 => (.aload_n 0, 25, 0, 0, 0, [])
  | 25 => (.iload_n 1, 26, 1, 0, 0, [])
  | 26 => (.invokevirtual 187, 29, 155, 2, 0, [7])
  | 29 => (.aload_n 0, 30, 0, 0, 0, [])
  | 30 => (.getfield 19, 33, 7, 1, 5, [])
  | 33 => (.iconst 4, 34, 0, 0, 4, [])
  | 34 => (.iaload, 35, 0, 0, 0, [])
  | 35 => (.istore_n 2, 36, 2, 0, 0, [])
  | 36 => (.aload_n 0, 37, 0, 0, 0, [])
  | 37 => (.invokevirtual 190, 40, 154, 1, 0, [7])
  | 40 => (.iload_n 2, 41, 2, 0, 0, [])
  | 41 => (.ireturn, 42, 0, 0, 0, [])
  | _ => (.nop, 1, 0, 0, 0, [])
def kt_M_gets : Nat → kx_E
  | 0 => (.aload_n 0, 1, 0, 0, 0, [])
  | 1 => (.iload_n 1, 2, 1, 0, 0, [])
  | 2 => (.invokevirtual 168, 5, 137, 2, 0, [7])
  | 5 => (.ifCond .ne 6, 8, 11, 0, 0, [])
  | 8 => (.ldc 67, 10, 0, 0, (-1000001), [])
  | 10 => (.ireturn, 11, 0, 0, 0, [])
  | 11 => (.aload_n 0, 12, 0, 0, 0, [])
  | 12 => (.invokevirtual 184, 15, 153, 1, 0, [7])
  | 15 => (.iconst 0, 16, 0, 0, 0, [])
  | 16 => (.istore_n 2, 17, 2, 0, 0, [])
  | 17 => (.iload_n 2, 18, 2, 0, 0, [])
  | 18 => (.bipush 60, 20, 0, 0, 60, [])
  | 20 => (.if_icmp .ge 23, 23, 43, 0, 0, [])
  | 23 => (.aload_n 0, 24, 0, 0, 0, [])
  | 24 => (.getfield 19, 27, 7, 1, 5, [])
  | 27 => (.iconst 4, 28, 0, 0, 4, [])
  | 28 => (.iaload, 29, 0, 0, 0, [])
  | 29 => (.iload_n 1, 30, 1, 0, 0, [])
  | 30 => (.if_icmp .eq 13, 33, 43, 0, 0, [])
  | 33 => (.aload_n 0, 34, 0, 0, 0, [])
  | 34 => (.invokevirtual 163, 37, 141, 1, 0, [7])
  | 37 => (.iinc 2 1, 40, 2, 0, 1, [])
  | 40 => (.goto (-23), 43, 17, 0, 0, [])
  | 43 => (.aload_n 0, 44, 0, 0, 0, [])
  | 44 => (.getfield 19, 47, 7, 1, 5, [])
  | 47 => (.iconst 4, 48, 0, 0, 4, [])
  | 48 => (.iaload, 49, 0, 0, 0, [])
  | 49 => (.iload_n 1, 50, 1, 0, 0, [])
  | 50 => (.if_icmp .ne 7, 53, 57, 0, 0, [])
  | 53 => (.iconst 1, 54, 0, 0, 1, [])
  | 54 => (.goto 4, 57, 58, 0, 0, [])
  | 57 => (.iconst 0, 58, 0, 0, 0, [])
  | 58 => (.istore_n 3, 59, 3, 0, 0, [])
  | 59 => (.aload_n 0, 60, 0, 0, 0, [])
  | 60 => (.invokevirtual 190, 63, 154, 1, 0, [7])
  | 63 => (.iload_n 3, 64, 3, 0, 0, [])
  | 64 => (.ifCond .eq 7, 67, 71, 0, 0, [])
  | 67 => (.iload_n 2, 68, 2, 0, 0, [])
  | 68 => (.goto 5, 71, 73, 0, 0, [])
  | 71 => (.ldc 193, 73, 0, 0, (-1000000), [])
  | 73 => (.ireturn, 74, 0, 0, 0, [])
  | _ => (.nop, 1, 0, 0, 0, [])
def kt_M_ever : Nat → kx_E
  | 0 => (.aload_n 0, 1, 0, 0, 0, [])
  | 1 => (.getfield 138, 4, 7, 2, 4, [])
  | 4 => (.ifCond .ne 6, 7, 10, 0, 0, [])
  | 7 => (.ldc 157, 9, 0, 0, (-1000002), [])
  | 9 => (.ireturn, 10, 0, 0, 0, [])
  | 10 => (.iload_n 1, 11, 1, 0, 0, [])
  | 11 => (.invokestatic 181, 14, 156, 1, 0, [])
  | 14 => (.ifCond .ne 6, 17, 20, 0, 0, [])
  | 17 => (.ldc 67, 19, 0, 0, (-1000001), [])
  | 19 => (.ireturn, 20, 0, 0, 0, [])
  | 20 => (.aload_n 0, 21, 0, 0, 0, [])
  | 21 => (.invokevirtual 184, 24, 153, 1, 0, [7])
  | 24 => (.iconst 1, 25, 0, 0, 1, [])
  | 25 => (.aload_n 0, 26, 0, 0, 0, [])
  | 26 => (.getfield 19, 29, 7, 1, 5, [])
  | 29 => (.iconst 4, 30, 0, 0, 4, [])
  | 30 => (.iaload, 31, 0, 0, 0, [])
  | 31 => (.ishl, 32, 0, 0, 0, [])
  | 32 => (.istore_n 2, 33, 2, 0, 0, [])
  | 33 => (.iconst 0, 34, 0, 0, 0, [])
  | 34 => (.istore_n 3, 35, 3, 0, 0, [])
  | 35 => (.iload_n 3, 36, 3, 0, 0, [])
  | 36 => (.iload_n 1, 37, 1, 0, 0, [])
  | 37 => (.if_icmp .ge 24, 40, 61, 0, 0, [])
  | 40 => (.aload_n 0, 41, 0, 0, 0, [])
  | 41 => (.invokevirtual 163, 44, 141, 1, 0, [7])
  | 44 => (.iload_n 2, 45, 2, 0, 0, [])
  | 45 => (.iconst 1, 46, 0, 0, 1, [])
  | 46 => (.aload_n 0, 47, 0, 0, 0, [])
  | 47 => (.getfield 19, 50, 7, 1, 5, [])
  | 50 => (.iconst 4, 51, 0, 0, 4, [])
  | 51 => (.iaload, 52, 0, 0, 0, [])
  | 52 => (.ishl, 53, 0, 0, 0, [])
  | 53 => (.ior, 54, 0, 0, 0, [])
  | 54 => (.istore_n 2, 55, 2, 0, 0, [])
  | 55 => (.iinc 3 1, 58, 3, 0, 1, [])
  | 58 => (.goto (-23), 61, 35, 0, 0, [])
  | 61 => (.aload_n 0, 62, 0, 0, 0, [])
  | 62 => (.invokevirtual 190, 65, 154, 1, 0, [7])
  | 65 => (.iload_n 2, 66, 2, 0, 0, [])
  | 66 => (.ireturn, 67, 0, 0, 0, [])
  | _ => (.nop, 1, 0, 0, 0, [])
def kt_M_isAlike : Nat → kx_E
  | 0 => (.iconst 1, 1, 0, 0, 1, [])
  | 1 => (.istore_n 3, 2, 3, 0, 0, [])
  | 2 => (.iconst 0, 3, 0, 0, 0, [])
  | 3 => (.istore 4, 5, 4, 0, 0, [])
  | 5 => (.iload 4, 7, 4, 0, 0, [])
  | 7 => (.bipush 6, 9, 0, 0, 6, [])
  | 9 => (.if_icmp .ge 46, 12, 55, 0, 0, [])
  | 12 => (.iload_n 3, 13, 3, 0, 0, [])
  | 13 => (.ifCond .eq 34, 16, 47, 0, 0, [])
  | 16 => (.aload_n 0, 17, 0, 0, 0, [])
  | 17 => (.getfield 37, 20, 7, 1, 19, [])
  | 20 => (.bipush 6, 22, 0, 0, 6, [])
  | 22 => (.iload_n 1, 23, 1, 0, 0, [])
  | 23 => (.imul, 24, 0, 0, 0, [])
  | 24 => (.iload 4, 26, 4, 0, 0, [])
  | 26 => (.iadd, 27, 0, 0, 0, [])
  | 27 => (.iaload, 28, 0, 0, 0, [])
  | 28 => (.aload_n 0, 29, 0, 0, 0, [])
  | 29 => (.getfield 37, 32, 7, 1, 19, [])
  | 32 => (.bipush 6, 34, 0, 0, 6, [])
  | 34 => (.iload_n 2, 35, 2, 0, 0, [])
  | 35 => (.imul, 36, 0, 0, 0, [])
  | 36 => (.iload 4, 38, 4, 0, 0, [])
  | 38 => (.iadd, 39, 0, 0, 0, [])
  | 39 => (.iaload, 40, 0, 0, 0, [])
  | 40 => (.if_icmp .ne 7, 43, 47, 0, 0, [])
  | 43 => (.iconst 1, 44, 0, 0, 1, [])
  | 44 => (.goto 4, 47, 48, 0, 0, [])
  | 47 => (.iconst 0, 48, 0, 0, 0, [])
  | 48 => (.istore_n 3, 49, 3, 0, 0, [])
  | 49 => (.iinc 4 1, 52, 4, 0, 1, [])
  | 52 => (.goto (-47), 55, 5, 0, 0, [])
  | 55 => (.iload_n 3, 56, 3, 0, 0, [])
  | 56 => (.ireturn, 57, 1, 0, 0, [])
  | _ => (.nop, 1, 0, 0, 0, [])
def kt_M_round : Nat → kx_E
  | 0 => (.aload_n 0, 1, 0, 0, 0, [])
  | 1 => (.getfield 138, 4, 7, 2, 4, [])
  | 4 => (.ifCond .ne 6, 7, 10, 0, 0, [])
  | 7 => (.ldc 157, 9, 0, 0, (-1000002), [])
  | 9 => (.ireturn, 10, 0, 0, 0, [])
  | 10 => (.iload_n 1, 11, 1, 0, 0, [])
  | 11 => (.i2l, 12, 0, 0, 0, [])
  | 12 => (.lconst 0, 13, 0, 0, 0, [])
  | 13 => (.lconst 1, 14, 0, 0, 1, [])
  | 14 => (.invokestatic 57, 17, 116, 3, 0, [])
  | 17 => (.ifCond .ne 6, 20, 23, 0, 0, [])
  | 20 => (.ldc 67, 22, 0, 0, (-1000001), [])
  | 22 => (.ireturn, 23, 0, 0, 0, [])
  | 23 => (.aload_n 0, 24, 0, 0, 0, [])
  | 24 => (.invokevirtual 184, 27, 153, 1, 0, [7])
  | 27 => (.iconst 0, 28, 0, 0, 0, [])
  | 28 => (.istore_n 2, 29, 2, 0, 0, [])
  | 29 => (.iload_n 2, 30, 2, 0, 0, [])
  | 30 => (.bipush 60, 32, 0, 0, 60, [])
  | 32 => (.if_icmp .gt 94, 35, 126, 0, 0, [])
  | 35 => (.aload_n 0, 36, 0, 0, 0, [])
  | 36 => (.getfield 37, 39, 7, 1, 19, [])
  | 39 => (.bipush 6, 41, 0, 0, 6, [])
  | 41 => (.iload_n 2, 42, 2, 0, 0, [])
  | 42 => (.imul, 43, 0, 0, 0, [])
  | 43 => (.aload_n 0, 44, 0, 0, 0, [])
  | 44 => (.getfield 19, 47, 7, 1, 5, [])
  | 47 => (.iconst 4, 48, 0, 0, 4, [])
  | 48 => (.iaload, 49, 0, 0, 0, [])
  | 49 => (.iastore, 50, 0, 0, 0, [])
  | 50 => (.aload_n 0, 51, 0, 0, 0, [])
  | 51 => (.getfield 37, 54, 7, 1, 19, [])
  | 54 => (.bipush 6, 56, 0, 0, 6, [])
  | 56 => (.iload_n 2, 57, 2, 0, 0, [])
  | 57 => (.imul, 58, 0, 0, 0, [])
  | 58 => (.iconst 1, 59, 0, 0, 1, [])
  | 59 => (.iadd, 60, 0, 0, 0, [])
  | 60 => (.aload_n 0, 61, 0, 0, 0, [])
  | 61 => (.getfield 19, 64, 7, 1, 5, [])
  | 64 => (.iconst 5, 65, 0, 0, 5, [])
  | 65 => (.iaload, 66, 0, 0, 0, [])
  | 66 => (.iastore, 67, 0, 0, 0, [])
  | 67 => (.iconst 0, 68, 0, 0, 0, [])
  | 68 => (.istore_n 3, 69, 3, 0, 0, [])
  | 69 => (.iload_n 3, 70, 3, 0, 0, [])
  | 70 => (.iconst 4, 71, 0, 0, 4, [])
  | 71 => (.if_icmp .ge 45, 74, 116, 0, 0, [])
  | 74 => (.aload_n 0, 75, 0, 0, 0, [])
  | 75 => (.getfield 37, 78, 7, 1, 19, [])
  | 78 => (.bipush 6, 80, 0, 0, 6, [])
  | 80 => (.iload_n 2, 81, 2, 0, 0, [])
  | 81 => (.imul, 82, 0, 0, 0, [])
  | 82 => (.iconst 2, 83, 0, 0, 2, [])
  | 83 => (.iadd, 84, 0, 0, 0, [])
  | 84 => (.iload_n 3, 85, 3, 0, 0, [])
  | 85 => (.iadd, 86, 0, 0, 0, [])
  | 86 => (.iload_n 3, 87, 3, 0, 0, [])
  | 87 => (.aload_n 0, 88, 0, 0, 0, [])
  | 88 => (.getfield 19, 91, 7, 1, 5, [])
  | 91 => (.iconst 2, 92, 0, 0, 2, [])
  | 92 => (.iaload, 93, 0, 0, 0, [])
  | 93 => (.if_icmp .ge 15, 96, 108, 0, 0, [])
  | 96 => (.aload_n 0, 97, 0, 0, 0, [])
  | 97 => (.getfield 19, 100, 7, 1, 5, [])
  | 100 => (.bipush 34, 102, 0, 0, 34, [])
  | 102 => (.iload_n 3, 103, 3, 0, 0, [])
  | 103 => (.iadd, 104, 0, 0, 0, [])
  | 104 => (.iaload, 105, 0, 0, 0, [])
  | 105 => (.goto 4, 108, 109, 0, 0, [])
  | 108 => (.iconst 0, 109, 0, 0, 0, [])
  | 109 => (.iastore, 110, 0, 0, 0, [])
  | 110 => (.iinc 3 1, 113, 3, 0, 1, [])
  | 113 => (.goto (-44), 116, 69, 0, 0, [])
  | 116 => (.aload_n 0, 117, 0, 0, 0, [])
  | 117 => (.invokevirtual 163, 120, 141, 1, 0, [7])
  | 120 => (.iinc 2 1, 123, 2, 0, 1, [])
  | 123 => (.goto (-94), 126, 29, 0, 0, [])
  | 126 => (.aload_n 0, 127, 0, 0, 0, [])
  | 127 => (.invokevirtual 190, 130, 154, 1, 0, [7])
  | 130 => (.iconst 1, 131, 0, 0, 1, [])
  | 131 => (.istore_n 2, 132, 2, 0, 0, [])
  | 132 => (.iload_n 2, 133, 2, 0, 0, [])
  | 133 => (.bipush 60, 135, 0, 0, 60, [])
  | 135 => (.if_icmp .gt 41, 138, 176, 0, 0, [])
  | 138 => (.iconst 0, 139, 0, 0, 0, [])
  | 139 => (.istore_n 3, 140, 3, 0, 0, [])
  | 140 => (.iload_n 3, 141, 3, 0, 0, [])
  | 141 => (.iload_n 2, 142, 2, 0, 0, [])
  | 142 => (.if_icmp .ge 28, 145, 170, 0, 0, [])
  | 145 => (.aload_n 0, 146, 0, 0, 0, [])
  | 146 => (.iload_n 3, 147, 3, 0, 0, [])
  | 147 => (.iload_n 2, 148, 2, 0, 0, [])
  | 148 => (.invokevirtual 194, 151, 160, 3, 0, [7])
  | 151 => (.ifCond .eq 13, 154, 164, 0, 0, [])
  | 154 => (.iload_n 1, 155, 1, 0, 0, [])
  | 155 => (.ifCond .ne 7, 158, 162, 0, 0, [])
  | 158 => (.iload_n 2, 159, 2, 0, 0, [])
  | 159 => (.goto 4, 162, 163, 0, 0, [])
  | 162 => (.iload_n 3, 163, 3, 0, 0, [])
  | 163 => (.ireturn, 164, 0, 0, 0, [])
  | 164 => (.iinc 3 1, 167, 3, 0, 1, [])
  | 167 => (.goto (-27), 170, 140, 0, 0, [])
  | 170 => (.iinc 2 1, 173, 2, 0, 1, [])
  | 173 => (.goto (-41), 176, 132, 0, 0, [])
  | 176 => (.ldc 193, 178, 0, 0, (-1000000), [])
  | 178 => (.ireturn, 179, 0, 0, 0, [])
  | _ => (.nop, 1, 0, 0, 0, [])
def kt_M_doneIn : Nat → kx_E
  | 0 => (.iconst 0, 1, 0, 0, 0, [])
  | 1 => (.istore_n 2, 2, 2, 0, 0, [])
  | 2 => (.iload_n 2, 3, 2, 0, 0, [])
  | 3 => (.bipush 60, 5, 0, 0, 60, [])
  | 5 => (.if_icmp .ge 25, 8, 30, 0, 0, [])
  | 8 => (.aload_n 0, 9, 0, 0, 0, [])
  | 9 => (.getfield 19, 12, 7, 1, 5, [])
  | 12 => (.bipush 38, 14, 0, 0, 38, [])
  | 14 => (.iload_n 1, 15, 1, 0, 0, [])
  | 15 => (.iadd, 16, 0, 0, 0, [])
  | 16 => (.iaload, 17, 0, 0, 0, [])
  | 17 => (.ifCond .ne 13, 20, 30, 0, 0, [])
  | 20 => (.aload_n 0, 21, 0, 0, 0, [])
  | 21 => (.invokevirtual 163, 24, 141, 1, 0, [7])
  | 24 => (.iinc 2 1, 27, 2, 0, 1, [])
  | 27 => (.goto (-25), 30, 2, 0, 0, [])
  | 30 => (.aload_n 0, 31, 0, 0, 0, [])
  | 31 => (.getfield 19, 34, 7, 1, 5, [])
  | 34 => (.bipush 38, 36, 0, 0, 38, [])
  | 36 => (.iload_n 1, 37, 1, 0, 0, [])
  | 37 => (.iadd, 38, 0, 0, 0, [])
  | 38 => (.iaload, 39, 0, 0, 0, [])
  | 39 => (.iconst 1, 40, 0, 0, 1, [])
  | 40 => (.if_icmp .ne 7, 43, 47, 0, 0, [])
  | 43 => (.iconst 1, 44, 0, 0, 1, [])
  | 44 => (.goto 4, 47, 48, 0, 0, [])
  | 47 => (.iconst 0, 48, 0, 0, 0, [])
  | 48 => (.istore_n 3, 49, 3, 0, 0, [])
  | 49 => (.aload_n 0, 50, 0, 0, 0, [])
  | 50 => (.invokevirtual 190, 53, 154, 1, 0, [7])
  | 53 => (.iload_n 3, 54, 3, 0, 0, [])
  | 54 => (.ifCond .eq 7, 57, 61, 0, 0, [])
  | 57 => (.iload_n 2, 58, 2, 0, 0, [])
  | 58 => (.goto 5, 61, 63, 0, 0, [])
  | 61 => (.ldc 193, 63, 0, 0, (-1000000), [])
  | 63 => (.ireturn, 64, 0, 0, 0, [])
  | _ => (.nop, 1, 0, 0, 0, [])
def kt_M_done : Nat → kx_E
  | 0 => (.aload_n 0, 1, 0, 0, 0, [])
  | 1 => (.iload_n 1, 2, 1, 0, 0, [])
  | 2 => (.invokevirtual 176, 5, 138, 2, 0, [7])
  | 5 => (.ifCond .ne 6, 8, 11, 0, 0, [])
  | 8 => (.ldc 67, 10, 0, 0, (-1000001), [])
  | 10 => (.ireturn, 11, 0, 0, 0, [])
  | 11 => (.aload_n 0, 12, 0, 0, 0, [])
  | 12 => (.getfield 19, 15, 7, 1, 5, [])
  | 15 => (.bipush 38, 17, 0, 0, 38, [])
  | 17 => (.iload_n 1, 18, 1, 0, 0, [])
  | 18 => (.iadd, 19, 0, 0, 0, [])
  | 19 => (.iaload, 20, 0, 0, 0, [])
  | 20 => (.iconst 1, 21, 0, 0, 1, [])
  | 21 => (.if_icmp .ne 13, 24, 34, 0, 0, [])
  | 24 => (.aload_n 0, 25, 0, 0, 0, [])
  | 25 => (.getfield 19, 28, 7, 1, 5, [])
  | 28 => (.bipush 42, 30, 0, 0, 42, [])
  | 30 => (.iload_n 1, 31, 1, 0, 0, [])
  | 31 => (.iadd, 32, 0, 0, 0, [])
  | 32 => (.iaload, 33, 0, 0, 0, [])
  | 33 => (.ireturn, 34, 0, 0, 0, [])
  | 34 => (.aload_n 0, 35, 0, 0, 0, [])
  | 35 => (.invokevirtual 184, 38, 153, 1, 0, [7])
  | 38 => (.aload_n 0, 39, 0, 0, 0, [])
  | 39 => (.iload_n 1, 40, 1, 0, 0, [])
  | 40 => (.invokevirtual 197, 43, 162, 2, 0, [7])
  | 43 => (.istore_n 2, 44, 2, 0, 0, [])
  | 44 => (.iload_n 2, 45, 2, 0, 0, [])
  | 45 => (.ifCond .ge 8, 48, 53, 0, 0, [])
  | 48 => (.ldc 193, 50, 0, 0, (-1000000), [])
  | 50 => (.goto 11, 53, 61, 0, 0, [])
  | 53 => (.aload_n 0, 54, 0, 0, 0, [])
  | 54 => (.getfield 19, 57, 7, 1, 5, [])
  | 57 => (.iconst 3, 58, 0, 0, 3, [])
  | 58 => (.iaload, 59, 0, 0, 0, [])
  | 59 => (.iload_n 2, 60, 2, 0, 0, [])
  | 60 => (.iadd, 61, 0, 0, 0, [])
  | 61 => (.ireturn, 62, 0, 0, 0, [])
  | _ => (.nop, 1, 0, 0, 0, [])
def kt_M_first : Nat → kx_E
  | 0 => (.aload_n 0, 1, 0, 0, 0, [])
  | 1 => (.getfield 138, 4, 7, 2, 4, [])
  | 4 => (.ifCond .ne 6, 7, 10, 0, 0, [])
  | 7 => (.ldc 157, 9, 0, 0, (-1000002), [])
  | 9 => (.ireturn, 10, 0, 0, 0, [])
  | 10 => (.aload_n 0, 11, 0, 0, 0, [])
  | 11 => (.invokevirtual 184, 14, 153, 1, 0, [7])
  | 14 => (.ldc 193, 16, 0, 0, (-1000000), [])
  | 16 => (.istore_n 1, 17, 1, 0, 0, [])
  | 17 => (.sipush 999, 20, 0, 0, 999, [])
  | 20 => (.istore_n 2, 21, 2, 0, 0, [])
  | 21 => (.iconst 0, 22, 0, 0, 0, [])
  | 22 => (.istore_n 3, 23, 3, 0, 0, [])
  | 23 => (.iload_n 3, 24, 3, 0, 0, [])
  | 24 => (.aload_n 0, 25, 0, 0, 0, [])
  | 25 => (.getfield 19, 28, 7, 1, 5, [])
  | 28 => (.iconst 2, 29, 0, 0, 2, [])
  | 29 => (.iaload, 30, 0, 0, 0, [])
  | 30 => (.if_icmp .ge 49, 33, 79, 0, 0, [])
  | 33 => (.aload_n 0, 34, 0, 0, 0, [])
  | 34 => (.getfield 19, 37, 7, 1, 5, [])
  | 37 => (.bipush 38, 39, 0, 0, 38, [])
  | 39 => (.iload_n 3, 40, 3, 0, 0, [])
  | 40 => (.iadd, 41, 0, 0, 0, [])
  | 41 => (.iaload, 42, 0, 0, 0, [])
  | 42 => (.ifCond .ne 11, 45, 53, 0, 0, [])
  | 45 => (.aload_n 0, 46, 0, 0, 0, [])
  | 46 => (.iload_n 3, 47, 3, 0, 0, [])
  | 47 => (.invokevirtual 197, 50, 162, 2, 0, [7])
  | 50 => (.goto 5, 53, 55, 0, 0, [])
  | 53 => (.ldc 193, 55, 0, 0, (-1000000), [])
  | 55 => (.istore 4, 57, 4, 0, 0, [])
  | 57 => (.iload 4, 59, 4, 0, 0, [])
  | 59 => (.ifCond .le 14, 62, 73, 0, 0, [])
  | 62 => (.iload 4, 64, 4, 0, 0, [])
  | 64 => (.iload_n 2, 65, 2, 0, 0, [])
  | 65 => (.if_icmp .ge 8, 68, 73, 0, 0, [])
  | 68 => (.iload_n 3, 69, 3, 0, 0, [])
  | 69 => (.istore_n 1, 70, 1, 0, 0, [])
  | 70 => (.iload 4, 72, 4, 0, 0, [])
  | 72 => (.istore_n 2, 73, 2, 0, 0, [])
  | 73 => (.iinc 3 1, 76, 3, 0, 1, [])
  | 76 => (.goto (-53), 79, 23, 0, 0, [])
  | 79 => (.iload_n 1, 80, 1, 0, 0, [])
  | 80 => (.ireturn, 81, 0, 0, 0, [])
  | _ => (.nop, 1, 0, 0, 0, [])
def kt_M_by : Nat → kx_E
  | 0 => (.aload_n 0, 1, 0, 0, 0, [])
  | 1 => (.iload_n 1, 2, 1, 0, 0, [])
  | 2 => (.invokevirtual 168, 5, 137, 2, 0, [7])
  | 5 => (.ifCond .eq 10, 8, 15, 0, 0, [])
  | 8 => (.iload_n 2, 9, 2, 0, 0, [])
  | 9 => (.invokestatic 181, 12, 156, 1, 0, [])
  | 12 => (.ifCond .ne 6, 15, 18, 0, 0, [])
  | 15 => (.ldc 67, 17, 0, 0, (-1000001), [])
  | 17 => (.ireturn, 18, 0, 0, 0, [])
  | 18 => (.aload_n 0, 19, 0, 0, 0, [])
  | 19 => (.invokevirtual 184, 22, 153, 1, 0, [7])
  | 22 => (.aload_n 0, 23, 0, 0, 0, [])
  | 23 => (.getfield 19, 26, 7, 1, 5, [])
  | 26 => (.bipush 24, 28, 0, 0, 24, [])
  | 28 => (.iload_n 1, 29, 1, 0, 0, [])
  | 29 => (.iadd, 30, 0, 0, 0, [])
  | 30 => (.iaload, 31, 0, 0, 0, [])
  | 31 => (.istore_n 3, 32, 3, 0, 0, [])
  | 32 => (.aload_n 0, 33, 0, 0, 0, [])
  | 33 => (.iload_n 2, 34, 2, 0, 0, [])
  | 34 => (.invokevirtual 187, 37, 155, 2, 0, [7])
  | 37 => (.aload_n 0, 38, 0, 0, 0, [])
  | 38 => (.getfield 19, 41, 7, 1, 5, [])
  | 41 => (.bipush 24, 43, 0, 0, 24, [])
  | 43 => (.iload_n 1, 44, 1, 0, 0, [])
  | 44 => (.iadd, 45, 0, 0, 0, [])
  | 45 => (.iaload, 46, 0, 0, 0, [])
  | 46 => (.iload_n 3, 47, 3, 0, 0, [])
  | 47 => (.isub, 48, 0, 0, 0, [])
  | 48 => (.istore 4, 50, 4, 0, 0, [])
  | 50 => (.aload_n 0, 51, 0, 0, 0, [])
  | 51 => (.invokevirtual 190, 54, 154, 1, 0, [7])
  | 54 => (.iload 4, 56, 4, 0, 0, [])
  | 56 => (.ireturn, 57, 0, 0, 0, [])
  | _ => (.nop, 1, 0, 0, 0, [])
def kt_M_toGive : Nat → kx_E
  | 0 => (.aload_n 0, 1, 0, 0, 0, [])
  | 1 => (.iload_n 1, 2, 1, 0, 0, [])
  | 2 => (.invokevirtual 176, 5, 138, 2, 0, [7])
  | 5 => (.ifCond .eq 13, 8, 18, 0, 0, [])
  | 8 => (.iload_n 2, 9, 2, 0, 0, [])
  | 9 => (.i2l, 10, 0, 0, 0, [])
  | 10 => (.lconst 0, 11, 0, 0, 0, [])
  | 11 => (.lconst 1, 12, 0, 0, 1, [])
  | 12 => (.invokestatic 57, 15, 116, 3, 0, [])
  | 15 => (.ifCond .ne 6, 18, 21, 0, 0, [])
  | 18 => (.ldc 67, 20, 0, 0, (-1000001), [])
  | 20 => (.ireturn, 21, 0, 0, 0, [])
  | 21 => (.aload_n 0, 22, 0, 0, 0, [])
  | 22 => (.getfield 19, 25, 7, 1, 5, [])
  | 25 => (.bipush 38, 27, 0, 0, 38, [])
  | 27 => (.iload_n 1, 28, 1, 0, 0, [])
  | 28 => (.iadd, 29, 0, 0, 0, [])
  | 29 => (.iaload, 30, 0, 0, 0, [])
  | 30 => (.ifCond .eq 6, 33, 36, 0, 0, [])
  | 33 => (.ldc 157, 35, 0, 0, (-1000002), [])
  | 35 => (.ireturn, 36, 0, 0, 0, [])
  | 36 => (.aload_n 0, 37, 0, 0, 0, [])
  | 37 => (.invokevirtual 184, 40, 153, 1, 0, [7])
  | 40 => (.ldc 193, 42, 0, 0, (-1000000), [])
  | 42 => (.istore_n 3, 43, 3, 0, 0, [])
  | 43 => (.sipush 999, 46, 0, 0, 999, [])
  | 46 => (.istore 4, 48, 4, 0, 0, [])
  | 48 => (.iconst 0, 49, 0, 0, 0, [])
  | 49 => (.istore 5, 51, 5, 0, 0, [])
  | 51 => (.iload 5, 53, 5, 0, 0, [])
  | 53 => (.aload_n 0, 54, 0, 0, 0, [])
  | 54 => (.getfield 19, 57, 7, 1, 5, [])
  | 57 => (.iconst 1, 58, 0, 0, 1, [])
  | 58 => (.iaload, 59, 0, 0, 0, [])
  | 59 => (.if_icmp .ge 41, 62, 100, 0, 0, [])
  | 62 => (.aload_n 0, 63, 0, 0, 0, [])
  | 63 => (.iload 5, 65, 5, 0, 0, [])
  | 65 => (.invokevirtual 171, 68, 145, 2, 0, [7])
  | 68 => (.aload_n 0, 69, 0, 0, 0, [])
  | 69 => (.iload_n 1, 70, 1, 0, 0, [])
  | 70 => (.invokevirtual 197, 73, 162, 2, 0, [7])
  | 73 => (.istore 6, 75, 6, 0, 0, [])
  | 75 => (.iload 6, 77, 6, 0, 0, [])
  | 77 => (.ifCond .le 17, 80, 94, 0, 0, [])
  | 80 => (.iload 6, 82, 6, 0, 0, [])
  | 82 => (.iload 4, 84, 4, 0, 0, [])
  | 84 => (.if_icmp .ge 10, 87, 94, 0, 0, [])
  | 87 => (.iload 5, 89, 5, 0, 0, [])
  | 89 => (.istore_n 3, 90, 3, 0, 0, [])
  | 90 => (.iload 6, 92, 6, 0, 0, [])
  | 92 => (.istore 4, 94, 4, 0, 0, [])
  | 94 => (.iinc 5 1, 97, 5, 0, 1, [])
  | 97 => (.goto (-46), 100, 51, 0, 0, [])
  | 100 => (.iload_n 3, 101, 3, 0, 0, [])
  | 101 => (.ifCond .lt 7, 104, 108, 0, 0, [])
  | 104 => (.iload_n 2, 105, 2, 0, 0, [])
  | 105 => (.ifCond .ne 7, 108, 112, 0, 0, [])
  | 108 => (.iload_n 3, 109, 3, 0, 0, [])
  | 109 => (.goto 5, 112, 114, 0, 0, [])
  | 112 => (.iload 4, 114, 4, 0, 0, [])
  | 114 => (.ireturn, 115, 0, 0, 0, [])
  | _ => (.nop, 1, 0, 0, 0, [])
def kt_M_windsBy : Nat → kx_E
  | 0 => (.aload_n 0, 1, 0, 0, 0, [])
  | 1 => (.invokevirtual 184, 4, 153, 1, 0, [7])
  | 4 => (.iconst 0, 5, 0, 0, 0, [])
  | 5 => (.istore_n 3, 6, 3, 0, 0, [])
  | 6 => (.iconst 0, 7, 0, 0, 0, [])
  | 7 => (.istore 4, 9, 4, 0, 0, [])
  | 9 => (.iload 4, 11, 4, 0, 0, [])
  | 11 => (.bipush 6, 13, 0, 0, 6, [])
  | 13 => (.if_icmp .ge 47, 16, 60, 0, 0, [])
  | 16 => (.aload_n 0, 17, 0, 0, 0, [])
  | 17 => (.getfield 19, 20, 7, 1, 5, [])
  | 20 => (.iconst 0, 21, 0, 0, 0, [])
  | 21 => (.iload 4, 23, 4, 0, 0, [])
  | 23 => (.iastore, 24, 0, 0, 0, [])
  | 24 => (.aload_n 0, 25, 0, 0, 0, [])
  | 25 => (.iload_n 2, 26, 2, 0, 0, [])
  | 26 => (.invokevirtual 187, 29, 155, 2, 0, [7])
  | 29 => (.iload_n 3, 30, 3, 0, 0, [])
  | 30 => (.aload_n 0, 31, 0, 0, 0, [])
  | 31 => (.getfield 19, 34, 7, 1, 5, [])
  | 34 => (.iconst 4, 35, 0, 0, 4, [])
  | 35 => (.iaload, 36, 0, 0, 0, [])
  | 36 => (.iload_n 1, 37, 1, 0, 0, [])
  | 37 => (.if_icmp .ne 10, 40, 47, 0, 0, [])
  | 40 => (.iconst 1, 41, 0, 0, 1, [])
  | 41 => (.iload 4, 43, 4, 0, 0, [])
  | 43 => (.ishl, 44, 0, 0, 0, [])
  | 44 => (.goto 4, 47, 48, 0, 0, [])
  | 47 => (.iconst 0, 48, 0, 0, 0, [])
  | 48 => (.ior, 49, 0, 0, 0, [])
  | 49 => (.istore_n 3, 50, 3, 0, 0, [])
  | 50 => (.aload_n 0, 51, 0, 0, 0, [])
  | 51 => (.invokevirtual 190, 54, 154, 1, 0, [7])
  | 54 => (.iinc 4 1, 57, 4, 0, 1, [])
  | 57 => (.goto (-48), 60, 9, 0, 0, [])
  | 60 => (.iload_n 3, 61, 3, 0, 0, [])
  | 61 => (.ireturn, 62, 0, 0, 0, [])
  | _ => (.nop, 1, 0, 0, 0, [])
def kt_M_winds : Nat → kx_E
  | 0 => (.aload_n 0, 1, 0, 0, 0, [])
  | 1 => (.iload_n 1, 2, 1, 0, 0, [])
  | 2 => (.invokevirtual 168, 5, 137, 2, 0, [7])
  | 5 => (.ifCond .eq 19, 8, 24, 0, 0, [])
  | 8 => (.iload_n 2, 9, 2, 0, 0, [])
  | 9 => (.invokestatic 181, 12, 156, 1, 0, [])
  | 12 => (.ifCond .eq 12, 15, 24, 0, 0, [])
  | 15 => (.aload_n 0, 16, 0, 0, 0, [])
  | 16 => (.iload_n 1, 17, 1, 0, 0, [])
  | 17 => (.iload_n 2, 18, 2, 0, 0, [])
  | 18 => (.invokevirtual 200, 21, 167, 3, 0, [7])
  | 21 => (.goto 5, 24, 26, 0, 0, [])
  | 24 => (.ldc 67, 26, 0, 0, (-1000001), [])
  | 26 => (.ireturn, 27, 0, 0, 0, [])
  | _ => (.nop, 1, 0, 0, 0, [])
def kt_M_lot : Nat → kx_E
  | 0 => (.aload_n 0, 1, 0, 0, 0, [])
  | 1 => (.iload_n 1, 2, 1, 0, 0, [])
  | 2 => (.invokevirtual 168, 5, 137, 2, 0, [7])
  | 5 => (.ifCond .eq 20, 8, 25, 0, 0, [])
  | 8 => (.iload_n 2, 9, 2, 0, 0, [])
  | 9 => (.invokestatic 181, 12, 156, 1, 0, [])
  | 12 => (.ifCond .eq 13, 15, 25, 0, 0, [])
  | 15 => (.iload_n 3, 16, 3, 0, 0, [])
  | 16 => (.i2l, 17, 0, 0, 0, [])
  | 17 => (.lconst 0, 18, 0, 0, 0, [])
  | 18 => (.lconst 1, 19, 0, 0, 1, [])
  | 19 => (.invokestatic 57, 22, 116, 3, 0, [])
  | 22 => (.ifCond .ne 6, 25, 28, 0, 0, [])
  | 25 => (.ldc 67, 27, 0, 0, (-1000001), [])
  | 27 => (.ireturn, 28, 0, 0, 0, [])
  | 28 => (.iconst 0, 29, 0, 0, 0, [])
  | 29 => (.istore 4, 31, 4, 0, 0, [])
  | 31 => (.aload_n 0, 32, 0, 0, 0, [])
  | 32 => (.iload_n 1, 33, 1, 0, 0, [])
  | 33 => (.iload_n 2, 34, 2, 0, 0, [])
  | 34 => (.invokevirtual 200, 37, 167, 3, 0, [7])
  | 37 => (.istore 5, 39, 5, 0, 0, [])
  | 39 => (.iload 5, 41, 5, 0, 0, [])
  | 41 => (.ifCond .eq 18, 44, 59, 0, 0, [])
  | 44 => (.iinc 4 1, 47, 4, 0, 1, [])
  | 47 => (.iload 5, 49, 5, 0, 0, [])
  | 49 => (.iload 5, 51, 5, 0, 0, [])
  | 51 => (.iconst 1, 52, 0, 0, 1, [])
  | 52 => (.isub, 53, 0, 0, 0, [])
  | 53 => (.iand, 54, 0, 0, 0, [])
  | 54 => (.istore 5, 56, 5, 0, 0, [])
  | 56 => (.goto (-17), 59, 39, 0, 0, [])
  | 59 => (.iload 4, 61, 4, 0, 0, [])
  | 61 => (.ifCond .ne 8, 64, 69, 0, 0, [])
  | 64 => (.bipush 6, 66, 0, 0, 6, [])
  | 66 => (.goto 39, 69, 105, 0, 0, [])
  | 69 => (.iload 4, 71, 4, 0, 0, [])
  | 71 => (.bipush 6, 73, 0, 0, 6, [])
  | 73 => (.irem, 74, 0, 0, 0, [])
  | 74 => (.ifCond .ne 8, 77, 82, 0, 0, [])
  | 77 => (.bipush 6, 79, 0, 0, 6, [])
  | 79 => (.goto 26, 82, 105, 0, 0, [])
  | 82 => (.iload 4, 84, 4, 0, 0, [])
  | 84 => (.iconst 3, 85, 0, 0, 3, [])
  | 85 => (.irem, 86, 0, 0, 0, [])
  | 86 => (.ifCond .ne 7, 89, 93, 0, 0, [])
  | 89 => (.iconst 3, 90, 0, 0, 3, [])
  | 90 => (.goto 15, 93, 105, 0, 0, [])
  | 93 => (.iload 4, 95, 4, 0, 0, [])
  | 95 => (.iconst 2, 96, 0, 0, 2, [])
  | 96 => (.irem, 97, 0, 0, 0, [])
  | 97 => (.ifCond .ne 7, 100, 104, 0, 0, [])
  | 100 => (.iconst 2, 101, 0, 0, 2, [])
  | 101 => (.goto 4, 104, 105, 0, 0, [])
  | 104 => (.iconst 1, 105, 0, 0, 1, [])
  | 105 => (.istore 5, 107, 5, 0, 0, [])
  | 107 => (.iload_n 3, 108, 3, 0, 0, [])
  | 108 => (.ifCond .ne 11, 111, 119, 0, 0, [])
  | 111 => (.iload 4, 113, 4, 0, 0, [])
  | 113 => (.iload 5, 115, 5, 0, 0, [])
  | 115 => (.idiv, 116, 0, 0, 0, [])
  | 116 => (.goto 8, 119, 124, 0, 0, [])
  | 119 => (.bipush 6, 121, 0, 0, 6, [])
  | 121 => (.iload 5, 123, 5, 0, 0, [])
  | 123 => (.idiv, 124, 0, 0, 0, [])
  | 124 => (.ireturn, 125, 0, 0, 0, [])
  | _ => (.nop, 1, 0, 0, 0, [])
def kt_M_lacks : Nat → kx_E
  | 0 => (.aload_n 0, 1, 0, 0, 0, [])
  | 1 => (.getfield 13, 4, 7, 1, 1, [])
  | 4 => (.iload_n 1, 5, 1, 0, 0, [])
  | 5 => (.iaload, 6, 0, 0, 0, [])
  | 6 => (.ifCond .ge 9, 9, 15, 0, 0, [])
  | 9 => (.aload_n 0, 10, 0, 0, 0, [])
  | 10 => (.iconst 1, 11, 0, 0, 1, [])
  | 11 => (.invokevirtual 68, 14, 118, 2, 0, [7])
  | 14 => (.ireturn, 15, 0, 0, 0, [])
  | 15 => (.iload_n 2, 16, 2, 0, 0, [])
  | 16 => (.i2l, 17, 0, 0, 0, [])
  | 17 => (.lconst 0, 18, 0, 0, 0, [])
  | 18 => (.aload_n 0, 19, 0, 0, 0, [])
  | 19 => (.getfield 13, 22, 7, 1, 1, [])
  | 22 => (.iload_n 1, 23, 1, 0, 0, [])
  | 23 => (.iaload, 24, 0, 0, 0, [])
  | 24 => (.iload_n 3, 25, 3, 0, 0, [])
  | 25 => (.isub, 26, 0, 0, 0, [])
  | 26 => (.i2l, 27, 0, 0, 0, [])
  | 27 => (.invokestatic 57, 30, 116, 3, 0, [])
  | 30 => (.ifCond .eq 7, 33, 37, 0, 0, [])
  | 33 => (.iconst 0, 34, 0, 0, 0, [])
  | 34 => (.goto 8, 37, 42, 0, 0, [])
  | 37 => (.aload_n 0, 38, 0, 0, 0, [])
  | 38 => (.iconst 2, 39, 0, 0, 2, [])
  | 39 => (.invokevirtual 68, 42, 118, 2, 0, [7])
  | 42 => (.ireturn, 43, 0, 0, 0, [])
  | _ => (.nop, 1, 0, 0, 0, [])
def kt_M_goesSo : Nat → kx_E
  | 0 => (.iconst 1, 1, 0, 0, 1, [])
  | 1 => (.istore_n 3, 2, 3, 0, 0, [])
  | 2 => (.iconst 0, 3, 0, 0, 0, [])
  | 3 => (.istore 4, 5, 4, 0, 0, [])
  | 5 => (.iload 4, 7, 4, 0, 0, [])
  | 7 => (.iload_n 2, 8, 2, 0, 0, [])
  | 8 => (.if_icmp .ge 54, 11, 62, 0, 0, [])
  | 11 => (.aload_n 0, 12, 0, 0, 0, [])
  | 12 => (.invokevirtual 163, 15, 141, 1, 0, [7])
  | 15 => (.iload_n 3, 16, 3, 0, 0, [])
  | 16 => (.ifCond .eq 38, 19, 54, 0, 0, [])
  | 19 => (.aload_n 0, 20, 0, 0, 0, [])
  | 20 => (.getfield 16, 23, 7, 1, 2, [])
  | 23 => (.iload_n 1, 24, 1, 0, 0, [])
  | 24 => (.iload 4, 26, 4, 0, 0, [])
  | 26 => (.iadd, 27, 0, 0, 0, [])
  | 27 => (.iaload, 28, 0, 0, 0, [])
  | 28 => (.iconst (-1), 29, 0, 0, (-1), [])
  | 29 => (.if_icmp .eq 21, 32, 50, 0, 0, [])
  | 32 => (.aload_n 0, 33, 0, 0, 0, [])
  | 33 => (.getfield 16, 36, 7, 1, 2, [])
  | 36 => (.iload_n 1, 37, 1, 0, 0, [])
  | 37 => (.iload 4, 39, 4, 0, 0, [])
  | 39 => (.iadd, 40, 0, 0, 0, [])
  | 40 => (.iaload, 41, 0, 0, 0, [])
  | 41 => (.aload_n 0, 42, 0, 0, 0, [])
  | 42 => (.getfield 19, 45, 7, 1, 5, [])
  | 45 => (.iconst 4, 46, 0, 0, 4, [])
  | 46 => (.iaload, 47, 0, 0, 0, [])
  | 47 => (.if_icmp .ne 7, 50, 54, 0, 0, [])
  | 50 => (.iconst 1, 51, 0, 0, 1, [])
  | 51 => (.goto 4, 54, 55, 0, 0, [])
  | 54 => (.iconst 0, 55, 0, 0, 0, [])
  | 55 => (.istore_n 3, 56, 3, 0, 0, [])
  | 56 => (.iinc 4 1, 59, 4, 0, 1, [])
  | 59 => (.goto (-54), 62, 5, 0, 0, [])
  | 62 => (.aload_n 0, 63, 0, 0, 0, [])
  | 63 => (.invokevirtual 190, 66, 154, 1, 0, [7])
  | 66 => (.iload_n 3, 67, 3, 0, 0, [])
  | 67 => (.ireturn, 68, 1, 0, 0, [])
  | _ => (.nop, 1, 0, 0, 0, [])
def kt_M_seen : Nat → kx_E
  | 0 => (.aload_n 0, 1, 0, 0, 0, [])
  | 1 => (.getfield 138, 4, 7, 2, 4, [])
  | 4 => (.ifCond .ne 6, 7, 10, 0, 0, [])
  | 7 => (.ldc 157, 9, 0, 0, (-1000002), [])
  | 9 => (.ireturn, 10, 0, 0, 0, [])
  | 10 => (.iload_n 1, 11, 1, 0, 0, [])
  | 11 => (.invokestatic 61, 14, 120, 1, 0, [])
  | 14 => (.ifCond .eq 26, 17, 40, 0, 0, [])
  | 17 => (.iload_n 3, 18, 3, 0, 0, [])
  | 18 => (.i2l, 19, 0, 0, 0, [])
  | 19 => (.lconst 1, 20, 0, 0, 1, [])
  | 20 => (.ldc2_w 203, 23, 0, 0, 16, [])
  | 23 => (.invokestatic 57, 26, 116, 3, 0, [])
  | 26 => (.ifCond .eq 14, 29, 40, 0, 0, [])
  | 29 => (.iload 4, 31, 4, 0, 0, [])
  | 31 => (.i2l, 32, 0, 0, 0, [])
  | 32 => (.lconst 0, 33, 0, 0, 0, [])
  | 33 => (.lconst 1, 34, 0, 0, 1, [])
  | 34 => (.invokestatic 57, 37, 116, 3, 0, [])
  | 37 => (.ifCond .ne 6, 40, 43, 0, 0, [])
  | 40 => (.ldc 67, 42, 0, 0, (-1000001), [])
  | 42 => (.ireturn, 43, 0, 0, 0, [])
  | 43 => (.aload_n 0, 44, 0, 0, 0, [])
  | 44 => (.iload_n 1, 45, 1, 0, 0, [])
  | 45 => (.iload_n 2, 46, 2, 0, 0, [])
  | 46 => (.iload_n 3, 47, 3, 0, 0, [])
  | 47 => (.invokevirtual 205, 50, 170, 4, 0, [7])
  | 50 => (.istore 5, 52, 5, 0, 0, [])
  | 52 => (.iload 5, 54, 5, 0, 0, [])
  | 54 => (.ifCond .ge 6, 57, 60, 0, 0, [])
  | 57 => (.iload 5, 59, 5, 0, 0, [])
  | 59 => (.ireturn, 60, 0, 0, 0, [])
  | 60 => (.aload_n 0, 61, 0, 0, 0, [])
  | 61 => (.invokevirtual 184, 64, 153, 1, 0, [7])
  | 64 => (.iconst 0, 65, 0, 0, 0, [])
  | 65 => (.istore 6, 67, 6, 0, 0, [])
  | 67 => (.ldc 193, 69, 0, 0, (-1000000), [])
  | 69 => (.istore 7, 71, 7, 0, 0, [])
  | 71 => (.aload_n 0, 72, 0, 0, 0, [])
  | 72 => (.getfield 19, 75, 7, 1, 5, [])
  | 75 => (.iconst 1, 76, 0, 0, 1, [])
  | 76 => (.iaload, 77, 0, 0, 0, [])
  | 77 => (.iconst 1, 78, 0, 0, 1, [])
  | 78 => (.isub, 79, 0, 0, 0, [])
  | 79 => (.istore 8, 81, 8, 0, 0, [])
  | 81 => (.iload 8, 83, 8, 0, 0, [])
  | 83 => (.ifCond .lt 57, 86, 140, 0, 0, [])
  | 86 => (.aload_n 0, 87, 0, 0, 0, [])
  | 87 => (.iload 8, 89, 8, 0, 0, [])
  | 89 => (.invokevirtual 171, 92, 145, 2, 0, [7])
  | 92 => (.aload_n 0, 93, 0, 0, 0, [])
  | 93 => (.bipush 40, 95, 0, 0, 40, [])
  | 95 => (.iload_n 1, 96, 1, 0, 0, [])
  | 96 => (.imul, 97, 0, 0, 0, [])
  | 97 => (.iload_n 2, 98, 2, 0, 0, [])
  | 98 => (.iadd, 99, 0, 0, 0, [])
  | 99 => (.iload_n 3, 100, 3, 0, 0, [])
  | 100 => (.invokevirtual 209, 103, 171, 3, 0, [7])
  | 103 => (.istore 9, 105, 9, 0, 0, [])
  | 105 => (.iload 6, 107, 6, 0, 0, [])
  | 107 => (.iload 9, 109, 9, 0, 0, [])
  | 109 => (.ifCond .eq 7, 112, 116, 0, 0, [])
  | 112 => (.iconst 1, 113, 0, 0, 1, [])
  | 113 => (.goto 4, 116, 117, 0, 0, [])
  | 116 => (.iconst 0, 117, 0, 0, 0, [])
  | 117 => (.iadd, 118, 0, 0, 0, [])
  | 118 => (.istore 6, 120, 6, 0, 0, [])
  | 120 => (.iload 9, 122, 9, 0, 0, [])
  | 122 => (.ifCond .eq 8, 125, 130, 0, 0, [])
  | 125 => (.iload 8, 127, 8, 0, 0, [])
  | 127 => (.goto 5, 130, 132, 0, 0, [])
  | 130 => (.iload 7, 132, 7, 0, 0, [])
  | 132 => (.istore 7, 134, 7, 0, 0, [])
  | 134 => (.iinc 8 (-1), 137, 8, 0, (-1), [])
  | 137 => (.goto (-56), 140, 81, 0, 0, [])
  | 140 => (.aload_n 0, 141, 0, 0, 0, [])
  | 141 => (.iload 4, 143, 4, 0, 0, [])
  | 143 => (.ifCond .ne 8, 146, 151, 0, 0, [])
  | 146 => (.iload 6, 148, 6, 0, 0, [])
  | 148 => (.goto 5, 151, 153, 0, 0, [])
  | 151 => (.iload 7, 153, 7, 0, 0, [])
  | 153 => (.invokevirtual 72, 156, 119, 2, 0, [7])
  | 156 => (.ireturn, 157, 0, 0, 0, [])
  | _ => (.nop, 1, 0, 0, 0, [])
def kt_M_keeps : Nat → kx_E
  | 0 => (.aload_n 0, 1, 0, 0, 0, [])
  | 1 => (.iload_n 1, 2, 1, 0, 0, [])
  | 2 => (.invokevirtual 168, 5, 137, 2, 0, [7])
  | 5 => (.ifCond .eq 23, 8, 28, 0, 0, [])
  | 8 => (.iload_n 2, 9, 2, 0, 0, [])
  | 9 => (.invokestatic 61, 12, 120, 1, 0, [])
  | 12 => (.ifCond .eq 16, 15, 28, 0, 0, [])
  | 15 => (.iload 4, 17, 4, 0, 0, [])
  | 17 => (.i2l, 18, 0, 0, 0, [])
  | 18 => (.lconst 1, 19, 0, 0, 1, [])
  | 19 => (.ldc2_w 203, 22, 0, 0, 16, [])
  | 22 => (.invokestatic 57, 25, 116, 3, 0, [])
  | 25 => (.ifCond .ne 6, 28, 31, 0, 0, [])
  | 28 => (.ldc 67, 30, 0, 0, (-1000001), [])
  | 30 => (.ireturn, 31, 0, 0, 0, [])
  | 31 => (.aload_n 0, 32, 0, 0, 0, [])
  | 32 => (.iload_n 2, 33, 2, 0, 0, [])
  | 33 => (.iload_n 3, 34, 3, 0, 0, [])
  | 34 => (.iload 4, 36, 4, 0, 0, [])
  | 36 => (.invokevirtual 205, 39, 170, 4, 0, [7])
  | 39 => (.istore 5, 41, 5, 0, 0, [])
  | 41 => (.iload 5, 43, 5, 0, 0, [])
  | 43 => (.ifCond .ge 6, 46, 49, 0, 0, [])
  | 46 => (.iload 5, 48, 5, 0, 0, [])
  | 48 => (.ireturn, 49, 0, 0, 0, [])
  | 49 => (.aload_n 0, 50, 0, 0, 0, [])
  | 50 => (.invokevirtual 184, 53, 153, 1, 0, [7])
  | 53 => (.iconst 0, 54, 0, 0, 0, [])
  | 54 => (.istore 6, 56, 6, 0, 0, [])
  | 56 => (.iconst 1, 57, 0, 0, 1, [])
  | 57 => (.istore 7, 59, 7, 0, 0, [])
  | 59 => (.iload 7, 61, 7, 0, 0, [])
  | 61 => (.bipush 9, 63, 0, 0, 9, [])
  | 63 => (.if_icmp .gt 50, 66, 113, 0, 0, [])
  | 66 => (.aload_n 0, 67, 0, 0, 0, [])
  | 67 => (.getfield 19, 70, 7, 1, 5, [])
  | 70 => (.bipush 12, 72, 0, 0, 12, [])
  | 72 => (.iload_n 1, 73, 1, 0, 0, [])
  | 73 => (.iadd, 74, 0, 0, 0, [])
  | 74 => (.iload 7, 76, 7, 0, 0, [])
  | 76 => (.iastore, 77, 0, 0, 0, [])
  | 77 => (.iload 6, 79, 6, 0, 0, [])
  | 79 => (.aload_n 0, 80, 0, 0, 0, [])
  | 80 => (.bipush 40, 82, 0, 0, 40, [])
  | 82 => (.iload_n 2, 83, 2, 0, 0, [])
  | 83 => (.imul, 84, 0, 0, 0, [])
  | 84 => (.iload_n 3, 85, 3, 0, 0, [])
  | 85 => (.iadd, 86, 0, 0, 0, [])
  | 86 => (.iload 4, 88, 4, 0, 0, [])
  | 88 => (.invokevirtual 209, 91, 171, 3, 0, [7])
  | 91 => (.ifCond .eq 12, 94, 103, 0, 0, [])
  | 94 => (.iconst 1, 95, 0, 0, 1, [])
  | 95 => (.iload 7, 97, 7, 0, 0, [])
  | 97 => (.iconst 1, 98, 0, 0, 1, [])
  | 98 => (.isub, 99, 0, 0, 0, [])
  | 99 => (.ishl, 100, 0, 0, 0, [])
  | 100 => (.goto 4, 103, 104, 0, 0, [])
  | 103 => (.iconst 0, 104, 0, 0, 0, [])
  | 104 => (.ior, 105, 0, 0, 0, [])
  | 105 => (.istore 6, 107, 6, 0, 0, [])
  | 107 => (.iinc 7 1, 110, 7, 0, 1, [])
  | 110 => (.goto (-51), 113, 59, 0, 0, [])
  | 113 => (.aload_n 0, 114, 0, 0, 0, [])
  | 114 => (.iload 6, 116, 6, 0, 0, [])
  | 116 => (.invokevirtual 72, 119, 119, 2, 0, [7])
  | 119 => (.ireturn, 120, 0, 0, 0, [])
  | _ => (.nop, 1, 0, 0, 0, [])
def kt_M_image : Nat → kx_E
  | 0 => (.iload_n 1, 1, 1, 0, 0, [])
  | 1 => (.i2l, 2, 0, 0, 0, [])
  | 2 => (.lconst 0, 3, 0, 0, 0, [])
  | 3 => (.lconst 1, 4, 0, 0, 1, [])
  | 4 => (.invokestatic 57, 7, 116, 3, 0, [])
  | 7 => (.ifCond .ne 6, 10, 13, 0, 0, [])
  | 10 => (.ldc 67, 12, 0, 0, (-1000001), [])
  | 12 => (.ireturn, 13, 0, 0, 0, [])
  | 13 => (.aload_n 0, 14, 0, 0, 0, [])
  | 14 => (.getfield 138, 17, 7, 2, 4, [])
  | 17 => (.ifCond .ne 6, 20, 23, 0, 0, [])
  | 20 => (.ldc 157, 22, 0, 0, (-1000002), [])
  | 22 => (.ireturn, 23, 0, 0, 0, [])
  | 23 => (.iconst 0, 24, 0, 0, 0, [])
  | 24 => (.istore_n 2, 25, 2, 0, 0, [])
  | 25 => (.iload_n 2, 26, 2, 0, 0, [])
  | 26 => (.bipush 46, 28, 0, 0, 46, [])
  | 28 => (.if_icmp .ge 26, 31, 54, 0, 0, [])
  | 31 => (.aload_n 0, 32, 0, 0, 0, [])
  | 32 => (.getfield 44, 35, 7, 1, 21, [])
  | 35 => (.bipush 46, 37, 0, 0, 46, [])
  | 37 => (.iload_n 1, 38, 1, 0, 0, [])
  | 38 => (.imul, 39, 0, 0, 0, [])
  | 39 => (.iload_n 2, 40, 2, 0, 0, [])
  | 40 => (.iadd, 41, 0, 0, 0, [])
  | 41 => (.aload_n 0, 42, 0, 0, 0, [])
  | 42 => (.getfield 19, 45, 7, 1, 5, [])
  | 45 => (.iload_n 2, 46, 2, 0, 0, [])
  | 46 => (.iaload, 47, 0, 0, 0, [])
  | 47 => (.iastore, 48, 0, 0, 0, [])
  | 48 => (.iinc 2 1, 51, 2, 0, 1, [])
  | 51 => (.goto (-26), 54, 25, 0, 0, [])
  | 54 => (.aload_n 0, 55, 0, 0, 0, [])
  | 55 => (.getfield 40, 58, 7, 1, 20, [])
  | 58 => (.iload_n 1, 59, 1, 0, 0, [])
  | 59 => (.iconst 1, 60, 0, 0, 1, [])
  | 60 => (.bastore, 61, 0, 0, 0, [])
  | 61 => (.iconst 1, 62, 0, 0, 1, [])
  | 62 => (.ireturn, 63, 0, 0, 0, [])
  | _ => (.nop, 1, 0, 0, 0, [])
def kt_M_restore : Nat → kx_E
  | 0 => (.iload_n 1, 1, 1, 0, 0, [])
  | 1 => (.i2l, 2, 0, 0, 0, [])
  | 2 => (.lconst 0, 3, 0, 0, 0, [])
  | 3 => (.lconst 1, 4, 0, 0, 1, [])
  | 4 => (.invokestatic 57, 7, 116, 3, 0, [])
  | 7 => (.ifCond .ne 6, 10, 13, 0, 0, [])
  | 10 => (.ldc 67, 12, 0, 0, (-1000001), [])
  | 12 => (.ireturn, 13, 0, 0, 0, [])
  | 13 => (.aload_n 0, 14, 0, 0, 0, [])
  | 14 => (.getfield 40, 17, 7, 1, 20, [])
  | 17 => (.iload_n 1, 18, 1, 0, 0, [])
  | 18 => (.baload, 19, 0, 0, 0, [])
  | 19 => (.ifCond .ne 6, 22, 25, 0, 0, [])
  | 22 => (.ldc 157, 24, 0, 0, (-1000002), [])
  | 24 => (.ireturn, 25, 0, 0, 0, [])
  | 25 => (.iconst 0, 26, 0, 0, 0, [])
  | 26 => (.istore_n 2, 27, 2, 0, 0, [])
  | 27 => (.iload_n 2, 28, 2, 0, 0, [])
  | 28 => (.bipush 46, 30, 0, 0, 46, [])
  | 30 => (.if_icmp .ge 26, 33, 56, 0, 0, [])
  | 33 => (.aload_n 0, 34, 0, 0, 0, [])
  | 34 => (.getfield 19, 37, 7, 1, 5, [])
  | 37 => (.iload_n 2, 38, 2, 0, 0, [])
  | 38 => (.aload_n 0, 39, 0, 0, 0, [])
  | 39 => (.getfield 44, 42, 7, 1, 21, [])
  | 42 => (.bipush 46, 44, 0, 0, 46, [])
  | 44 => (.iload_n 1, 45, 1, 0, 0, [])
  | 45 => (.imul, 46, 0, 0, 0, [])
  | 46 => (.iload_n 2, 47, 2, 0, 0, [])
  | 47 => (.iadd, 48, 0, 0, 0, [])
  | 48 => (.iaload, 49, 0, 0, 0, [])
  | 49 => (.iastore, 50, 0, 0, 0, [])
  | 50 => (.iinc 2 1, 53, 2, 0, 1, [])
  | 53 => (.goto (-26), 56, 27, 0, 0, [])
  | 56 => (.aload_n 0, 57, 0, 0, 0, [])
  | 57 => (.iconst 0, 58, 0, 0, 0, [])
  | 58 => (.putfield 142, 61, 7, 0, 17, [])
  | 61 => (.iconst 1, 62, 0, 0, 1, [])
  | 62 => (.ireturn, 63, 0, 0, 0, [])
  | _ => (.nop, 1, 0, 0, 0, [])
def kt_M_kind : Nat → kx_E
  | 0 => (.aload_n 0, 1, 0, 0, 0, [])
  | 1 => (.iload_n 1, 2, 1, 0, 0, [])
  | 2 => (.invokevirtual 168, 5, 137, 2, 0, [7])
  | 5 => (.ifCond .eq 15, 8, 20, 0, 0, [])
  | 8 => (.aload_n 0, 9, 0, 0, 0, [])
  | 9 => (.getfield 19, 12, 7, 1, 5, [])
  | 12 => (.bipush 6, 14, 0, 0, 6, [])
  | 14 => (.iload_n 1, 15, 1, 0, 0, [])
  | 15 => (.iadd, 16, 0, 0, 0, [])
  | 16 => (.iaload, 17, 0, 0, 0, [])
  | 17 => (.goto 5, 20, 22, 0, 0, [])
  | 20 => (.ldc 67, 22, 0, 0, (-1000001), [])
  | 22 => (.ireturn, 23, 0, 0, 0, [])
  | _ => (.nop, 1, 0, 0, 0, [])
def kt_M_isKind : Nat → kx_E
  | 0 => (.iload_n 1, 1, 1, 0, 0, [])
  | 1 => (.ifCond .eq 28, 4, 29, 0, 0, [])
  | 4 => (.iload_n 0, 5, 0, 0, 0, [])
  | 5 => (.iload_n 1, 6, 1, 0, 0, [])
  | 6 => (.if_icmp .eq 23, 9, 29, 0, 0, [])
  | 9 => (.iload_n 1, 10, 1, 0, 0, [])
  | 10 => (.iconst 1, 11, 0, 0, 1, [])
  | 11 => (.if_icmp .ne 8, 14, 19, 0, 0, [])
  | 14 => (.iload_n 0, 15, 0, 0, 0, [])
  | 15 => (.iconst 4, 16, 0, 0, 4, [])
  | 16 => (.if_icmp .lt 13, 19, 29, 0, 0, [])
  | 19 => (.iload_n 1, 20, 1, 0, 0, [])
  | 20 => (.iconst 4, 21, 0, 0, 4, [])
  | 21 => (.if_icmp .ne 12, 24, 33, 0, 0, [])
  | 24 => (.iload_n 0, 25, 0, 0, 0, [])
  | 25 => (.iconst 5, 26, 0, 0, 5, [])
  | 26 => (.if_icmp .ne 7, 29, 33, 0, 0, [])
  | 29 => (.iconst 1, 30, 0, 0, 1, [])
  | 30 => (.goto 4, 33, 34, 0, 0, [])
  | 33 => (.iconst 0, 34, 0, 0, 0, [])
  | 34 => (.ireturn, 35, 1, 0, 0, [])
  | _ => (.nop, 1, 0, 0, 0, [])
def kt_M_as : Nat → kx_E
  | 0 => (.aload_n 0, 1, 0, 0, 0, [])
  | 1 => (.iload_n 1, 2, 1, 0, 0, [])
  | 2 => (.invokevirtual 168, 5, 137, 2, 0, [7])
  | 5 => (.ifCond .eq 15, 8, 20, 0, 0, [])
  | 8 => (.iload_n 2, 9, 2, 0, 0, [])
  | 9 => (.i2l, 10, 0, 0, 0, [])
  | 10 => (.lconst 0, 11, 0, 0, 0, [])
  | 11 => (.ldc2_w 166, 14, 0, 0, 5, [])
  | 14 => (.invokestatic 57, 17, 116, 3, 0, [])
  | 17 => (.ifCond .ne 6, 20, 23, 0, 0, [])
  | 20 => (.ldc 67, 22, 0, 0, (-1000001), [])
  | 22 => (.ireturn, 23, 0, 0, 0, [])
  | 23 => (.aload_n 0, 24, 0, 0, 0, [])
  | 24 => (.getfield 19, 27, 7, 1, 5, [])
  | 27 => (.bipush 6, 29, 0, 0, 6, [])
  | 29 => (.iload_n 1, 30, 1, 0, 0, [])
  | 30 => (.iadd, 31, 0, 0, 0, [])
  | 31 => (.iaload, 32, 0, 0, 0, [])
  | 32 => (.iload_n 2, 33, 2, 0, 0, [])
  | 33 => (.invokestatic 212, 36, 177, 2, 0, [])
  | 36 => (.ifCond .eq 11, 39, 47, 0, 0, [])
  | 39 => (.aload_n 0, 40, 0, 0, 0, [])
  | 40 => (.iload_n 1, 41, 1, 0, 0, [])
  | 41 => (.invokevirtual 72, 44, 119, 2, 0, [7])
  | 44 => (.goto 8, 47, 52, 0, 0, [])
  | 47 => (.aload_n 0, 48, 0, 0, 0, [])
  | 48 => (.iconst 3, 49, 0, 0, 3, [])
  | 49 => (.invokevirtual 68, 52, 118, 2, 0, [7])
  | 52 => (.ireturn, 53, 0, 0, 0, [])
  | _ => (.nop, 1, 0, 0, 0, [])
def kt_M_begin : Nat → kx_E
  | 0 => (.aload_n 0, 1, 0, 0, 0, [])
  | 1 => (.getfield 215, 4, 7, 0, 23, [])
  | 4 => (.bipush 16, 6, 0, 0, 16, [])
  | 6 => (.if_icmp .ge 23, 9, 29, 0, 0, [])
  | 9 => (.aload_n 0, 10, 0, 0, 0, [])
  | 10 => (.getfield 47, 13, 7, 1, 22, [])
  | 13 => (.aload_n 0, 14, 0, 0, 0, [])
  | 14 => (.getfield 215, 17, 7, 0, 23, [])
  | 17 => (.iload_n 1, 18, 1, 0, 0, [])
  | 18 => (.iastore, 19, 0, 0, 0, [])
  | 19 => (.aload_n 0, 20, 0, 0, 0, [])
  | 20 => (.dup, 21, 0, 0, 0, [])
  | 21 => (.getfield 215, 24, 7, 0, 23, [])
  | 24 => (.iconst 1, 25, 0, 0, 1, [])
  | 25 => (.iadd, 26, 0, 0, 0, [])
  | 26 => (.putfield 215, 29, 7, 0, 23, [])
  | 29 => (.return_, 30, 0, 0, 0, [])
  | _ => (.nop, 1, 0, 0, 0, [])
def kt_M_lent : Nat → kx_E
  | 0 => (.aload_n 0, 1, 0, 0, 0, [])
  | 1 => (.iload_n 2, 2, 2, 0, 0, [])
  | 2 => (.invokevirtual 218, 5, 179, 2, 0, [7])
  | 5 => (.iload_n 2, 6, 2, 0, 0, [])
  | 6 => (.bipush 10, 8, 0, 0, 10, [])
  | 8 => (.if_icmp .ne 15, 11, 23, 0, 0, [])
  | 11 => (.aload_n 0, 12, 0, 0, 0, [])
  | 12 => (.getfield 19, 15, 7, 1, 5, [])
  | 15 => (.bipush 12, 17, 0, 0, 12, [])
  | 17 => (.iload_n 1, 18, 1, 0, 0, [])
  | 18 => (.iadd, 19, 0, 0, 0, [])
  | 19 => (.iaload, 20, 0, 0, 0, [])
  | 20 => (.goto 4, 23, 24, 0, 0, [])
  | 23 => (.iload_n 1, 24, 1, 0, 0, [])
  | 24 => (.ireturn, 25, 0, 0, 0, [])
  | _ => (.nop, 1, 0, 0, 0, [])
def kt_M_firmMark : Nat → kx_E
  | 0 => (.aload_n 0, 1, 0, 0, 0, [])
  | 1 => (.bipush 21, 3, 0, 0, 21, [])
  | 3 => (.invokevirtual 218, 6, 179, 2, 0, [7])
  | 6 => (.aload_n 0, 7, 0, 0, 0, [])
  | 7 => (.iload_n 1, 8, 1, 0, 0, [])
  | 8 => (.bipush 20, 10, 0, 0, 20, [])
  | 10 => (.invokevirtual 221, 13, 180, 3, 0, [7])
  | 13 => (.aload_n 0, 14, 0, 0, 0, [])
  | 14 => (.getfield 19, 17, 7, 1, 5, [])
  | 17 => (.bipush 24, 19, 0, 0, 24, [])
  | 19 => (.iload_n 1, 20, 1, 0, 0, [])
  | 20 => (.iadd, 21, 0, 0, 0, [])
  | 21 => (.iaload, 22, 0, 0, 0, [])
  | 22 => (.iadd, 23, 0, 0, 0, [])
  | 23 => (.ireturn, 24, 0, 0, 0, [])
  | _ => (.nop, 1, 0, 0, 0, [])
def kt_M_windySize : Nat → kx_E
  | 0 => (.aload_n 0, 1, 0, 0, 0, [])
  | 1 => (.bipush 13, 3, 0, 0, 13, [])
  | 3 => (.invokevirtual 218, 6, 179, 2, 0, [7])
  | 6 => (.aload_n 0, 7, 0, 0, 0, [])
  | 7 => (.iload_n 1, 8, 1, 0, 0, [])
  | 8 => (.bipush 10, 10, 0, 0, 10, [])
  | 10 => (.invokevirtual 221, 13, 180, 3, 0, [7])
  | 13 => (.bipush 100, 15, 0, 0, 100, [])
  | 15 => (.isub, 16, 0, 0, 0, [])
  | 16 => (.ireturn, 17, 0, 0, 0, [])
  | _ => (.nop, 1, 0, 0, 0, [])
def kt_M_sizeOfWindy : Nat → kx_E
  | 0 => (.aload_n 0, 1, 0, 0, 0, [])
  | 1 => (.getfield 19, 4, 7, 1, 5, [])
  | 4 => (.bipush 6, 6, 0, 0, 6, [])
  | 6 => (.iload_n 1, 7, 1, 0, 0, [])
  | 7 => (.iadd, 8, 0, 0, 0, [])
  | 8 => (.iaload, 9, 0, 0, 0, [])
  | 9 => (.iconst 5, 10, 0, 0, 5, [])
  | 10 => (.if_icmp .ne 17, 13, 27, 0, 0, [])
  | 13 => (.aload_n 0, 14, 0, 0, 0, [])
  | 14 => (.bipush 14, 16, 0, 0, 14, [])
  | 16 => (.invokevirtual 218, 19, 179, 2, 0, [7])
  | 19 => (.iconst 2, 20, 0, 0, 2, [])
  | 20 => (.aload_n 0, 21, 0, 0, 0, [])
  | 21 => (.iload_n 1, 22, 1, 0, 0, [])
  | 22 => (.invokevirtual 224, 25, 182, 2, 0, [7])
  | 25 => (.imul, 26, 0, 0, 0, [])
  | 26 => (.ireturn, 27, 0, 0, 0, [])
  | 27 => (.aload_n 0, 28, 0, 0, 0, [])
  | 28 => (.iload_n 1, 29, 1, 0, 0, [])
  | 29 => (.invokevirtual 224, 32, 182, 2, 0, [7])
  | 32 => (.ireturn, 33, 0, 0, 0, [])
  | _ => (.nop, 1, 0, 0, 0, [])
def kt_M_markOf : Nat → kx_E
  | 0 => (.aload_n 0, 1, 0, 0, 0, [])
  | 1 => (.getfield 19, 4, 7, 1, 5, [])
  | 4 => (.bipush 6, 6, 0, 0, 6, [])
  | 6 => (.iload_n 1, 7, 1, 0, 0, [])
  | 7 => (.iadd, 8, 0, 0, 0, [])
  | 8 => (.iaload, 9, 0, 0, 0, [])
  | 9 => (.istore_n 2, 10, 2, 0, 0, [])
  | 10 => (.iload_n 2, 11, 2, 0, 0, [])
  | 11 => (.iconst 2, 12, 0, 0, 2, [])
  | 12 => (.if_icmp .ne 17, 15, 29, 0, 0, [])
  | 15 => (.aload_n 0, 16, 0, 0, 0, [])
  | 16 => (.bipush 24, 18, 0, 0, 24, [])
  | 18 => (.invokevirtual 218, 21, 179, 2, 0, [7])
  | 21 => (.iconst 2, 22, 0, 0, 2, [])
  | 22 => (.aload_n 0, 23, 0, 0, 0, [])
  | 23 => (.iload_n 1, 24, 1, 0, 0, [])
  | 24 => (.invokevirtual 227, 27, 181, 2, 0, [7])
  | 27 => (.imul, 28, 0, 0, 0, [])
  | 28 => (.ireturn, 29, 0, 0, 0, [])
  | 29 => (.iload_n 2, 30, 2, 0, 0, [])
  | 30 => (.iconst 3, 31, 0, 0, 3, [])
  | 31 => (.if_icmp .ne 19, 34, 50, 0, 0, [])
  | 34 => (.aload_n 0, 35, 0, 0, 0, [])
  | 35 => (.bipush 22, 37, 0, 0, 22, [])
  | 37 => (.invokevirtual 218, 40, 179, 2, 0, [7])
  | 40 => (.aload_n 0, 41, 0, 0, 0, [])
  | 41 => (.iload_n 1, 42, 1, 0, 0, [])
  | 42 => (.invokevirtual 227, 45, 181, 2, 0, [7])
  | 45 => (.sipush 1000, 48, 0, 0, 1000, [])
  | 48 => (.isub, 49, 0, 0, 0, [])
  | 49 => (.ireturn, 50, 0, 0, 0, [])
  | 50 => (.iload_n 2, 51, 2, 0, 0, [])
  | 51 => (.iconst 1, 52, 0, 0, 1, [])
  | 52 => (.if_icmp .ne 9, 55, 61, 0, 0, [])
  | 55 => (.aload_n 0, 56, 0, 0, 0, [])
  | 56 => (.iload_n 1, 57, 1, 0, 0, [])
  | 57 => (.invokevirtual 227, 60, 181, 2, 0, [7])
  | 60 => (.ireturn, 61, 0, 0, 0, [])
  | 61 => (.aload_n 0, 62, 0, 0, 0, [])
  | 62 => (.bipush 23, 64, 0, 0, 23, [])
  | 64 => (.invokevirtual 218, 67, 179, 2, 0, [7])
  | 67 => (.aload_n 0, 68, 0, 0, 0, [])
  | 68 => (.iload_n 1, 69, 1, 0, 0, [])
  | 69 => (.bipush 20, 71, 0, 0, 20, [])
  | 71 => (.invokevirtual 221, 74, 180, 3, 0, [7])
  | 74 => (.istore_n 3, 75, 3, 0, 0, [])
  | 75 => (.iload_n 3, 76, 3, 0, 0, [])
  | 76 => (.aload_n 0, 77, 0, 0, 0, [])
  | 77 => (.iload_n 1, 78, 1, 0, 0, [])
  | 78 => (.invokevirtual 230, 81, 183, 2, 0, [7])
  | 81 => (.isub, 82, 0, 0, 0, [])
  | 82 => (.ireturn, 83, 0, 0, 0, [])
  | _ => (.nop, 1, 0, 0, 0, [])
def kt_M_firmSize : Nat → kx_E
  | 0 => (.aload_n 0, 1, 0, 0, 0, [])
  | 1 => (.bipush 11, 3, 0, 0, 11, [])
  | 3 => (.invokevirtual 218, 6, 179, 2, 0, [7])
  | 6 => (.aload_n 0, 7, 0, 0, 0, [])
  | 7 => (.iload_n 1, 8, 1, 0, 0, [])
  | 8 => (.bipush 10, 10, 0, 0, 10, [])
  | 10 => (.invokevirtual 221, 13, 180, 3, 0, [7])
  | 13 => (.istore_n 2, 14, 2, 0, 0, [])
  | 14 => (.iload_n 2, 15, 2, 0, 0, [])
  | 15 => (.aload_n 0, 16, 0, 0, 0, [])
  | 16 => (.iload_n 1, 17, 1, 0, 0, [])
  | 17 => (.invokevirtual 233, 20, 184, 2, 0, [7])
  | 20 => (.iadd, 21, 0, 0, 0, [])
  | 21 => (.ireturn, 22, 0, 0, 0, [])
  | _ => (.nop, 1, 0, 0, 0, [])
def kt_M_sizeOf : Nat → kx_E
  | 0 => (.aload_n 0, 1, 0, 0, 0, [])
  | 1 => (.getfield 19, 4, 7, 1, 5, [])
  | 4 => (.bipush 6, 6, 0, 0, 6, [])
  | 6 => (.iload_n 1, 7, 1, 0, 0, [])
  | 7 => (.iadd, 8, 0, 0, 0, [])
  | 8 => (.iaload, 9, 0, 0, 0, [])
  | 9 => (.istore_n 2, 10, 2, 0, 0, [])
  | 10 => (.iload_n 2, 11, 2, 0, 0, [])
  | 11 => (.iconst 2, 12, 0, 0, 2, [])
  | 12 => (.if_icmp .ne 16, 15, 28, 0, 0, [])
  | 15 => (.aload_n 0, 16, 0, 0, 0, [])
  | 16 => (.bipush 12, 18, 0, 0, 12, [])
  | 18 => (.invokevirtual 218, 21, 179, 2, 0, [7])
  | 21 => (.aload_n 0, 22, 0, 0, 0, [])
  | 22 => (.iload_n 1, 23, 1, 0, 0, [])
  | 23 => (.invokevirtual 236, 26, 185, 2, 0, [7])
  | 26 => (.ineg, 27, 0, 0, 0, [])
  | 27 => (.ireturn, 28, 0, 0, 0, [])
  | 28 => (.iload_n 2, 29, 2, 0, 0, [])
  | 29 => (.iconst 4, 30, 0, 0, 4, [])
  | 30 => (.if_icmp .lt 11, 33, 41, 0, 0, [])
  | 33 => (.aload_n 0, 34, 0, 0, 0, [])
  | 34 => (.iload_n 1, 35, 1, 0, 0, [])
  | 35 => (.invokevirtual 230, 38, 183, 2, 0, [7])
  | 38 => (.goto 8, 41, 46, 0, 0, [])
  | 41 => (.aload_n 0, 42, 0, 0, 0, [])
  | 42 => (.iload_n 1, 43, 1, 0, 0, [])
  | 43 => (.invokevirtual 236, 46, 185, 2, 0, [7])
  | 46 => (.ireturn, 47, 0, 0, 0, [])
  | _ => (.nop, 1, 0, 0, 0, [])
def kt_M_ask : Nat → kx_E
  | 0 => (.aload_n 0, 1, 0, 0, 0, [])
  | 1 => (.iload_n 1, 2, 1, 0, 0, [])
  | 2 => (.invokevirtual 168, 5, 137, 2, 0, [7])
  | 5 => (.ifCond .eq 13, 8, 18, 0, 0, [])
  | 8 => (.iload_n 2, 9, 2, 0, 0, [])
  | 9 => (.i2l, 10, 0, 0, 0, [])
  | 10 => (.lconst 0, 11, 0, 0, 0, [])
  | 11 => (.lconst 1, 12, 0, 0, 1, [])
  | 12 => (.invokestatic 57, 15, 116, 3, 0, [])
  | 15 => (.ifCond .ne 6, 18, 21, 0, 0, [])
  | 18 => (.ldc 67, 20, 0, 0, (-1000001), [])
  | 20 => (.ireturn, 21, 0, 0, 0, [])
  | 21 => (.aload_n 0, 22, 0, 0, 0, [])
  | 22 => (.iconst 0, 23, 0, 0, 0, [])
  | 23 => (.putfield 215, 26, 7, 0, 23, [])
  | 26 => (.iload_n 2, 27, 2, 0, 0, [])
  | 27 => (.ifCond .ne 11, 30, 38, 0, 0, [])
  | 30 => (.aload_n 0, 31, 0, 0, 0, [])
  | 31 => (.iload_n 1, 32, 1, 0, 0, [])
  | 32 => (.invokevirtual 239, 35, 186, 2, 0, [7])
  | 35 => (.goto 8, 38, 43, 0, 0, [])
  | 38 => (.aload_n 0, 39, 0, 0, 0, [])
  | 39 => (.iload_n 1, 40, 1, 0, 0, [])
  | 40 => (.invokevirtual 233, 43, 184, 2, 0, [7])
  | 43 => (.ireturn, 44, 0, 0, 0, [])
  | _ => (.nop, 1, 0, 0, 0, [])
def kt_M_trace : Nat → kx_E
  | 0 => (.iload_n 1, 1, 1, 0, 0, [])
  | 1 => (.i2l, 2, 0, 0, 0, [])
  | 2 => (.lconst 0, 3, 0, 0, 0, [])
  | 3 => (.aload_n 0, 4, 0, 0, 0, [])
  | 4 => (.getfield 215, 7, 7, 0, 23, [])
  | 7 => (.iconst 1, 8, 0, 0, 1, [])
  | 8 => (.isub, 9, 0, 0, 0, [])
  | 9 => (.i2l, 10, 0, 0, 0, [])
  | 10 => (.invokestatic 57, 13, 116, 3, 0, [])
  | 13 => (.ifCond .eq 12, 16, 25, 0, 0, [])
  | 16 => (.aload_n 0, 17, 0, 0, 0, [])
  | 17 => (.getfield 47, 20, 7, 1, 22, [])
  | 20 => (.iload_n 1, 21, 1, 0, 0, [])
  | 21 => (.iaload, 22, 0, 0, 0, [])
  | 22 => (.goto 5, 25, 27, 0, 0, [])
  | 25 => (.ldc 193, 27, 0, 0, (-1000000), [])
  | 27 => (.ireturn, 28, 0, 0, 0, [])
  | _ => (.nop, 1, 0, 0, 0, [])
def kt_M_count : Nat → kx_E
  | 0 => (.iconst 0, 1, 0, 0, 0, [])
  | 1 => (.istore_n 2, 2, 2, 0, 0, [])
  | 2 => (.iconst 0, 3, 0, 0, 0, [])
  | 3 => (.istore_n 3, 4, 3, 0, 0, [])
  | 4 => (.iload_n 3, 5, 3, 0, 0, [])
  | 5 => (.bipush 8, 7, 0, 0, 8, [])
  | 7 => (.if_icmp .ge 26, 10, 33, 0, 0, [])
  | 10 => (.iload_n 2, 11, 2, 0, 0, [])
  | 11 => (.aload_n 0, 12, 0, 0, 0, [])
  | 12 => (.getfield 13, 15, 7, 1, 1, [])
  | 15 => (.iload_n 3, 16, 3, 0, 0, [])
  | 16 => (.iaload, 17, 0, 0, 0, [])
  | 17 => (.ifCond .lt 7, 20, 24, 0, 0, [])
  | 20 => (.iconst 1, 21, 0, 0, 1, [])
  | 21 => (.goto 4, 24, 25, 0, 0, [])
  | 24 => (.iconst 0, 25, 0, 0, 0, [])
  | 25 => (.iadd, 26, 0, 0, 0, [])
  | 26 => (.istore_n 2, 27, 2, 0, 0, [])
  | 27 => (.iinc 3 1, 30, 3, 0, 1, [])
  | 30 => (.goto (-26), 33, 4, 0, 0, [])
  | 33 => (.iconst 0, 34, 0, 0, 0, [])
  | 34 => (.istore_n 3, 35, 3, 0, 0, [])
  | 35 => (.iconst 0, 36, 0, 0, 0, [])
  | 36 => (.istore 4, 38, 4, 0, 0, [])
  | 38 => (.iload 4, 40, 4, 0, 0, [])
  | 40 => (.aload_n 0, 41, 0, 0, 0, [])
  | 41 => (.getfield 19, 44, 7, 1, 5, [])
  | 44 => (.iconst 2, 45, 0, 0, 2, [])
  | 45 => (.iaload, 46, 0, 0, 0, [])
  | 46 => (.if_icmp .ge 31, 49, 77, 0, 0, [])
  | 49 => (.iload_n 3, 50, 3, 0, 0, [])
  | 50 => (.aload_n 0, 51, 0, 0, 0, [])
  | 51 => (.getfield 19, 54, 7, 1, 5, [])
  | 54 => (.bipush 38, 56, 0, 0, 38, [])
  | 56 => (.iload 4, 58, 4, 0, 0, [])
  | 58 => (.iadd, 59, 0, 0, 0, [])
  | 59 => (.iaload, 60, 0, 0, 0, [])
  | 60 => (.iconst 1, 61, 0, 0, 1, [])
  | 61 => (.if_icmp .ne 7, 64, 68, 0, 0, [])
  | 64 => (.iconst 1, 65, 0, 0, 1, [])
  | 65 => (.goto 4, 68, 69, 0, 0, [])
  | 68 => (.iconst 0, 69, 0, 0, 0, [])
  | 69 => (.iadd, 70, 0, 0, 0, [])
  | 70 => (.istore_n 3, 71, 3, 0, 0, [])
  | 71 => (.iinc 4 1, 74, 4, 0, 1, [])
  | 74 => (.goto (-36), 77, 38, 0, 0, [])
  | 77 => (.iload_n 1, 78, 1, 0, 0, [])
  | 78 => (.tableswitch 86 0 7 #[46, 48, 55, 62, 67, 69, 76, 81], 124, 164, 0, 0, [124, 126, 133, 140, 145, 147, 154, 159])
  | 124 => (.iload_n 2, 125, 2, 0, 0, [])
  | 125 => (.ireturn, 126, 0, 0, 0, [])
  | 126 => (.aload_n 0, 127, 0, 0, 0, [])
  | 127 => (.getfield 19, 130, 7, 1, 5, [])
  | 130 => (.iconst 1, 131, 0, 0, 1, [])
  | 131 => (.iaload, 132, 0, 0, 0, [])
  | 132 => (.ireturn, 133, 0, 0, 0, [])
  | 133 => (.aload_n 0, 134, 0, 0, 0, [])
  | 134 => (.getfield 19, 137, 7, 1, 5, [])
  | 137 => (.iconst 2, 138, 0, 0, 2, [])
  | 138 => (.iaload, 139, 0, 0, 0, [])
  | 139 => (.ireturn, 140, 0, 0, 0, [])
  | 140 => (.aload_n 0, 141, 0, 0, 0, [])
  | 141 => (.invokevirtual 153, 144, 139, 1, 0, [7])
  | 144 => (.ireturn, 145, 0, 0, 0, [])
  | 145 => (.iload_n 3, 146, 3, 0, 0, [])
  | 146 => (.ireturn, 147, 0, 0, 0, [])
  | 147 => (.aload_n 0, 148, 0, 0, 0, [])
  | 148 => (.getfield 19, 151, 7, 1, 5, [])
  | 151 => (.iconst 3, 152, 0, 0, 3, [])
  | 152 => (.iaload, 153, 0, 0, 0, [])
  | 153 => (.ireturn, 154, 0, 0, 0, [])
  | 154 => (.aload_n 0, 155, 0, 0, 0, [])
  | 155 => (.getfield 142, 158, 7, 0, 17, [])
  | 158 => (.ireturn, 159, 0, 0, 0, [])
  | 159 => (.aload_n 0, 160, 0, 0, 0, [])
  | 160 => (.getfield 81, 163, 7, 0, 8, [])
  | 163 => (.ireturn, 164, 0, 0, 0, [])
  | 164 => (.ldc 67, 166, 0, 0, (-1000001), [])
  | 166 => (.ireturn, 167, 0, 0, 0, [])
  | _ => (.nop, 1, 0, 0, 0, [])
def kt_M_status : Nat → kx_E
  | 0 => (.aload_n 0, 1, 0, 0, 0, [])
  | 1 => (.getfield 50, 4, 7, 0, 3, [])
  | 4 => (.ireturn, 5, 0, 0, 0, [])
  | _ => (.nop, 1, 0, 0, 0, [])
def kt_Integer_bitCount : Nat → kx_E
  | 0 => (.iload_n 0, 1, 0, 0, 0, [])
  | 1 => (.iload_n 0, 2, 0, 0, 0, [])
  | 2 => (.iconst 1, 3, 0, 0, 1, [])
  | 3 => (.iushr, 4, 0, 0, 0, [])
  | 4 => (.ldc_w 265, 7, 0, 0, 1431655765, [])
  | 7 => (.iand, 8, 0, 0, 0, [])
  | 8 => (.isub, 9, 0, 0, 0, [])
  | 9 => (.istore_n 0, 10, 0, 0, 0, [])
  | 10 => (.iload_n 0, 11, 0, 0, 0, [])
  | 11 => (.ldc_w 266, 14, 0, 0, 858993459, [])
  | 14 => (.iand, 15, 0, 0, 0, [])
  | 15 => (.iload_n 0, 16, 0, 0, 0, [])
  | 16 => (.iconst 2, 17, 0, 0, 2, [])
  | 17 => (.iushr, 18, 0, 0, 0, [])
  | 18 => (.ldc_w 266, 21, 0, 0, 858993459, [])
  | 21 => (.iand, 22, 0, 0, 0, [])
  | 22 => (.iadd, 23, 0, 0, 0, [])
  | 23 => (.istore_n 0, 24, 0, 0, 0, [])
  | 24 => (.iload_n 0, 25, 0, 0, 0, [])
  | 25 => (.iload_n 0, 26, 0, 0, 0, [])
  | 26 => (.iconst 4, 27, 0, 0, 4, [])
  | 27 => (.iushr, 28, 0, 0, 0, [])
  | 28 => (.iadd, 29, 0, 0, 0, [])
  | 29 => (.ldc_w 267, 32, 0, 0, 252645135, [])
  | 32 => (.iand, 33, 0, 0, 0, [])
  | 33 => (.istore_n 0, 34, 0, 0, 0, [])
  | 34 => (.iload_n 0, 35, 0, 0, 0, [])
  | 35 => (.iload_n 0, 36, 0, 0, 0, [])
  | 36 => (.bipush 8, 38, 0, 0, 8, [])
  | 38 => (.iushr, 39, 0, 0, 0, [])
  | 39 => (.iadd, 40, 0, 0, 0, [])
  | 40 => (.istore_n 0, 41, 0, 0, 0, [])
  | 41 => (.iload_n 0, 42, 0, 0, 0, [])
  | 42 => (.iload_n 0, 43, 0, 0, 0, [])
  | 43 => (.bipush 16, 45, 0, 0, 16, [])
  | 45 => (.iushr, 46, 0, 0, 0, [])
  | 46 => (.iadd, 47, 0, 0, 0, [])
  | 47 => (.istore_n 0, 48, 0, 0, 0, [])
  | 48 => (.iload_n 0, 49, 0, 0, 0, [])
  | 49 => (.bipush 63, 51, 0, 0, 63, [])
  | 51 => (.iand, 52, 0, 0, 0, [])
  | 52 => (.ireturn, 53, 0, 0, 0, [])
  | _ => (.nop, 1, 0, 0, 0, [])
def kt_Math_floorMod : Nat → kx_E
  | 0 => (.iload_n 0, 1, 0, 0, 0, [])
  | 1 => (.iload_n 1, 2, 1, 0, 0, [])
  | 2 => (.irem, 3, 0, 0, 0, [])
  | 3 => (.istore_n 2, 4, 2, 0, 0, [])
  | 4 => (.iload_n 0, 5, 0, 0, 0, [])
  | 5 => (.iload_n 1, 6, 1, 0, 0, [])
  | 6 => (.ixor, 7, 0, 0, 0, [])
  | 7 => (.ifCond .ge 11, 10, 18, 0, 0, [])
  | 10 => (.iload_n 2, 11, 2, 0, 0, [])
  | 11 => (.ifCond .eq 7, 14, 18, 0, 0, [])
  | 14 => (.iload_n 2, 15, 2, 0, 0, [])
  | 15 => (.iload_n 1, 16, 1, 0, 0, [])
  | 16 => (.iadd, 17, 0, 0, 0, [])
  | 17 => (.ireturn, 18, 0, 0, 0, [])
  | 18 => (.iload_n 2, 19, 2, 0, 0, [])
  | 19 => (.ireturn, 20, 0, 0, 0, [])
  | _ => (.nop, 1, 0, 0, 0, [])
def kt_Math_min : Nat → kx_E
  | 0 => (.iload_n 0, 1, 0, 0, 0, [])
  | 1 => (.iload_n 1, 2, 1, 0, 0, [])
  | 2 => (.if_icmp .gt 7, 5, 9, 0, 0, [])
  | 5 => (.iload_n 0, 6, 0, 0, 0, [])
  | 6 => (.goto 4, 9, 10, 0, 0, [])
  | 9 => (.iload_n 1, 10, 1, 0, 0, [])
  | 10 => (.ireturn, 11, 0, 0, 0, [])
  | _ => (.nop, 1, 0, 0, 0, [])
def kt_Arrays_fill : Nat → kx_E
  | 0 => (.iconst 0, 1, 0, 0, 0, [])
  | 1 => (.istore_n 2, 2, 2, 0, 0, [])
  | 2 => (.aload_n 0, 3, 0, 0, 0, [])
  | 3 => (.arraylength, 4, 0, 0, 0, [])
  | 4 => (.istore_n 3, 5, 3, 0, 0, [])
  | 5 => (.iload_n 2, 6, 2, 0, 0, [])
  | 6 => (.iload_n 3, 7, 3, 0, 0, [])
  | 7 => (.if_icmp .ge 13, 10, 20, 0, 0, [])
  | 10 => (.aload_n 0, 11, 0, 0, 0, [])
  | 11 => (.iload_n 2, 12, 2, 0, 0, [])
  | 12 => (.iload_n 1, 13, 1, 0, 0, [])
  | 13 => (.iastore, 14, 0, 0, 0, [])
  | 14 => (.iinc 2 1, 17, 2, 0, 1, [])
  | 17 => (.goto (-12), 20, 5, 0, 0, [])
  | 20 => (.return_, 21, 0, 0, 0, [])
  | _ => (.nop, 1, 0, 0, 0, [])
def kt_Math_max : Nat → kx_E
  | 0 => (.iload_n 0, 1, 0, 0, 0, [])
  | 1 => (.iload_n 1, 2, 1, 0, 0, [])
  | 2 => (.if_icmp .lt 7, 5, 9, 0, 0, [])
  | 5 => (.iload_n 0, 6, 0, 0, 0, [])
  | 6 => (.goto 4, 9, 10, 0, 0, [])
  | 9 => (.iload_n 1, 10, 1, 0, 0, [])
  | 10 => (.ireturn, 11, 0, 0, 0, [])
  | _ => (.nop, 1, 0, 0, 0, [])
def kt_Str_length : Nat → kx_E
  | 0 => (.aload_n 0, 1, 0, 0, 0, [])
  | 1 => (.getfield 9, 4, 8, 1, 0, [])
  | 4 => (.arraylength, 5, 0, 0, 0, [])
  | 5 => (.aload_n 0, 6, 0, 0, 0, [])
  | 6 => (.invokevirtual 335, 9, 199, 1, 0, [8])
  | 9 => (.ishr, 10, 0, 0, 0, [])
  | 10 => (.ireturn, 11, 0, 0, 0, [])
  | _ => (.nop, 1, 0, 0, 0, [])
def kt_Str_indexOf : Nat → kx_E
  | 0 => (.aload_n 0, 1, 0, 0, 0, [])
  | 1 => (.iload_n 1, 2, 1, 0, 0, [])
  | 2 => (.iconst 0, 3, 0, 0, 0, [])
  | 3 => (.invokevirtual 633, 6, 198, 3, 0, [8])
  | 6 => (.ireturn, 7, 0, 0, 0, [])
  | _ => (.nop, 1, 0, 0, 0, [])
def kt_Str_indexOf2 : Nat → kx_E
  | 0 => (.aload_n 0, 1, 0, 0, 0, [])
  | 1 => (.invokevirtual 492, 4, 200, 1, 0, [8])
  | 4 => (.ifCond .eq 19, 7, 23, 0, 0, [])
  | 7 => (.aload_n 0, 8, 0, 0, 0, [])
  | 8 => (.getfield 9, 11, 8, 1, 0, [])
  | 11 => (.iload_n 1, 12, 1, 0, 0, [])
  | 12 => (.iload_n 2, 13, 2, 0, 0, [])
  | 13 => (.aload_n 0, 14, 0, 0, 0, [])
  | 14 => (.invokevirtual 505, 17, 196, 1, 0, [8])
  | 17 => (.invokestatic 637, 20, 202, 4, 0, [])
  | 20 => (.goto 16, 23, 36, 0, 0, [])
  | 23 => (.aload_n 0, 24, 0, 0, 0, [])
  | 24 => (.getfield 9, 27, 8, 1, 0, [])
  | 27 => (.iload_n 1, 28, 1, 0, 0, [])
  | 28 => (.iload_n 2, 29, 2, 0, 0, [])
  | 29 => (.aload_n 0, 30, 0, 0, 0, [])
  | 30 => (.invokevirtual 505, 33, 196, 1, 0, [8])
  | 33 => (.nop, 1, 0, 0, 0, [])
  | 36 => (.ireturn, 37, 0, 0, 0, [])
  | _ => (.nop, 1, 0, 0, 0, [])
def kt_Str_coder : Nat → kx_E
  | 0 => (.getstatic 38, 3, 1, 0, 1, [])
  | 3 => (.ifCond .eq 10, 6, 13, 0, 0, [])
  | 6 => (.aload_n 0, 7, 0, 0, 0, [])
  | 7 => (.getfield 15, 10, 8, 0, 1, [])
  | 10 => (.goto 4, 13, 14, 0, 0, [])
  | 13 => (.iconst 1, 14, 0, 0, 1, [])
  | 14 => (.ireturn, 15, 1, 0, 0, [])
  | _ => (.nop, 1, 0, 0, 0, [])
def kt_Str_isLatin1 : Nat → kx_E
  | 0 => (.getstatic 38, 3, 1, 0, 1, [])
  | 3 => (.ifCond .eq 14, 6, 17, 0, 0, [])
  | 6 => (.aload_n 0, 7, 0, 0, 0, [])
  | 7 => (.getfield 15, 10, 8, 0, 1, [])
  | 10 => (.ifCond .ne 7, 13, 17, 0, 0, [])
  | 13 => (.iconst 1, 14, 0, 0, 1, [])
  | 14 => (.goto 4, 17, 18, 0, 0, [])
  | 17 => (.iconst 0, 18, 0, 0, 0, [])
  | 18 => (.ireturn, 19, 1, 0, 0, [])
  | _ => (.nop, 1, 0, 0, 0, [])
def kt_SL1_canEncode : Nat → kx_E
  | 0 => (.iload_n 0, 1, 0, 0, 0, [])
  | 1 => (.ifCond .lt 14, 4, 15, 0, 0, [])
  | 4 => (.iload_n 0, 5, 0, 0, 0, [])
  | 5 => (.sipush 255, 8, 0, 0, 255, [])
  | 8 => (.if_icmp .gt 7, 11, 15, 0, 0, [])
  | 11 => (.iconst 1, 12, 0, 0, 1, [])
  | 12 => (.goto 4, 15, 16, 0, 0, [])
  | 15 => (.iconst 0, 16, 0, 0, 0, [])
  | 16 => (.ireturn, 17, 1, 0, 0, [])
  | _ => (.nop, 1, 0, 0, 0, [])
def kt_SL1_indexOf : Nat → kx_E
  | 0 => (.iload_n 1, 1, 1, 0, 0, [])
  | 1 => (.invokestatic 88, 4, 201, 1, 0, [])
  | 4 => (.ifCond .ne 5, 7, 9, 0, 0, [])
  | 7 => (.iconst (-1), 8, 0, 0, (-1), [])
  | 8 => (.ireturn, 9, 0, 0, 0, [])
  | 9 => (.iload_n 2, 10, 2, 0, 0, [])
  | 10 => (.iconst 0, 11, 0, 0, 0, [])
  | 11 => (.invokestatic 92, 14, 195, 2, 0, [])
  | 14 => (.istore_n 2, 15, 2, 0, 0, [])
  | 15 => (.iload_n 3, 16, 3, 0, 0, [])
  | 16 => (.aload_n 0, 17, 0, 0, 0, [])
  | 17 => (.arraylength, 18, 0, 0, 0, [])
  | 18 => (.invokestatic 38, 21, 193, 2, 0, [])
  | 21 => (.istore_n 3, 22, 3, 0, 0, [])
  | 22 => (.iload_n 2, 23, 2, 0, 0, [])
  | 23 => (.iload_n 3, 24, 3, 0, 0, [])
  | 24 => (.if_icmp .lt 5, 27, 29, 0, 0, [])
  | 27 => (.iconst (-1), 28, 0, 0, (-1), [])
  | 28 => (.ireturn, 29, 0, 0, 0, [])
  | 29 => (.aload_n 0, 30, 0, 0, 0, [])
  | 30 => (.iload_n 1, 31, 1, 0, 0, [])
  | 31 => (.iload_n 2, 32, 2, 0, 0, [])
  | 32 => (.iload_n 3, 33, 3, 0, 0, [])
  | 33 => (.invokestatic 95, 36, 203, 4, 0, [])
  | 36 => (.ireturn, 37, 0, 0, 0, [])
  | _ => (.nop, 1, 0, 0, 0, [])
def kt_SL1_indexOfChar : Nat → kx_E
  | 0 => (.iload_n 1, 1, 1, 0, 0, [])
  | 1 => (.i2b, 2, 0, 0, 0, [])
  | 2 => (.istore 4, 4, 4, 0, 0, [])
  | 4 => (.iload_n 2, 5, 2, 0, 0, [])
  | 5 => (.istore 5, 7, 5, 0, 0, [])
  | 7 => (.iload 5, 9, 5, 0, 0, [])
  | 9 => (.iload_n 3, 10, 3, 0, 0, [])
  | 10 => (.if_icmp .ge 21, 13, 31, 0, 0, [])
  | 13 => (.aload_n 0, 14, 0, 0, 0, [])
  | 14 => (.iload 5, 16, 5, 0, 0, [])
  | 16 => (.baload, 17, 0, 0, 0, [])
  | 17 => (.iload 4, 19, 4, 0, 0, [])
  | 19 => (.if_icmp .ne 6, 22, 25, 0, 0, [])
  | 22 => (.iload 5, 24, 5, 0, 0, [])
  | 24 => (.ireturn, 25, 0, 0, 0, [])
  | 25 => (.iinc 5 1, 28, 5, 0, 1, [])
  | 28 => (.goto (-21), 31, 7, 0, 0, [])
  | 31 => (.iconst (-1), 32, 0, 0, (-1), [])
  | 32 => (.ireturn, 33, 0, 0, 0, [])
  | _ => (.nop, 1, 0, 0, 0, [])
end
section
def kt_Law_law : Nat → kx_E
  | 0 => (.new 7, 3, 6, 0, 0, [])
  | 3 => (.dup, 4, 0, 0, 0, [])
  | 4 => (.invokespecial 9, 7, 68, 1, 0, [])
  | 7 => (.astore_n 1, 8, 1, 0, 0, [])
  | 8 => (.new 10, 11, 7, 0, 0, [])
  | 11 => (.dup, 12, 0, 0, 0, [])
  | 12 => (.invokespecial 12, 15, 115, 1, 0, [])
  | 15 => (.astore_n 2, 16, 2, 0, 0, [])
  | 16 => (.iconst 0, 17, 0, 0, 0, [])
  | 17 => (.istore_n 3, 18, 3, 0, 0, [])
  | 18 => (.iload_n 3, 19, 3, 0, 0, [])
  | 19 => (.aload_n 0, 20, 0, 0, 0, [])
  | 20 => (.arraylength, 21, 0, 0, 0, [])
  | 21 => (.bipush 6, 23, 0, 0, 6, [])
  | 23 => (.isub, 24, 0, 0, 0, [])
  | 24 => (.if_icmp .gt 1182, 27, 1206, 0, 0, [])
  | 27 => (.aload_n 0, 28, 0, 0, 0, [])
  | 28 => (.iload_n 3, 29, 3, 0, 0, [])
  | 29 => (.iaload, 30, 0, 0, 0, [])
  | 30 => (.bipush 63, 32, 0, 0, 63, [])
  | 32 => (.iand, 33, 0, 0, 0, [])
  | 33 => (.tableswitch 1167 0 35 #[159, 202, 245, 308, 331, 354, 367, 380, 403, 426, 449, 472, 495, 508, 541, 574, 597, 620, 643, 666, 689, 712, 725, 758, 791, 824, 867, 920, 973, 996, 1019, 1042, 1075, 1108, 1131, 1154], 192, 1200, 0, 0, [192, 235, 278, 341, 364, 387, 400, 413, 436, 459, 482, 505, 528, 541, 574, 607, 630, 653, 676, 699, 722, 745, 758, 791, 824, 857, 900, 953, 1006, 1029, 1052, 1075, 1108, 1141, 1164, 1187])
  | 192 => (.aload_n 1, 193, 1, 0, 0, [])
  | 193 => (.aload_n 0, 194, 0, 0, 0, [])
  | 194 => (.iload_n 3, 195, 3, 0, 0, [])
  | 195 => (.iconst 1, 196, 0, 0, 1, [])
  | 196 => (.iadd, 197, 0, 0, 0, [])
  | 197 => (.iaload, 198, 0, 0, 0, [])
  | 198 => (.aload_n 0, 199, 0, 0, 0, [])
  | 199 => (.iload_n 3, 200, 3, 0, 0, [])
  | 200 => (.iconst 2, 201, 0, 0, 2, [])
  | 201 => (.iadd, 202, 0, 0, 0, [])
  | 202 => (.iaload, 203, 0, 0, 0, [])
  | 203 => (.aload_n 0, 204, 0, 0, 0, [])
  | 204 => (.iload_n 3, 205, 3, 0, 0, [])
  | 205 => (.iconst 3, 206, 0, 0, 3, [])
  | 206 => (.iadd, 207, 0, 0, 0, [])
  | 207 => (.iaload, 208, 0, 0, 0, [])
  | 208 => (.invokevirtual 13, 211, 69, 4, 0, [6])
  | 211 => (.aload_n 2, 212, 2, 0, 0, [])
  | 212 => (.aload_n 0, 213, 0, 0, 0, [])
  | 213 => (.iload_n 3, 214, 3, 0, 0, [])
  | 214 => (.iconst 1, 215, 0, 0, 1, [])
  | 215 => (.iadd, 216, 0, 0, 0, [])
  | 216 => (.iaload, 217, 0, 0, 0, [])
  | 217 => (.aload_n 0, 218, 0, 0, 0, [])
  | 218 => (.iload_n 3, 219, 3, 0, 0, [])
  | 219 => (.iconst 2, 220, 0, 0, 2, [])
  | 220 => (.iadd, 221, 0, 0, 0, [])
  | 221 => (.iaload, 222, 0, 0, 0, [])
  | 222 => (.aload_n 0, 223, 0, 0, 0, [])
  | 223 => (.iload_n 3, 224, 3, 0, 0, [])
  | 224 => (.iconst 3, 225, 0, 0, 3, [])
  | 225 => (.iadd, 226, 0, 0, 0, [])
  | 226 => (.iaload, 227, 0, 0, 0, [])
  | 227 => (.invokevirtual 17, 230, 121, 4, 0, [7])
  | 230 => (.if_icmp .eq 970, 233, 1200, 0, 0, [])
  | 233 => (.iconst 0, 234, 0, 0, 0, [])
  | 234 => (.ireturn, 235, 1, 0, 0, [])
  | 235 => (.aload_n 1, 236, 1, 0, 0, [])
  | 236 => (.aload_n 0, 237, 0, 0, 0, [])
  | 237 => (.iload_n 3, 238, 3, 0, 0, [])
  | 238 => (.iconst 1, 239, 0, 0, 1, [])
  | 239 => (.iadd, 240, 0, 0, 0, [])
  | 240 => (.iaload, 241, 0, 0, 0, [])
  | 241 => (.aload_n 0, 242, 0, 0, 0, [])
  | 242 => (.iload_n 3, 243, 3, 0, 0, [])
  | 243 => (.iconst 2, 244, 0, 0, 2, [])
  | 244 => (.iadd, 245, 0, 0, 0, [])
  | 245 => (.iaload, 246, 0, 0, 0, [])
  | 246 => (.aload_n 0, 247, 0, 0, 0, [])
  | 247 => (.iload_n 3, 248, 3, 0, 0, [])
  | 248 => (.iconst 3, 249, 0, 0, 3, [])
  | 249 => (.iadd, 250, 0, 0, 0, [])
  | 250 => (.iaload, 251, 0, 0, 0, [])
  | 251 => (.invokevirtual 18, 254, 70, 4, 0, [6])
  | 254 => (.aload_n 2, 255, 2, 0, 0, [])
  | 255 => (.aload_n 0, 256, 0, 0, 0, [])
  | 256 => (.iload_n 3, 257, 3, 0, 0, [])
  | 257 => (.iconst 1, 258, 0, 0, 1, [])
  | 258 => (.iadd, 259, 0, 0, 0, [])
  | 259 => (.iaload, 260, 0, 0, 0, [])
  | 260 => (.aload_n 0, 261, 0, 0, 0, [])
  | 261 => (.iload_n 3, 262, 3, 0, 0, [])
  | 262 => (.iconst 2, 263, 0, 0, 2, [])
  | 263 => (.iadd, 264, 0, 0, 0, [])
  | 264 => (.iaload, 265, 0, 0, 0, [])
  | 265 => (.aload_n 0, 266, 0, 0, 0, [])
  | 266 => (.iload_n 3, 267, 3, 0, 0, [])
  | 267 => (.iconst 3, 268, 0, 0, 3, [])
  | 268 => (.iadd, 269, 0, 0, 0, [])
  | 269 => (.iaload, 270, 0, 0, 0, [])
  | 270 => (.invokevirtual 21, 273, 123, 4, 0, [7])
  | 273 => (.if_icmp .eq 927, 276, 1200, 0, 0, [])
  | 276 => (.iconst 0, 277, 0, 0, 0, [])
  | 277 => (.ireturn, 278, 1, 0, 0, [])
  | 278 => (.aload_n 1, 279, 1, 0, 0, [])
  | 279 => (.aload_n 0, 280, 0, 0, 0, [])
  | 280 => (.iload_n 3, 281, 3, 0, 0, [])
  | 281 => (.iconst 1, 282, 0, 0, 1, [])
  | 282 => (.iadd, 283, 0, 0, 0, [])
  | 283 => (.iaload, 284, 0, 0, 0, [])
  | 284 => (.aload_n 0, 285, 0, 0, 0, [])
  | 285 => (.iload_n 3, 286, 3, 0, 0, [])
  | 286 => (.iconst 2, 287, 0, 0, 2, [])
  | 287 => (.iadd, 288, 0, 0, 0, [])
  | 288 => (.iaload, 289, 0, 0, 0, [])
  | 289 => (.aload_n 0, 290, 0, 0, 0, [])
  | 290 => (.iload_n 3, 291, 3, 0, 0, [])
  | 291 => (.iconst 3, 292, 0, 0, 3, [])
  | 292 => (.iadd, 293, 0, 0, 0, [])
  | 293 => (.iaload, 294, 0, 0, 0, [])
  | 294 => (.aload_n 0, 295, 0, 0, 0, [])
  | 295 => (.iload_n 3, 296, 3, 0, 0, [])
  | 296 => (.iconst 4, 297, 0, 0, 4, [])
  | 297 => (.iadd, 298, 0, 0, 0, [])
  | 298 => (.iaload, 299, 0, 0, 0, [])
  | 299 => (.aload_n 0, 300, 0, 0, 0, [])
  | 300 => (.iload_n 3, 301, 3, 0, 0, [])
  | 301 => (.iconst 5, 302, 0, 0, 5, [])
  | 302 => (.iadd, 303, 0, 0, 0, [])
  | 303 => (.iaload, 304, 0, 0, 0, [])
  | 304 => (.invokevirtual 22, 307, 71, 6, 0, [6])
  | 307 => (.aload_n 2, 308, 2, 0, 0, [])
  | 308 => (.aload_n 0, 309, 0, 0, 0, [])
  | 309 => (.iload_n 3, 310, 3, 0, 0, [])
  | 310 => (.iconst 1, 311, 0, 0, 1, [])
  | 311 => (.iadd, 312, 0, 0, 0, [])
  | 312 => (.iaload, 313, 0, 0, 0, [])
  | 313 => (.aload_n 0, 314, 0, 0, 0, [])
  | 314 => (.iload_n 3, 315, 3, 0, 0, [])
  | 315 => (.iconst 2, 316, 0, 0, 2, [])
  | 316 => (.iadd, 317, 0, 0, 0, [])
  | 317 => (.iaload, 318, 0, 0, 0, [])
  | 318 => (.aload_n 0, 319, 0, 0, 0, [])
  | 319 => (.iload_n 3, 320, 3, 0, 0, [])
  | 320 => (.iconst 3, 321, 0, 0, 3, [])
  | 321 => (.iadd, 322, 0, 0, 0, [])
  | 322 => (.iaload, 323, 0, 0, 0, [])
  | 323 => (.aload_n 0, 324, 0, 0, 0, [])
  | 324 => (.iload_n 3, 325, 3, 0, 0, [])
  | 325 => (.iconst 4, 326, 0, 0, 4, [])
  | 326 => (.iadd, 327, 0, 0, 0, [])
  | 327 => (.iaload, 328, 0, 0, 0, [])
  | 328 => (.aload_n 0, 329, 0, 0, 0, [])
  | 329 => (.iload_n 3, 330, 3, 0, 0, [])
  | 330 => (.iconst 5, 331, 0, 0, 5, [])
  | 331 => (.iadd, 332, 0, 0, 0, [])
  | 332 => (.iaload, 333, 0, 0, 0, [])
  | 333 => (.invokevirtual 26, 336, 124, 6, 0, [7])
  | 336 => (.if_icmp .eq 864, 339, 1200, 0, 0, [])
  | 339 => (.iconst 0, 340, 0, 0, 0, [])
  | 340 => (.ireturn, 341, 1, 0, 0, [])
  | 341 => (.aload_n 1, 342, 1, 0, 0, [])
  | 342 => (.aload_n 0, 343, 0, 0, 0, [])
  | 343 => (.iload_n 3, 344, 3, 0, 0, [])
  | 344 => (.iconst 1, 345, 0, 0, 1, [])
  | 345 => (.iadd, 346, 0, 0, 0, [])
  | 346 => (.iaload, 347, 0, 0, 0, [])
  | 347 => (.invokevirtual 27, 350, 72, 2, 0, [6])
  | 350 => (.aload_n 2, 351, 2, 0, 0, [])
  | 351 => (.aload_n 0, 352, 0, 0, 0, [])
  | 352 => (.iload_n 3, 353, 3, 0, 0, [])
  | 353 => (.iconst 1, 354, 0, 0, 1, [])
  | 354 => (.iadd, 355, 0, 0, 0, [])
  | 355 => (.iaload, 356, 0, 0, 0, [])
  | 356 => (.invokevirtual 31, 359, 125, 2, 0, [7])
  | 359 => (.if_icmp .eq 841, 362, 1200, 0, 0, [])
  | 362 => (.iconst 0, 363, 0, 0, 0, [])
  | 363 => (.ireturn, 364, 1, 0, 0, [])
  | 364 => (.aload_n 1, 365, 1, 0, 0, [])
  | 365 => (.aload_n 0, 366, 0, 0, 0, [])
  | 366 => (.iload_n 3, 367, 3, 0, 0, [])
  | 367 => (.iconst 1, 368, 0, 0, 1, [])
  | 368 => (.iadd, 369, 0, 0, 0, [])
  | 369 => (.iaload, 370, 0, 0, 0, [])
  | 370 => (.invokevirtual 32, 373, 73, 2, 0, [6])
  | 373 => (.aload_n 2, 374, 2, 0, 0, [])
  | 374 => (.aload_n 0, 375, 0, 0, 0, [])
  | 375 => (.iload_n 3, 376, 3, 0, 0, [])
  | 376 => (.iconst 1, 377, 0, 0, 1, [])
  | 377 => (.iadd, 378, 0, 0, 0, [])
  | 378 => (.iaload, 379, 0, 0, 0, [])
  | 379 => (.invokevirtual 35, 382, 126, 2, 0, [7])
  | 382 => (.if_icmp .eq 818, 385, 1200, 0, 0, [])
  | 385 => (.iconst 0, 386, 0, 0, 0, [])
  | 386 => (.ireturn, 387, 1, 0, 0, [])
  | 387 => (.aload_n 1, 388, 1, 0, 0, [])
  | 388 => (.invokevirtual 36, 391, 74, 1, 0, [6])
  | 391 => (.aload_n 2, 392, 2, 0, 0, [])
  | 392 => (.invokevirtual 40, 395, 135, 1, 0, [7])
  | 395 => (.if_icmp .eq 805, 398, 1200, 0, 0, [])
  | 398 => (.iconst 0, 399, 0, 0, 0, [])
  | 399 => (.ireturn, 400, 1, 0, 0, [])
  | 400 => (.aload_n 1, 401, 1, 0, 0, [])
  | 401 => (.invokevirtual 41, 404, 75, 1, 0, [6])
  | 404 => (.aload_n 2, 405, 2, 0, 0, [])
  | 405 => (.invokevirtual 44, 408, 136, 1, 0, [7])
  | 408 => (.if_icmp .eq 792, 411, 1200, 0, 0, [])
  | 411 => (.iconst 0, 412, 0, 0, 0, [])
  | 412 => (.ireturn, 413, 1, 0, 0, [])
  | 413 => (.aload_n 1, 414, 1, 0, 0, [])
  | 414 => (.aload_n 0, 415, 0, 0, 0, [])
  | 415 => (.iload_n 3, 416, 3, 0, 0, [])
  | 416 => (.iconst 1, 417, 0, 0, 1, [])
  | 417 => (.iadd, 418, 0, 0, 0, [])
  | 418 => (.iaload, 419, 0, 0, 0, [])
  | 419 => (.invokevirtual 45, 422, 76, 2, 0, [6])
  | 422 => (.aload_n 2, 423, 2, 0, 0, [])
  | 423 => (.aload_n 0, 424, 0, 0, 0, [])
  | 424 => (.iload_n 3, 425, 3, 0, 0, [])
  | 425 => (.iconst 1, 426, 0, 0, 1, [])
  | 426 => (.iadd, 427, 0, 0, 0, [])
  | 427 => (.iaload, 428, 0, 0, 0, [])
  | 428 => (.invokevirtual 48, 431, 143, 2, 0, [7])
  | 431 => (.if_icmp .eq 769, 434, 1200, 0, 0, [])
  | 434 => (.iconst 0, 435, 0, 0, 0, [])
  | 435 => (.ireturn, 436, 1, 0, 0, [])
  | 436 => (.aload_n 1, 437, 1, 0, 0, [])
  | 437 => (.aload_n 0, 438, 0, 0, 0, [])
  | 438 => (.iload_n 3, 439, 3, 0, 0, [])
  | 439 => (.iconst 1, 440, 0, 0, 1, [])
  | 440 => (.iadd, 441, 0, 0, 0, [])
  | 441 => (.iaload, 442, 0, 0, 0, [])
  | 442 => (.invokevirtual 49, 445, 77, 2, 0, [6])
  | 445 => (.aload_n 2, 446, 2, 0, 0, [])
  | 446 => (.aload_n 0, 447, 0, 0, 0, [])
  | 447 => (.iload_n 3, 448, 3, 0, 0, [])
  | 448 => (.iconst 1, 449, 0, 0, 1, [])
  | 449 => (.iadd, 450, 0, 0, 0, [])
  | 450 => (.iaload, 451, 0, 0, 0, [])
  | 451 => (.invokevirtual 52, 454, 144, 2, 0, [7])
  | 454 => (.if_icmp .eq 746, 457, 1200, 0, 0, [])
  | 457 => (.iconst 0, 458, 0, 0, 0, [])
  | 458 => (.ireturn, 459, 1, 0, 0, [])
  | 459 => (.aload_n 1, 460, 1, 0, 0, [])
  | 460 => (.aload_n 0, 461, 0, 0, 0, [])
  | 461 => (.iload_n 3, 462, 3, 0, 0, [])
  | 462 => (.iconst 1, 463, 0, 0, 1, [])
  | 463 => (.iadd, 464, 0, 0, 0, [])
  | 464 => (.iaload, 465, 0, 0, 0, [])
  | 465 => (.invokevirtual 53, 468, 78, 2, 0, [6])
  | 468 => (.aload_n 2, 469, 2, 0, 0, [])
  | 469 => (.aload_n 0, 470, 0, 0, 0, [])
  | 470 => (.iload_n 3, 471, 3, 0, 0, [])
  | 471 => (.iconst 1, 472, 0, 0, 1, [])
  | 472 => (.iadd, 473, 0, 0, 0, [])
  | 473 => (.iaload, 474, 0, 0, 0, [])
  | 474 => (.invokevirtual 56, 477, 146, 2, 0, [7])
  | 477 => (.if_icmp .eq 723, 480, 1200, 0, 0, [])
  | 480 => (.iconst 0, 481, 0, 0, 0, [])
  | 481 => (.ireturn, 482, 1, 0, 0, [])
  | 482 => (.aload_n 1, 483, 1, 0, 0, [])
  | 483 => (.aload_n 0, 484, 0, 0, 0, [])
  | 484 => (.iload_n 3, 485, 3, 0, 0, [])
  | 485 => (.iconst 1, 486, 0, 0, 1, [])
  | 486 => (.iadd, 487, 0, 0, 0, [])
  | 487 => (.iaload, 488, 0, 0, 0, [])
  | 488 => (.invokevirtual 57, 491, 79, 2, 0, [6])
  | 491 => (.aload_n 2, 492, 2, 0, 0, [])
  | 492 => (.aload_n 0, 493, 0, 0, 0, [])
  | 493 => (.iload_n 3, 494, 3, 0, 0, [])
  | 494 => (.iconst 1, 495, 0, 0, 1, [])
  | 495 => (.iadd, 496, 0, 0, 0, [])
  | 496 => (.iaload, 497, 0, 0, 0, [])
  | 497 => (.invokevirtual 60, 500, 147, 2, 0, [7])
  | 500 => (.if_icmp .eq 700, 503, 1200, 0, 0, [])
  | 503 => (.iconst 0, 504, 0, 0, 0, [])
  | 504 => (.ireturn, 505, 1, 0, 0, [])
  | 505 => (.aload_n 1, 506, 1, 0, 0, [])
  | 506 => (.aload_n 0, 507, 0, 0, 0, [])
  | 507 => (.iload_n 3, 508, 3, 0, 0, [])
  | 508 => (.iconst 1, 509, 0, 0, 1, [])
  | 509 => (.iadd, 510, 0, 0, 0, [])
  | 510 => (.iaload, 511, 0, 0, 0, [])
  | 511 => (.invokevirtual 61, 514, 80, 2, 0, [6])
  | 514 => (.aload_n 2, 515, 2, 0, 0, [])
  | 515 => (.aload_n 0, 516, 0, 0, 0, [])
  | 516 => (.iload_n 3, 517, 3, 0, 0, [])
  | 517 => (.iconst 1, 518, 0, 0, 1, [])
  | 518 => (.iadd, 519, 0, 0, 0, [])
  | 519 => (.iaload, 520, 0, 0, 0, [])
  | 520 => (.invokevirtual 64, 523, 148, 2, 0, [7])
  | 523 => (.if_icmp .eq 677, 526, 1200, 0, 0, [])
  | 526 => (.iconst 0, 527, 0, 0, 0, [])
  | 527 => (.ireturn, 528, 1, 0, 0, [])
  | 528 => (.aload_n 1, 529, 1, 0, 0, [])
  | 529 => (.invokevirtual 65, 532, 81, 1, 0, [6])
  | 532 => (.aload_n 2, 533, 2, 0, 0, [])
  | 533 => (.invokevirtual 68, 536, 149, 1, 0, [7])
  | 536 => (.if_icmp .eq 664, 539, 1200, 0, 0, [])
  | 539 => (.iconst 0, 540, 0, 0, 0, [])
  | 540 => (.ireturn, 541, 1, 0, 0, [])
  | 541 => (.aload_n 1, 542, 1, 0, 0, [])
  | 542 => (.aload_n 0, 543, 0, 0, 0, [])
  | 543 => (.iload_n 3, 544, 3, 0, 0, [])
  | 544 => (.iconst 1, 545, 0, 0, 1, [])
  | 545 => (.iadd, 546, 0, 0, 0, [])
  | 546 => (.iaload, 547, 0, 0, 0, [])
  | 547 => (.aload_n 0, 548, 0, 0, 0, [])
  | 548 => (.iload_n 3, 549, 3, 0, 0, [])
  | 549 => (.iconst 2, 550, 0, 0, 2, [])
  | 550 => (.iadd, 551, 0, 0, 0, [])
  | 551 => (.iaload, 552, 0, 0, 0, [])
  | 552 => (.invokevirtual 69, 555, 82, 3, 0, [6])
  | 555 => (.aload_n 2, 556, 2, 0, 0, [])
  | 556 => (.aload_n 0, 557, 0, 0, 0, [])
  | 557 => (.iload_n 3, 558, 3, 0, 0, [])
  | 558 => (.iconst 1, 559, 0, 0, 1, [])
  | 559 => (.iadd, 560, 0, 0, 0, [])
  | 560 => (.iaload, 561, 0, 0, 0, [])
  | 561 => (.aload_n 0, 562, 0, 0, 0, [])
  | 562 => (.iload_n 3, 563, 3, 0, 0, [])
  | 563 => (.iconst 2, 564, 0, 0, 2, [])
  | 564 => (.iadd, 565, 0, 0, 0, [])
  | 565 => (.iaload, 566, 0, 0, 0, [])
  | 566 => (.invokevirtual 73, 569, 150, 3, 0, [7])
  | 569 => (.if_icmp .eq 631, 572, 1200, 0, 0, [])
  | 572 => (.iconst 0, 573, 0, 0, 0, [])
  | 573 => (.ireturn, 574, 1, 0, 0, [])
  | 574 => (.aload_n 1, 575, 1, 0, 0, [])
  | 575 => (.aload_n 0, 576, 0, 0, 0, [])
  | 576 => (.iload_n 3, 577, 3, 0, 0, [])
  | 577 => (.iconst 1, 578, 0, 0, 1, [])
  | 578 => (.iadd, 579, 0, 0, 0, [])
  | 579 => (.iaload, 580, 0, 0, 0, [])
  | 580 => (.aload_n 0, 581, 0, 0, 0, [])
  | 581 => (.iload_n 3, 582, 3, 0, 0, [])
  | 582 => (.iconst 2, 583, 0, 0, 2, [])
  | 583 => (.iadd, 584, 0, 0, 0, [])
  | 584 => (.iaload, 585, 0, 0, 0, [])
  | 585 => (.invokevirtual 74, 588, 83, 3, 0, [6])
  | 588 => (.aload_n 2, 589, 2, 0, 0, [])
  | 589 => (.aload_n 0, 590, 0, 0, 0, [])
  | 590 => (.iload_n 3, 591, 3, 0, 0, [])
  | 591 => (.iconst 1, 592, 0, 0, 1, [])
  | 592 => (.iadd, 593, 0, 0, 0, [])
  | 593 => (.iaload, 594, 0, 0, 0, [])
  | 594 => (.aload_n 0, 595, 0, 0, 0, [])
  | 595 => (.iload_n 3, 596, 3, 0, 0, [])
  | 596 => (.iconst 2, 597, 0, 0, 2, [])
  | 597 => (.iadd, 598, 0, 0, 0, [])
  | 598 => (.iaload, 599, 0, 0, 0, [])
  | 599 => (.invokevirtual 77, 602, 151, 3, 0, [7])
  | 602 => (.if_icmp .eq 598, 605, 1200, 0, 0, [])
  | 605 => (.iconst 0, 606, 0, 0, 0, [])
  | 606 => (.ireturn, 607, 1, 0, 0, [])
  | 607 => (.aload_n 1, 608, 1, 0, 0, [])
  | 608 => (.aload_n 0, 609, 0, 0, 0, [])
  | 609 => (.iload_n 3, 610, 3, 0, 0, [])
  | 610 => (.iconst 1, 611, 0, 0, 1, [])
  | 611 => (.iadd, 612, 0, 0, 0, [])
  | 612 => (.iaload, 613, 0, 0, 0, [])
  | 613 => (.invokevirtual 78, 616, 84, 2, 0, [6])
  | 616 => (.aload_n 2, 617, 2, 0, 0, [])
  | 617 => (.aload_n 0, 618, 0, 0, 0, [])
  | 618 => (.iload_n 3, 619, 3, 0, 0, [])
  | 619 => (.iconst 1, 620, 0, 0, 1, [])
  | 620 => (.iadd, 621, 0, 0, 0, [])
  | 621 => (.iaload, 622, 0, 0, 0, [])
  | 622 => (.invokevirtual 81, 625, 152, 2, 0, [7])
  | 625 => (.if_icmp .eq 575, 628, 1200, 0, 0, [])
  | 628 => (.iconst 0, 629, 0, 0, 0, [])
  | 629 => (.ireturn, 630, 1, 0, 0, [])
  | 630 => (.aload_n 1, 631, 1, 0, 0, [])
  | 631 => (.aload_n 0, 632, 0, 0, 0, [])
  | 632 => (.iload_n 3, 633, 3, 0, 0, [])
  | 633 => (.iconst 1, 634, 0, 0, 1, [])
  | 634 => (.iadd, 635, 0, 0, 0, [])
  | 635 => (.iaload, 636, 0, 0, 0, [])
  | 636 => (.invokevirtual 82, 639, 85, 2, 0, [6])
  | 639 => (.aload_n 2, 640, 2, 0, 0, [])
  | 640 => (.aload_n 0, 641, 0, 0, 0, [])
  | 641 => (.iload_n 3, 642, 3, 0, 0, [])
  | 642 => (.iconst 1, 643, 0, 0, 1, [])
  | 643 => (.iadd, 644, 0, 0, 0, [])
  | 644 => (.iaload, 645, 0, 0, 0, [])
  | 645 => (.invokevirtual 85, 648, 157, 2, 0, [7])
  | 648 => (.if_icmp .eq 552, 651, 1200, 0, 0, [])
  | 651 => (.iconst 0, 652, 0, 0, 0, [])
  | 652 => (.ireturn, 653, 1, 0, 0, [])
  | 653 => (.aload_n 1, 654, 1, 0, 0, [])
  | 654 => (.aload_n 0, 655, 0, 0, 0, [])
  | 655 => (.iload_n 3, 656, 3, 0, 0, [])
  | 656 => (.iconst 1, 657, 0, 0, 1, [])
  | 657 => (.iadd, 658, 0, 0, 0, [])
  | 658 => (.iaload, 659, 0, 0, 0, [])
  | 659 => (.invokevirtual 86, 662, 86, 2, 0, [6])
  | 662 => (.aload_n 2, 663, 2, 0, 0, [])
  | 663 => (.aload_n 0, 664, 0, 0, 0, [])
  | 664 => (.iload_n 3, 665, 3, 0, 0, [])
  | 665 => (.iconst 1, 666, 0, 0, 1, [])
  | 666 => (.iadd, 667, 0, 0, 0, [])
  | 667 => (.iaload, 668, 0, 0, 0, [])
  | 668 => (.invokevirtual 89, 671, 158, 2, 0, [7])
  | 671 => (.if_icmp .eq 529, 674, 1200, 0, 0, [])
  | 674 => (.iconst 0, 675, 0, 0, 0, [])
  | 675 => (.ireturn, 676, 1, 0, 0, [])
  | 676 => (.aload_n 1, 677, 1, 0, 0, [])
  | 677 => (.aload_n 0, 678, 0, 0, 0, [])
  | 678 => (.iload_n 3, 679, 3, 0, 0, [])
  | 679 => (.iconst 1, 680, 0, 0, 1, [])
  | 680 => (.iadd, 681, 0, 0, 0, [])
  | 681 => (.iaload, 682, 0, 0, 0, [])
  | 682 => (.invokevirtual 90, 685, 87, 2, 0, [6])
  | 685 => (.aload_n 2, 686, 2, 0, 0, [])
  | 686 => (.aload_n 0, 687, 0, 0, 0, [])
  | 687 => (.iload_n 3, 688, 3, 0, 0, [])
  | 688 => (.iconst 1, 689, 0, 0, 1, [])
  | 689 => (.iadd, 690, 0, 0, 0, [])
  | 690 => (.iaload, 691, 0, 0, 0, [])
  | 691 => (.invokevirtual 93, 694, 159, 2, 0, [7])
  | 694 => (.if_icmp .eq 506, 697, 1200, 0, 0, [])
  | 697 => (.iconst 0, 698, 0, 0, 0, [])
  | 698 => (.ireturn, 699, 1, 0, 0, [])
  | 699 => (.aload_n 1, 700, 1, 0, 0, [])
  | 700 => (.aload_n 0, 701, 0, 0, 0, [])
  | 701 => (.iload_n 3, 702, 3, 0, 0, [])
  | 702 => (.iconst 1, 703, 0, 0, 1, [])
  | 703 => (.iadd, 704, 0, 0, 0, [])
  | 704 => (.iaload, 705, 0, 0, 0, [])
  | 705 => (.invokevirtual 94, 708, 88, 2, 0, [6])
  | 708 => (.aload_n 2, 709, 2, 0, 0, [])
  | 709 => (.aload_n 0, 710, 0, 0, 0, [])
  | 710 => (.iload_n 3, 711, 3, 0, 0, [])
  | 711 => (.iconst 1, 712, 0, 0, 1, [])
  | 712 => (.iadd, 713, 0, 0, 0, [])
  | 713 => (.iaload, 714, 0, 0, 0, [])
  | 714 => (.invokevirtual 97, 717, 161, 2, 0, [7])
  | 717 => (.if_icmp .eq 483, 720, 1200, 0, 0, [])
  | 720 => (.iconst 0, 721, 0, 0, 0, [])
  | 721 => (.ireturn, 722, 1, 0, 0, [])
  | 722 => (.aload_n 1, 723, 1, 0, 0, [])
  | 723 => (.aload_n 0, 724, 0, 0, 0, [])
  | 724 => (.iload_n 3, 725, 3, 0, 0, [])
  | 725 => (.iconst 1, 726, 0, 0, 1, [])
  | 726 => (.iadd, 727, 0, 0, 0, [])
  | 727 => (.iaload, 728, 0, 0, 0, [])
  | 728 => (.invokevirtual 98, 731, 89, 2, 0, [6])
  | 731 => (.aload_n 2, 732, 2, 0, 0, [])
  | 732 => (.aload_n 0, 733, 0, 0, 0, [])
  | 733 => (.iload_n 3, 734, 3, 0, 0, [])
  | 734 => (.iconst 1, 735, 0, 0, 1, [])
  | 735 => (.iadd, 736, 0, 0, 0, [])
  | 736 => (.iaload, 737, 0, 0, 0, [])
  | 737 => (.invokevirtual 101, 740, 163, 2, 0, [7])
  | 740 => (.if_icmp .eq 460, 743, 1200, 0, 0, [])
  | 743 => (.iconst 0, 744, 0, 0, 0, [])
  | 744 => (.ireturn, 745, 1, 0, 0, [])
  | 745 => (.aload_n 1, 746, 1, 0, 0, [])
  | 746 => (.invokevirtual 102, 749, 90, 1, 0, [6])
  | 749 => (.aload_n 2, 750, 2, 0, 0, [])
  | 750 => (.invokevirtual 105, 753, 164, 1, 0, [7])
  | 753 => (.if_icmp .eq 447, 756, 1200, 0, 0, [])
  | 756 => (.iconst 0, 757, 0, 0, 0, [])
  | 757 => (.ireturn, 758, 1, 0, 0, [])
  | 758 => (.aload_n 1, 759, 1, 0, 0, [])
  | 759 => (.aload_n 0, 760, 0, 0, 0, [])
  | 760 => (.iload_n 3, 761, 3, 0, 0, [])
  | 761 => (.iconst 1, 762, 0, 0, 1, [])
  | 762 => (.iadd, 763, 0, 0, 0, [])
  | 763 => (.iaload, 764, 0, 0, 0, [])
  | 764 => (.aload_n 0, 765, 0, 0, 0, [])
  | 765 => (.iload_n 3, 766, 3, 0, 0, [])
  | 766 => (.iconst 2, 767, 0, 0, 2, [])
  | 767 => (.iadd, 768, 0, 0, 0, [])
  | 768 => (.iaload, 769, 0, 0, 0, [])
  | 769 => (.invokevirtual 106, 772, 91, 3, 0, [6])
  | 772 => (.aload_n 2, 773, 2, 0, 0, [])
  | 773 => (.aload_n 0, 774, 0, 0, 0, [])
  | 774 => (.iload_n 3, 775, 3, 0, 0, [])
  | 775 => (.iconst 1, 776, 0, 0, 1, [])
  | 776 => (.iadd, 777, 0, 0, 0, [])
  | 777 => (.iaload, 778, 0, 0, 0, [])
  | 778 => (.aload_n 0, 779, 0, 0, 0, [])
  | 779 => (.iload_n 3, 780, 3, 0, 0, [])
  | 780 => (.iconst 2, 781, 0, 0, 2, [])
  | 781 => (.iadd, 782, 0, 0, 0, [])
  | 782 => (.iaload, 783, 0, 0, 0, [])
  | 783 => (.invokevirtual 109, 786, 165, 3, 0, [7])
  | 786 => (.if_icmp .eq 414, 789, 1200, 0, 0, [])
  | 789 => (.iconst 0, 790, 0, 0, 0, [])
  | 790 => (.ireturn, 791, 1, 0, 0, [])
  | 791 => (.aload_n 1, 792, 1, 0, 0, [])
  | 792 => (.aload_n 0, 793, 0, 0, 0, [])
  | 793 => (.iload_n 3, 794, 3, 0, 0, [])
  | 794 => (.iconst 1, 795, 0, 0, 1, [])
  | 795 => (.iadd, 796, 0, 0, 0, [])
  | 796 => (.iaload, 797, 0, 0, 0, [])
  | 797 => (.aload_n 0, 798, 0, 0, 0, [])
  | 798 => (.iload_n 3, 799, 3, 0, 0, [])
  | 799 => (.iconst 2, 800, 0, 0, 2, [])
  | 800 => (.iadd, 801, 0, 0, 0, [])
  | 801 => (.iaload, 802, 0, 0, 0, [])
  | 802 => (.invokevirtual 110, 805, 92, 3, 0, [6])
  | 805 => (.aload_n 2, 806, 2, 0, 0, [])
  | 806 => (.aload_n 0, 807, 0, 0, 0, [])
  | 807 => (.iload_n 3, 808, 3, 0, 0, [])
  | 808 => (.iconst 1, 809, 0, 0, 1, [])
  | 809 => (.iadd, 810, 0, 0, 0, [])
  | 810 => (.iaload, 811, 0, 0, 0, [])
  | 811 => (.aload_n 0, 812, 0, 0, 0, [])
  | 812 => (.iload_n 3, 813, 3, 0, 0, [])
  | 813 => (.iconst 2, 814, 0, 0, 2, [])
  | 814 => (.iadd, 815, 0, 0, 0, [])
  | 815 => (.iaload, 816, 0, 0, 0, [])
  | 816 => (.invokevirtual 113, 819, 166, 3, 0, [7])
  | 819 => (.if_icmp .eq 381, 822, 1200, 0, 0, [])
  | 822 => (.iconst 0, 823, 0, 0, 0, [])
  | 823 => (.ireturn, 824, 1, 0, 0, [])
  | 824 => (.aload_n 1, 825, 1, 0, 0, [])
  | 825 => (.aload_n 0, 826, 0, 0, 0, [])
  | 826 => (.iload_n 3, 827, 3, 0, 0, [])
  | 827 => (.iconst 1, 828, 0, 0, 1, [])
  | 828 => (.iadd, 829, 0, 0, 0, [])
  | 829 => (.iaload, 830, 0, 0, 0, [])
  | 830 => (.aload_n 0, 831, 0, 0, 0, [])
  | 831 => (.iload_n 3, 832, 3, 0, 0, [])
  | 832 => (.iconst 2, 833, 0, 0, 2, [])
  | 833 => (.iadd, 834, 0, 0, 0, [])
  | 834 => (.iaload, 835, 0, 0, 0, [])
  | 835 => (.invokevirtual 114, 838, 93, 3, 0, [6])
  | 838 => (.aload_n 2, 839, 2, 0, 0, [])
  | 839 => (.aload_n 0, 840, 0, 0, 0, [])
  | 840 => (.iload_n 3, 841, 3, 0, 0, [])
  | 841 => (.iconst 1, 842, 0, 0, 1, [])
  | 842 => (.iadd, 843, 0, 0, 0, [])
  | 843 => (.iaload, 844, 0, 0, 0, [])
  | 844 => (.aload_n 0, 845, 0, 0, 0, [])
  | 845 => (.iload_n 3, 846, 3, 0, 0, [])
  | 846 => (.iconst 2, 847, 0, 0, 2, [])
  | 847 => (.iadd, 848, 0, 0, 0, [])
  | 848 => (.iaload, 849, 0, 0, 0, [])
  | 849 => (.invokevirtual 117, 852, 168, 3, 0, [7])
  | 852 => (.if_icmp .eq 348, 855, 1200, 0, 0, [])
  | 855 => (.iconst 0, 856, 0, 0, 0, [])
  | 856 => (.ireturn, 857, 1, 0, 0, [])
  | 857 => (.aload_n 1, 858, 1, 0, 0, [])
  | 858 => (.aload_n 0, 859, 0, 0, 0, [])
  | 859 => (.iload_n 3, 860, 3, 0, 0, [])
  | 860 => (.iconst 1, 861, 0, 0, 1, [])
  | 861 => (.iadd, 862, 0, 0, 0, [])
  | 862 => (.iaload, 863, 0, 0, 0, [])
  | 863 => (.aload_n 0, 864, 0, 0, 0, [])
  | 864 => (.iload_n 3, 865, 3, 0, 0, [])
  | 865 => (.iconst 2, 866, 0, 0, 2, [])
  | 866 => (.iadd, 867, 0, 0, 0, [])
  | 867 => (.iaload, 868, 0, 0, 0, [])
  | 868 => (.aload_n 0, 869, 0, 0, 0, [])
  | 869 => (.iload_n 3, 870, 3, 0, 0, [])
  | 870 => (.iconst 3, 871, 0, 0, 3, [])
  | 871 => (.iadd, 872, 0, 0, 0, [])
  | 872 => (.iaload, 873, 0, 0, 0, [])
  | 873 => (.invokevirtual 118, 876, 94, 4, 0, [6])
  | 876 => (.aload_n 2, 877, 2, 0, 0, [])
  | 877 => (.aload_n 0, 878, 0, 0, 0, [])
  | 878 => (.iload_n 3, 879, 3, 0, 0, [])
  | 879 => (.iconst 1, 880, 0, 0, 1, [])
  | 880 => (.iadd, 881, 0, 0, 0, [])
  | 881 => (.iaload, 882, 0, 0, 0, [])
  | 882 => (.aload_n 0, 883, 0, 0, 0, [])
  | 883 => (.iload_n 3, 884, 3, 0, 0, [])
  | 884 => (.iconst 2, 885, 0, 0, 2, [])
  | 885 => (.iadd, 886, 0, 0, 0, [])
  | 886 => (.iaload, 887, 0, 0, 0, [])
  | 887 => (.aload_n 0, 888, 0, 0, 0, [])
  | 888 => (.iload_n 3, 889, 3, 0, 0, [])
  | 889 => (.iconst 3, 890, 0, 0, 3, [])
  | 890 => (.iadd, 891, 0, 0, 0, [])
  | 891 => (.iaload, 892, 0, 0, 0, [])
  | 892 => (.invokevirtual 121, 895, 169, 4, 0, [7])
  | 895 => (.if_icmp .eq 305, 898, 1200, 0, 0, [])
  | 898 => (.iconst 0, 899, 0, 0, 0, [])
  | 899 => (.ireturn, 900, 1, 0, 0, [])
  | 900 => (.aload_n 1, 901, 1, 0, 0, [])
  | 901 => (.aload_n 0, 902, 0, 0, 0, [])
  | 902 => (.iload_n 3, 903, 3, 0, 0, [])
  | 903 => (.iconst 1, 904, 0, 0, 1, [])
  | 904 => (.iadd, 905, 0, 0, 0, [])
  | 905 => (.iaload, 906, 0, 0, 0, [])
  | 906 => (.aload_n 0, 907, 0, 0, 0, [])
  | 907 => (.iload_n 3, 908, 3, 0, 0, [])
  | 908 => (.iconst 2, 909, 0, 0, 2, [])
  | 909 => (.iadd, 910, 0, 0, 0, [])
  | 910 => (.iaload, 911, 0, 0, 0, [])
  | 911 => (.aload_n 0, 912, 0, 0, 0, [])
  | 912 => (.iload_n 3, 913, 3, 0, 0, [])
  | 913 => (.iconst 3, 914, 0, 0, 3, [])
  | 914 => (.iadd, 915, 0, 0, 0, [])
  | 915 => (.iaload, 916, 0, 0, 0, [])
  | 916 => (.aload_n 0, 917, 0, 0, 0, [])
  | 917 => (.iload_n 3, 918, 3, 0, 0, [])
  | 918 => (.iconst 4, 919, 0, 0, 4, [])
  | 919 => (.iadd, 920, 0, 0, 0, [])
  | 920 => (.iaload, 921, 0, 0, 0, [])
  | 921 => (.invokevirtual 122, 924, 95, 5, 0, [6])
  | 924 => (.aload_n 2, 925, 2, 0, 0, [])
  | 925 => (.aload_n 0, 926, 0, 0, 0, [])
  | 926 => (.iload_n 3, 927, 3, 0, 0, [])
  | 927 => (.iconst 1, 928, 0, 0, 1, [])
  | 928 => (.iadd, 929, 0, 0, 0, [])
  | 929 => (.iaload, 930, 0, 0, 0, [])
  | 930 => (.aload_n 0, 931, 0, 0, 0, [])
  | 931 => (.iload_n 3, 932, 3, 0, 0, [])
  | 932 => (.iconst 2, 933, 0, 0, 2, [])
  | 933 => (.iadd, 934, 0, 0, 0, [])
  | 934 => (.iaload, 935, 0, 0, 0, [])
  | 935 => (.aload_n 0, 936, 0, 0, 0, [])
  | 936 => (.iload_n 3, 937, 3, 0, 0, [])
  | 937 => (.iconst 3, 938, 0, 0, 3, [])
  | 938 => (.iadd, 939, 0, 0, 0, [])
  | 939 => (.iaload, 940, 0, 0, 0, [])
  | 940 => (.aload_n 0, 941, 0, 0, 0, [])
  | 941 => (.iload_n 3, 942, 3, 0, 0, [])
  | 942 => (.iconst 4, 943, 0, 0, 4, [])
  | 943 => (.iadd, 944, 0, 0, 0, [])
  | 944 => (.iaload, 945, 0, 0, 0, [])
  | 945 => (.invokevirtual 126, 948, 172, 5, 0, [7])
  | 948 => (.if_icmp .eq 252, 951, 1200, 0, 0, [])
  | 951 => (.iconst 0, 952, 0, 0, 0, [])
  | 952 => (.ireturn, 953, 1, 0, 0, [])
  | 953 => (.aload_n 1, 954, 1, 0, 0, [])
  | 954 => (.aload_n 0, 955, 0, 0, 0, [])
  | 955 => (.iload_n 3, 956, 3, 0, 0, [])
  | 956 => (.iconst 1, 957, 0, 0, 1, [])
  | 957 => (.iadd, 958, 0, 0, 0, [])
  | 958 => (.iaload, 959, 0, 0, 0, [])
  | 959 => (.aload_n 0, 960, 0, 0, 0, [])
  | 960 => (.iload_n 3, 961, 3, 0, 0, [])
  | 961 => (.iconst 2, 962, 0, 0, 2, [])
  | 962 => (.iadd, 963, 0, 0, 0, [])
  | 963 => (.iaload, 964, 0, 0, 0, [])
  | 964 => (.aload_n 0, 965, 0, 0, 0, [])
  | 965 => (.iload_n 3, 966, 3, 0, 0, [])
  | 966 => (.iconst 3, 967, 0, 0, 3, [])
  | 967 => (.iadd, 968, 0, 0, 0, [])
  | 968 => (.iaload, 969, 0, 0, 0, [])
  | 969 => (.aload_n 0, 970, 0, 0, 0, [])
  | 970 => (.iload_n 3, 971, 3, 0, 0, [])
  | 971 => (.iconst 4, 972, 0, 0, 4, [])
  | 972 => (.iadd, 973, 0, 0, 0, [])
  | 973 => (.iaload, 974, 0, 0, 0, [])
  | 974 => (.invokevirtual 127, 977, 96, 5, 0, [6])
  | 977 => (.aload_n 2, 978, 2, 0, 0, [])
  | 978 => (.aload_n 0, 979, 0, 0, 0, [])
  | 979 => (.iload_n 3, 980, 3, 0, 0, [])
  | 980 => (.iconst 1, 981, 0, 0, 1, [])
  | 981 => (.iadd, 982, 0, 0, 0, [])
  | 982 => (.iaload, 983, 0, 0, 0, [])
  | 983 => (.aload_n 0, 984, 0, 0, 0, [])
  | 984 => (.iload_n 3, 985, 3, 0, 0, [])
  | 985 => (.iconst 2, 986, 0, 0, 2, [])
  | 986 => (.iadd, 987, 0, 0, 0, [])
  | 987 => (.iaload, 988, 0, 0, 0, [])
  | 988 => (.aload_n 0, 989, 0, 0, 0, [])
  | 989 => (.iload_n 3, 990, 3, 0, 0, [])
  | 990 => (.iconst 3, 991, 0, 0, 3, [])
  | 991 => (.iadd, 992, 0, 0, 0, [])
  | 992 => (.iaload, 993, 0, 0, 0, [])
  | 993 => (.aload_n 0, 994, 0, 0, 0, [])
  | 994 => (.iload_n 3, 995, 3, 0, 0, [])
  | 995 => (.iconst 4, 996, 0, 0, 4, [])
  | 996 => (.iadd, 997, 0, 0, 0, [])
  | 997 => (.iaload, 998, 0, 0, 0, [])
  | 998 => (.invokevirtual 130, 1001, 173, 5, 0, [7])
  | 1001 => (.if_icmp .eq 199, 1004, 1200, 0, 0, [])
  | 1004 => (.iconst 0, 1005, 0, 0, 0, [])
  | 1005 => (.ireturn, 1006, 1, 0, 0, [])
  | 1006 => (.aload_n 1, 1007, 1, 0, 0, [])
  | 1007 => (.aload_n 0, 1008, 0, 0, 0, [])
  | 1008 => (.iload_n 3, 1009, 3, 0, 0, [])
  | 1009 => (.iconst 1, 1010, 0, 0, 1, [])
  | 1010 => (.iadd, 1011, 0, 0, 0, [])
  | 1011 => (.iaload, 1012, 0, 0, 0, [])
  | 1012 => (.invokevirtual 131, 1015, 97, 2, 0, [6])
  | 1015 => (.aload_n 2, 1016, 2, 0, 0, [])
  | 1016 => (.aload_n 0, 1017, 0, 0, 0, [])
  | 1017 => (.iload_n 3, 1018, 3, 0, 0, [])
  | 1018 => (.iconst 1, 1019, 0, 0, 1, [])
  | 1019 => (.iadd, 1020, 0, 0, 0, [])
  | 1020 => (.iaload, 1021, 0, 0, 0, [])
  | 1021 => (.invokevirtual 134, 1024, 174, 2, 0, [7])
  | 1024 => (.if_icmp .eq 176, 1027, 1200, 0, 0, [])
  | 1027 => (.iconst 0, 1028, 0, 0, 0, [])
  | 1028 => (.ireturn, 1029, 1, 0, 0, [])
  | 1029 => (.aload_n 1, 1030, 1, 0, 0, [])
  | 1030 => (.aload_n 0, 1031, 0, 0, 0, [])
  | 1031 => (.iload_n 3, 1032, 3, 0, 0, [])
  | 1032 => (.iconst 1, 1033, 0, 0, 1, [])
  | 1033 => (.iadd, 1034, 0, 0, 0, [])
  | 1034 => (.iaload, 1035, 0, 0, 0, [])
  | 1035 => (.invokevirtual 135, 1038, 98, 2, 0, [6])
  | 1038 => (.aload_n 2, 1039, 2, 0, 0, [])
  | 1039 => (.aload_n 0, 1040, 0, 0, 0, [])
  | 1040 => (.iload_n 3, 1041, 3, 0, 0, [])
  | 1041 => (.iconst 1, 1042, 0, 0, 1, [])
  | 1042 => (.iadd, 1043, 0, 0, 0, [])
  | 1043 => (.iaload, 1044, 0, 0, 0, [])
  | 1044 => (.invokevirtual 138, 1047, 175, 2, 0, [7])
  | 1047 => (.if_icmp .eq 153, 1050, 1200, 0, 0, [])
  | 1050 => (.iconst 0, 1051, 0, 0, 0, [])
  | 1051 => (.ireturn, 1052, 1, 0, 0, [])
  | 1052 => (.aload_n 1, 1053, 1, 0, 0, [])
  | 1053 => (.aload_n 0, 1054, 0, 0, 0, [])
  | 1054 => (.iload_n 3, 1055, 3, 0, 0, [])
  | 1055 => (.iconst 1, 1056, 0, 0, 1, [])
  | 1056 => (.iadd, 1057, 0, 0, 0, [])
  | 1057 => (.iaload, 1058, 0, 0, 0, [])
  | 1058 => (.invokevirtual 139, 1061, 99, 2, 0, [6])
  | 1061 => (.aload_n 2, 1062, 2, 0, 0, [])
  | 1062 => (.aload_n 0, 1063, 0, 0, 0, [])
  | 1063 => (.iload_n 3, 1064, 3, 0, 0, [])
  | 1064 => (.iconst 1, 1065, 0, 0, 1, [])
  | 1065 => (.iadd, 1066, 0, 0, 0, [])
  | 1066 => (.iaload, 1067, 0, 0, 0, [])
  | 1067 => (.invokevirtual 142, 1070, 176, 2, 0, [7])
  | 1070 => (.if_icmp .eq 130, 1073, 1200, 0, 0, [])
  | 1073 => (.iconst 0, 1074, 0, 0, 0, [])
  | 1074 => (.ireturn, 1075, 1, 0, 0, [])
  | 1075 => (.aload_n 1, 1076, 1, 0, 0, [])
  | 1076 => (.aload_n 0, 1077, 0, 0, 0, [])
  | 1077 => (.iload_n 3, 1078, 3, 0, 0, [])
  | 1078 => (.iconst 1, 1079, 0, 0, 1, [])
  | 1079 => (.iadd, 1080, 0, 0, 0, [])
  | 1080 => (.iaload, 1081, 0, 0, 0, [])
  | 1081 => (.aload_n 0, 1082, 0, 0, 0, [])
  | 1082 => (.iload_n 3, 1083, 3, 0, 0, [])
  | 1083 => (.iconst 2, 1084, 0, 0, 2, [])
  | 1084 => (.iadd, 1085, 0, 0, 0, [])
  | 1085 => (.iaload, 1086, 0, 0, 0, [])
  | 1086 => (.invokevirtual 143, 1089, 100, 3, 0, [6])
  | 1089 => (.aload_n 2, 1090, 2, 0, 0, [])
  | 1090 => (.aload_n 0, 1091, 0, 0, 0, [])
  | 1091 => (.iload_n 3, 1092, 3, 0, 0, [])
  | 1092 => (.iconst 1, 1093, 0, 0, 1, [])
  | 1093 => (.iadd, 1094, 0, 0, 0, [])
  | 1094 => (.iaload, 1095, 0, 0, 0, [])
  | 1095 => (.aload_n 0, 1096, 0, 0, 0, [])
  | 1096 => (.iload_n 3, 1097, 3, 0, 0, [])
  | 1097 => (.iconst 2, 1098, 0, 0, 2, [])
  | 1098 => (.iadd, 1099, 0, 0, 0, [])
  | 1099 => (.iaload, 1100, 0, 0, 0, [])
  | 1100 => (.invokevirtual 146, 1103, 178, 3, 0, [7])
  | 1103 => (.if_icmp .eq 97, 1106, 1200, 0, 0, [])
  | 1106 => (.iconst 0, 1107, 0, 0, 0, [])
  | 1107 => (.ireturn, 1108, 1, 0, 0, [])
  | 1108 => (.aload_n 1, 1109, 1, 0, 0, [])
  | 1109 => (.aload_n 0, 1110, 0, 0, 0, [])
  | 1110 => (.iload_n 3, 1111, 3, 0, 0, [])
  | 1111 => (.iconst 1, 1112, 0, 0, 1, [])
  | 1112 => (.iadd, 1113, 0, 0, 0, [])
  | 1113 => (.iaload, 1114, 0, 0, 0, [])
  | 1114 => (.aload_n 0, 1115, 0, 0, 0, [])
  | 1115 => (.iload_n 3, 1116, 3, 0, 0, [])
  | 1116 => (.iconst 2, 1117, 0, 0, 2, [])
  | 1117 => (.iadd, 1118, 0, 0, 0, [])
  | 1118 => (.iaload, 1119, 0, 0, 0, [])
  | 1119 => (.invokevirtual 147, 1122, 101, 3, 0, [6])
  | 1122 => (.aload_n 2, 1123, 2, 0, 0, [])
  | 1123 => (.aload_n 0, 1124, 0, 0, 0, [])
  | 1124 => (.iload_n 3, 1125, 3, 0, 0, [])
  | 1125 => (.iconst 1, 1126, 0, 0, 1, [])
  | 1126 => (.iadd, 1127, 0, 0, 0, [])
  | 1127 => (.iaload, 1128, 0, 0, 0, [])
  | 1128 => (.aload_n 0, 1129, 0, 0, 0, [])
  | 1129 => (.iload_n 3, 1130, 3, 0, 0, [])
  | 1130 => (.iconst 2, 1131, 0, 0, 2, [])
  | 1131 => (.iadd, 1132, 0, 0, 0, [])
  | 1132 => (.iaload, 1133, 0, 0, 0, [])
  | 1133 => (.invokevirtual 150, 1136, 187, 3, 0, [7])
  | 1136 => (.if_icmp .eq 64, 1139, 1200, 0, 0, [])
  | 1139 => (.iconst 0, 1140, 0, 0, 0, [])
  | 1140 => (.ireturn, 1141, 1, 0, 0, [])
  | 1141 => (.aload_n 1, 1142, 1, 0, 0, [])
  | 1142 => (.aload_n 0, 1143, 0, 0, 0, [])
  | 1143 => (.iload_n 3, 1144, 3, 0, 0, [])
  | 1144 => (.iconst 1, 1145, 0, 0, 1, [])
  | 1145 => (.iadd, 1146, 0, 0, 0, [])
  | 1146 => (.iaload, 1147, 0, 0, 0, [])
  | 1147 => (.invokevirtual 151, 1150, 102, 2, 0, [6])
  | 1150 => (.aload_n 2, 1151, 2, 0, 0, [])
  | 1151 => (.aload_n 0, 1152, 0, 0, 0, [])
  | 1152 => (.iload_n 3, 1153, 3, 0, 0, [])
  | 1153 => (.iconst 1, 1154, 0, 0, 1, [])
  | 1154 => (.iadd, 1155, 0, 0, 0, [])
  | 1155 => (.iaload, 1156, 0, 0, 0, [])
  | 1156 => (.invokevirtual 154, 1159, 188, 2, 0, [7])
  | 1159 => (.if_icmp .eq 41, 1162, 1200, 0, 0, [])
  | 1162 => (.iconst 0, 1163, 0, 0, 0, [])
  | 1163 => (.ireturn, 1164, 1, 0, 0, [])
  | 1164 => (.aload_n 1, 1165, 1, 0, 0, [])
  | 1165 => (.aload_n 0, 1166, 0, 0, 0, [])
  | 1166 => (.iload_n 3, 1167, 3, 0, 0, [])
  | 1167 => (.iconst 1, 1168, 0, 0, 1, [])
  | 1168 => (.iadd, 1169, 0, 0, 0, [])
  | 1169 => (.iaload, 1170, 0, 0, 0, [])
  | 1170 => (.invokevirtual 155, 1173, 103, 2, 0, [6])
  | 1173 => (.aload_n 2, 1174, 2, 0, 0, [])
  | 1174 => (.aload_n 0, 1175, 0, 0, 0, [])
  | 1175 => (.iload_n 3, 1176, 3, 0, 0, [])
  | 1176 => (.iconst 1, 1177, 0, 0, 1, [])
  | 1177 => (.iadd, 1178, 0, 0, 0, [])
  | 1178 => (.iaload, 1179, 0, 0, 0, [])
  | 1179 => (.invokevirtual 158, 1182, 189, 2, 0, [7])
  | 1182 => (.if_icmp .eq 18, 1185, 1200, 0, 0, [])
  | 1185 => (.iconst 0, 1186, 0, 0, 0, [])
  | 1186 => (.ireturn, 1187, 1, 0, 0, [])
  | 1187 => (.aload_n 1, 1188, 1, 0, 0, [])
  | 1188 => (.invokevirtual 159, 1191, 104, 1, 0, [6])
  | 1191 => (.aload_n 2, 1192, 2, 0, 0, [])
  | 1192 => (.invokevirtual 162, 1195, 190, 1, 0, [7])
  | 1195 => (.if_icmp .eq 5, 1198, 1200, 0, 0, [])
  | 1198 => (.iconst 0, 1199, 0, 0, 0, [])
  | 1199 => (.ireturn, 1200, 1, 0, 0, [])
  | 1200 => (.iinc 3 6, 1203, 3, 0, 6, [])
  | 1203 => (.goto (-1185), 1206, 18, 0, 0, [])
  | 1206 => (.iconst 1, 1207, 0, 0, 1, [])
  | 1207 => (.ireturn, 1208, 1, 0, 0, [])
  | _ => (.nop, 1, 0, 0, 0, [])
end
section
def kt_list : List (Nat → kx_E) := [kt_Acts_init, kt_Acts_forgetAll, kt_Acts_keep, kt_Acts_revertLatest, kt_Asker_init, kt_Asker_numberAt, kt_Asker_answer, kt_Asker_runBody, kt_Asker_askAnew, kt_Asker_leaveNumber, kt_Fore_init, kt_Fore_holderBehind, kt_Fore_stepsUntilHolder, kt_Fore_holdersWithin, kt_Fore_repetition, kt_Fore_stepOfDone, kt_Fore_orderDoneFirst, kt_Fore_workWithin, kt_Fore_bestGift, kt_Fore_windsThatBring, kt_Fore_giftsThatGoAs, kt_Fore_keepsThatGoAs, kt_Fore_go, kt_Fore_stepsUntilDone, kt_Fore_goesAs, kt_Fore_markOfTrial, kt_Fore_earliestWithMarkOf, kt_Kinds_told, kt_Kinds_isOne, kt_Kinds_bodyOf, kt_Row_init, kt_Row_isMissing, kt_Row_lay, kt_Row_remove, kt_Row_hasPlaces, kt_Row_put, kt_Row_cutToLane, kt_Tape_init, kt_Tape_isFull, kt_Tape_add, kt_Tape_empty, kt_Tape_readInto, kt_Tape_readLaw, kt_Tape_readHeads, kt_Tape_readHead, kt_Tape_readOrders, kt_Tape_readOrder, kt_Tape_take, kt_Tape_takeNumber, kt_Tape_figuresAhead, kt_Tape_next, kt_Tape_refuse, kt_Town_init, kt_Town_clear, kt_Town_becomeLike, kt_Town_addHead, kt_Town_addOrder, kt_Town_hasHead, kt_Town_hasOrder, kt_Town_ordersThatAre, kt_Town_handTo, kt_Town_takeStep, kt_Town_revertStep, kt_Town_orderToWorkOn, kt_Town_workOn, kt_Town_patience, kt_Town_stride, kt_Town_seat, kt_X_init, kt_X_row, kt_X_set, kt_X_copy, kt_X_drop, kt_X_feed, kt_X_town, kt_X_fault, kt_X_steps, kt_X_wind, kt_X_give, kt_X_order, kt_X_back, kt_X_undo, kt_X_head, kt_X_orderHas, kt_X_hat, kt_X_who, kt_X_gets, kt_X_ever, kt_X_round, kt_X_done, kt_X_first, kt_X_by, kt_X_toGive, kt_X_winds, kt_X_lot, kt_X_seen, kt_X_keeps, kt_X_image, kt_X_restore, kt_X_kind, kt_X_as, kt_X_ask, kt_X_trace, kt_X_count, kt_X_status, kt_X_finding, kt_X_noFinding, kt_X_findingOf, kt_X_rowsThere, kt_X_isNoTown, kt_X_isRow, kt_X_isImage, kt_X_isSpan, kt_X_isBetween, kt_X_inLowestTerms, kt_M_init, kt_M_in, kt_M_has, kt_M_find, kt_M_well, kt_M_isRow, kt_M_row, kt_M_asLane, kt_M_set, kt_M_copy, kt_M_drop, kt_M_feed, kt_M_nextToken, kt_M_faults, kt_M_isLetter, kt_M_takes, kt_M_takesNumber, kt_M_readHead, kt_M_readOrder, kt_M_readTown, kt_M_town, kt_M_fault, kt_M_isHead, kt_M_isOrder, kt_M_outMany, kt_M_work, kt_M_oneStep, kt_M_note, kt_M_steps, kt_M_wind, kt_M_giveTo, kt_M_give, kt_M_order, kt_M_back, kt_M_undo, kt_M_head, kt_M_orderHas, kt_M_hat, kt_M_putAside, kt_M_takeBack, kt_M_goOn, kt_M_isFar, kt_M_who, kt_M_gets, kt_M_ever, kt_M_isAlike, kt_M_round, kt_M_doneIn, kt_M_done, kt_M_first, kt_M_by, kt_M_toGive, kt_M_windsBy, kt_M_winds, kt_M_lot, kt_M_lacks, kt_M_goesSo, kt_M_seen, kt_M_keeps, kt_M_image, kt_M_restore, kt_M_kind, kt_M_isKind, kt_M_as, kt_M_begin, kt_M_lent, kt_M_firmMark, kt_M_windySize, kt_M_sizeOfWindy, kt_M_markOf, kt_M_firmSize, kt_M_sizeOf, kt_M_ask, kt_M_trace, kt_M_count, kt_M_status, kt_Integer_bitCount, kt_Math_floorMod, kt_Math_min, kt_Arrays_fill, kt_Math_max, kt_Str_length, kt_Str_indexOf, kt_Str_indexOf2, kt_Str_coder, kt_Str_isLatin1, kt_SL1_canEncode, kt_SL1_indexOf, kt_SL1_indexOfChar, kt_Law_law]
def kt_all (m : Nat) : Nat → kx_E := kt_list.getD m (fun _ => (.nop, 1, 0, 0, 0, []))
def kt_mls : List Nat := [1, 1, 5, 3, 1, 2, 4, 6, 5, 2, 2, 2, 3, 4, 4, 2, 3, 3, 7, 5, 8, 7, 3, 4, 5, 4, 3, 2, 4, 5, 1, 1, 3, 2, 3, 3, 2, 1, 1, 2, 1, 2, 2, 4, 4, 3, 2, 2, 6, 2, 1, 2, 1, 1, 2, 4, 3, 2, 2, 4, 2, 2, 4, 2, 2, 2, 1, 2, 2, 4, 5, 8, 2, 2, 2, 1, 5, 3, 3, 3, 2, 1, 3, 3, 2, 2, 2, 2, 2, 2, 1, 3, 3, 3, 6, 6, 6, 2, 2, 2, 3, 3, 2, 2, 1, 2, 2, 4, 3, 1, 1, 1, 1, 3, 4, 2, 6, 2, 2, 2, 1, 5, 2, 4, 7, 3, 2, 1, 2, 2, 2, 5, 3, 3, 3, 3, 1, 2, 2, 3, 4, 4, 2, 3, 3, 2, 3, 3, 2, 2, 3, 3, 2, 2, 2, 3, 1, 3, 4, 4, 5, 4, 4, 3, 5, 5, 7, 5, 3, 6, 4, 5, 10, 8, 3, 3, 2, 2, 3, 2, 3, 2, 2, 2, 4, 3, 3, 3, 2, 5, 1, 1, 3, 2, 4, 2, 1, 2, 3, 1, 1, 1, 4, 6, 4]
def kt_ml (m : Nat) : Nat := kt_mls.getD m 0
abbrev ke (d : Nat) : Nat → List kx_V → kx_G → kx_M → Option kx_V → kx_G → kx_M → Prop := kx_ev kt_all kt_ml d
theorem ke_start {d m : Nat} {as : List kx_V} {tb : Nat → kx_E} {ls : kx_L} {G : kx_G} {μ : kx_M} {Q : Option kx_V → kx_G → kx_M → Prop} (h1 : kt_all m = tb) (h2 : kx_pad (kx_ent as) (kt_ml m) = ls) (h : kx_wx (ke d) tb Q 0 ls [] G μ) (hf : (kx_ent as).length ≤ kt_ml m := by exact Nat.le_of_ble_eq_true rfl) : kx_cx (ke (d + 1)) m as G μ Q := by
  obtain ⟨n, v, G', μ', h3, h4⟩ := h
  refine ⟨v, G', μ', ⟨hf, n, ?_⟩, h4⟩
  rw [h1, h2]
  exact h3
end
section
-- ===== PART A: goes FIRST, ahead of the names: the tables' words, and 'selects' of the private methods out of them =====
/-- a private method of a class that the tables say can be made, by its rows of tables_1 -/
def lw_okq (q : MethodName × Nat) : Prop := (q.1.cls ≠ "java/lang/invoke/MethodHandle" ∧ q.1.cls ≠ "java/lang/invoke/VarHandle") ∧ Cond.instantiable q.1.cls q.2 ∈ tables_1 ∧ Cond.privateMethod q.1 ∈ tables_1 ∧ Cond.instanceMethod q.1 ∈ tables_1
theorem lw_p0 : lw_okq (⟨"HatOrders", "finding", "(I)I"⟩, 11) := ⟨⟨by decide +kernel, by decide +kernel⟩, List.mem_of_getElem? (i := 20) (by decide +kernel), List.mem_of_getElem? (i := 265) (by decide +kernel), List.mem_of_getElem? (i := 266) (by decide +kernel)⟩
theorem lw_p1 : lw_okq (⟨"HatOrders", "noFinding", "(I)I"⟩, 11) := ⟨⟨by decide +kernel, by decide +kernel⟩, List.mem_of_getElem? (i := 20) (by decide +kernel), List.mem_of_getElem? (i := 277) (by decide +kernel), List.mem_of_getElem? (i := 278) (by decide +kernel)⟩
theorem lw_p2 : lw_okq (⟨"HatOrders", "findingOf", "(III)I"⟩, 11) := ⟨⟨by decide +kernel, by decide +kernel⟩, List.mem_of_getElem? (i := 20) (by decide +kernel), List.mem_of_getElem? (i := 285) (by decide +kernel), List.mem_of_getElem? (i := 286) (by decide +kernel)⟩
theorem lw_p3 : lw_okq (⟨"HatOrders$Row", "cutToLane", "(I)I"⟩, 3) := ⟨⟨by decide +kernel, by decide +kernel⟩, List.mem_of_getElem? (i := 29) (by decide +kernel), List.mem_of_getElem? (i := 301) (by decide +kernel), List.mem_of_getElem? (i := 302) (by decide +kernel)⟩
theorem lw_p4 : lw_okq (⟨"HatOrders$Tape", "readLaw", "(LHatOrders$Town;)Z"⟩, 6) := ⟨⟨by decide +kernel, by decide +kernel⟩, List.mem_of_getElem? (i := 49) (by decide +kernel), List.mem_of_getElem? (i := 345) (by decide +kernel), List.mem_of_getElem? (i := 346) (by decide +kernel)⟩
theorem lw_p5 : lw_okq (⟨"HatOrders$Tape", "take", "(I)Z"⟩, 6) := ⟨⟨by decide +kernel, by decide +kernel⟩, List.mem_of_getElem? (i := 49) (by decide +kernel), List.mem_of_getElem? (i := 349) (by decide +kernel), List.mem_of_getElem? (i := 350) (by decide +kernel)⟩
theorem lw_p6 : lw_okq (⟨"HatOrders$Tape", "next", "()I"⟩, 6) := ⟨⟨by decide +kernel, by decide +kernel⟩, List.mem_of_getElem? (i := 49) (by decide +kernel), List.mem_of_getElem? (i := 353) (by decide +kernel), List.mem_of_getElem? (i := 354) (by decide +kernel)⟩
theorem lw_p7 : lw_okq (⟨"HatOrders$Tape", "refuse", "(I)Z"⟩, 6) := ⟨⟨by decide +kernel, by decide +kernel⟩, List.mem_of_getElem? (i := 49) (by decide +kernel), List.mem_of_getElem? (i := 357) (by decide +kernel), List.mem_of_getElem? (i := 358) (by decide +kernel)⟩
theorem lw_p8 : lw_okq (⟨"HatOrders$Tape", "takeNumber", "(II)Z"⟩, 6) := ⟨⟨by decide +kernel, by decide +kernel⟩, List.mem_of_getElem? (i := 49) (by decide +kernel), List.mem_of_getElem? (i := 361) (by decide +kernel), List.mem_of_getElem? (i := 362) (by decide +kernel)⟩
theorem lw_p9 : lw_okq (⟨"HatOrders$Tape", "figuresAhead", "()I"⟩, 6) := ⟨⟨by decide +kernel, by decide +kernel⟩, List.mem_of_getElem? (i := 49) (by decide +kernel), List.mem_of_getElem? (i := 365) (by decide +kernel), List.mem_of_getElem? (i := 366) (by decide +kernel)⟩
theorem lw_p10 : lw_okq (⟨"HatOrders$Tape", "readHeads", "(LHatOrders$Town;)Z"⟩, 6) := ⟨⟨by decide +kernel, by decide +kernel⟩, List.mem_of_getElem? (i := 49) (by decide +kernel), List.mem_of_getElem? (i := 369) (by decide +kernel), List.mem_of_getElem? (i := 370) (by decide +kernel)⟩
theorem lw_p11 : lw_okq (⟨"HatOrders$Tape", "readHead", "(LHatOrders$Town;I)Z"⟩, 6) := ⟨⟨by decide +kernel, by decide +kernel⟩, List.mem_of_getElem? (i := 49) (by decide +kernel), List.mem_of_getElem? (i := 463) (by decide +kernel), List.mem_of_getElem? (i := 464) (by decide +kernel)⟩
theorem lw_p12 : lw_okq (⟨"HatOrders$Tape", "readOrders", "(LHatOrders$Town;)Z"⟩, 6) := ⟨⟨by decide +kernel, by decide +kernel⟩, List.mem_of_getElem? (i := 49) (by decide +kernel), List.mem_of_getElem? (i := 471) (by decide +kernel), List.mem_of_getElem? (i := 472) (by decide +kernel)⟩
theorem lw_p13 : lw_okq (⟨"HatOrders$Tape", "readOrder", "(LHatOrders$Town;)Z"⟩, 6) := ⟨⟨by decide +kernel, by decide +kernel⟩, List.mem_of_getElem? (i := 49) (by decide +kernel), List.mem_of_getElem? (i := 475) (by decide +kernel), List.mem_of_getElem? (i := 476) (by decide +kernel)⟩
theorem lw_p14 : lw_okq (⟨"HatOrders", "isNoTown", "()Z"⟩, 11) := ⟨⟨by decide +kernel, by decide +kernel⟩, List.mem_of_getElem? (i := 20) (by decide +kernel), List.mem_of_getElem? (i := 507) (by decide +kernel), List.mem_of_getElem? (i := 508) (by decide +kernel)⟩
theorem lw_p15 : lw_okq (⟨"HatOrders$Town", "orderToWorkOn", "()I"⟩, 14) := ⟨⟨by decide +kernel, by decide +kernel⟩, List.mem_of_getElem? (i := 77) (by decide +kernel), List.mem_of_getElem? (i := 516) (by decide +kernel), List.mem_of_getElem? (i := 517) (by decide +kernel)⟩
def lw_privs_1 : List (MethodName × Nat) := [(⟨"HatOrders", "finding", "(I)I"⟩, 11), (⟨"HatOrders", "noFinding", "(I)I"⟩, 11), (⟨"HatOrders", "findingOf", "(III)I"⟩, 11), (⟨"HatOrders$Row", "cutToLane", "(I)I"⟩, 3), (⟨"HatOrders$Tape", "readLaw", "(LHatOrders$Town;)Z"⟩, 6), (⟨"HatOrders$Tape", "take", "(I)Z"⟩, 6), (⟨"HatOrders$Tape", "next", "()I"⟩, 6), (⟨"HatOrders$Tape", "refuse", "(I)Z"⟩, 6), (⟨"HatOrders$Tape", "takeNumber", "(II)Z"⟩, 6), (⟨"HatOrders$Tape", "figuresAhead", "()I"⟩, 6), (⟨"HatOrders$Tape", "readHeads", "(LHatOrders$Town;)Z"⟩, 6), (⟨"HatOrders$Tape", "readHead", "(LHatOrders$Town;I)Z"⟩, 6), (⟨"HatOrders$Tape", "readOrders", "(LHatOrders$Town;)Z"⟩, 6), (⟨"HatOrders$Tape", "readOrder", "(LHatOrders$Town;)Z"⟩, 6), (⟨"HatOrders", "isNoTown", "()Z"⟩, 11), (⟨"HatOrders$Town", "orderToWorkOn", "()I"⟩, 14)]
theorem lw_r1 : ∀ q ∈ lw_privs_1, lw_okq q := List.forall_mem_cons.mpr ⟨lw_p0, List.forall_mem_cons.mpr ⟨lw_p1, List.forall_mem_cons.mpr ⟨lw_p2, List.forall_mem_cons.mpr ⟨lw_p3, List.forall_mem_cons.mpr ⟨lw_p4, List.forall_mem_cons.mpr ⟨lw_p5, List.forall_mem_cons.mpr ⟨lw_p6, List.forall_mem_cons.mpr ⟨lw_p7, List.forall_mem_cons.mpr ⟨lw_p8, List.forall_mem_cons.mpr ⟨lw_p9, List.forall_mem_cons.mpr ⟨lw_p10, List.forall_mem_cons.mpr ⟨lw_p11, List.forall_mem_cons.mpr ⟨lw_p12, List.forall_mem_cons.mpr ⟨lw_p13, List.forall_mem_cons.mpr ⟨lw_p14, List.forall_mem_cons.mpr ⟨lw_p15, fun _ h => absurd h List.not_mem_nil⟩⟩⟩⟩⟩⟩⟩⟩⟩⟩⟩⟩⟩⟩⟩⟩
theorem lw_p16 : lw_okq (⟨"HatOrders$Town", "workOn", "(I)V"⟩, 14) := ⟨⟨by decide +kernel, by decide +kernel⟩, List.mem_of_getElem? (i := 77) (by decide +kernel), List.mem_of_getElem? (i := 520) (by decide +kernel), List.mem_of_getElem? (i := 521) (by decide +kernel)⟩
theorem lw_p17 : lw_okq (⟨"HatOrders$Town", "patience", "()I"⟩, 14) := ⟨⟨by decide +kernel, by decide +kernel⟩, List.mem_of_getElem? (i := 77) (by decide +kernel), List.mem_of_getElem? (i := 524) (by decide +kernel), List.mem_of_getElem? (i := 525) (by decide +kernel)⟩
theorem lw_p18 : lw_okq (⟨"HatOrders$Town", "stride", "()I"⟩, 14) := ⟨⟨by decide +kernel, by decide +kernel⟩, List.mem_of_getElem? (i := 77) (by decide +kernel), List.mem_of_getElem? (i := 532) (by decide +kernel), List.mem_of_getElem? (i := 533) (by decide +kernel)⟩
theorem lw_p19 : lw_okq (⟨"HatOrders$Town", "seat", "(I)I"⟩, 14) := ⟨⟨by decide +kernel, by decide +kernel⟩, List.mem_of_getElem? (i := 77) (by decide +kernel), List.mem_of_getElem? (i := 536) (by decide +kernel), List.mem_of_getElem? (i := 537) (by decide +kernel)⟩
theorem lw_p20 : lw_okq (⟨"HatOrders$Foresight", "go", "(I)V"⟩, 3) := ⟨⟨by decide +kernel, by decide +kernel⟩, List.mem_of_getElem? (i := 186) (by decide +kernel), List.mem_of_getElem? (i := 614) (by decide +kernel), List.mem_of_getElem? (i := 615) (by decide +kernel)⟩
theorem lw_p21 : lw_okq (⟨"HatOrders$Foresight", "markOfTrial", "()J"⟩, 3) := ⟨⟨by decide +kernel, by decide +kernel⟩, List.mem_of_getElem? (i := 186) (by decide +kernel), List.mem_of_getElem? (i := 644) (by decide +kernel), List.mem_of_getElem? (i := 645) (by decide +kernel)⟩
theorem lw_p22 : lw_okq (⟨"HatOrders$Foresight", "earliestWithMarkOf", "(I)I"⟩, 3) := ⟨⟨by decide +kernel, by decide +kernel⟩, List.mem_of_getElem? (i := 186) (by decide +kernel), List.mem_of_getElem? (i := 648) (by decide +kernel), List.mem_of_getElem? (i := 649) (by decide +kernel)⟩
theorem lw_p23 : lw_okq (⟨"HatOrders$Foresight", "stepsUntilDone", "(II)I"⟩, 3) := ⟨⟨by decide +kernel, by decide +kernel⟩, List.mem_of_getElem? (i := 186) (by decide +kernel), List.mem_of_getElem? (i := 660) (by decide +kernel), List.mem_of_getElem? (i := 661) (by decide +kernel)⟩
theorem lw_p24 : lw_okq (⟨"HatOrders$Foresight", "goesAs", "(LHatOrders$Row;II)Z"⟩, 3) := ⟨⟨by decide +kernel, by decide +kernel⟩, List.mem_of_getElem? (i := 186) (by decide +kernel), List.mem_of_getElem? (i := 718) (by decide +kernel), List.mem_of_getElem? (i := 719) (by decide +kernel)⟩
theorem lw_p25 : lw_okq (⟨"HatOrders$Asker", "askAnew", "(ILHatOrders$Town;II)I"⟩, 2) := ⟨⟨by decide +kernel, by decide +kernel⟩, List.mem_of_getElem? (i := 205) (by decide +kernel), List.mem_of_getElem? (i := 762) (by decide +kernel), List.mem_of_getElem? (i := 763) (by decide +kernel)⟩
theorem lw_p26 : lw_okq (⟨"HatOrders$Asker", "runBody", "(ILHatOrders$Town;II)I"⟩, 2) := ⟨⟨by decide +kernel, by decide +kernel⟩, List.mem_of_getElem? (i := 205) (by decide +kernel), List.mem_of_getElem? (i := 773) (by decide +kernel), List.mem_of_getElem? (i := 774) (by decide +kernel)⟩
theorem lw_p27 : lw_okq (⟨"HatOrders$Asker", "leaveNumber", "(I)V"⟩, 2) := ⟨⟨by decide +kernel, by decide +kernel⟩, List.mem_of_getElem? (i := 205) (by decide +kernel), List.mem_of_getElem? (i := 777) (by decide +kernel), List.mem_of_getElem? (i := 778) (by decide +kernel)⟩
theorem lw_p28 : lw_okq (⟨"HatOrders", "rowsThere", "()I"⟩, 11) := ⟨⟨by decide +kernel, by decide +kernel⟩, List.mem_of_getElem? (i := 20) (by decide +kernel), List.mem_of_getElem? (i := 794) (by decide +kernel), List.mem_of_getElem? (i := 795) (by decide +kernel)⟩
theorem lw_p29 : lw_okq (⟨"HatOrdersModel", "find", "(I)I"⟩, 24) := ⟨⟨by decide +kernel, by decide +kernel⟩, List.mem_of_getElem? (i := 803) (by decide +kernel), List.mem_of_getElem? (i := 895) (by decide +kernel), List.mem_of_getElem? (i := 896) (by decide +kernel)⟩
theorem lw_p30 : lw_okq (⟨"HatOrdersModel", "well", "(I)I"⟩, 24) := ⟨⟨by decide +kernel, by decide +kernel⟩, List.mem_of_getElem? (i := 803) (by decide +kernel), List.mem_of_getElem? (i := 900) (by decide +kernel), List.mem_of_getElem? (i := 901) (by decide +kernel)⟩
theorem lw_p31 : lw_okq (⟨"HatOrdersModel", "readTown", "()Z"⟩, 24) := ⟨⟨by decide +kernel, by decide +kernel⟩, List.mem_of_getElem? (i := 803) (by decide +kernel), List.mem_of_getElem? (i := 929) (by decide +kernel), List.mem_of_getElem? (i := 930) (by decide +kernel)⟩
def lw_privs_2 : List (MethodName × Nat) := [(⟨"HatOrders$Town", "workOn", "(I)V"⟩, 14), (⟨"HatOrders$Town", "patience", "()I"⟩, 14), (⟨"HatOrders$Town", "stride", "()I"⟩, 14), (⟨"HatOrders$Town", "seat", "(I)I"⟩, 14), (⟨"HatOrders$Foresight", "go", "(I)V"⟩, 3), (⟨"HatOrders$Foresight", "markOfTrial", "()J"⟩, 3), (⟨"HatOrders$Foresight", "earliestWithMarkOf", "(I)I"⟩, 3), (⟨"HatOrders$Foresight", "stepsUntilDone", "(II)I"⟩, 3), (⟨"HatOrders$Foresight", "goesAs", "(LHatOrders$Row;II)Z"⟩, 3), (⟨"HatOrders$Asker", "askAnew", "(ILHatOrders$Town;II)I"⟩, 2), (⟨"HatOrders$Asker", "runBody", "(ILHatOrders$Town;II)I"⟩, 2), (⟨"HatOrders$Asker", "leaveNumber", "(I)V"⟩, 2), (⟨"HatOrders", "rowsThere", "()I"⟩, 11), (⟨"HatOrdersModel", "find", "(I)I"⟩, 24), (⟨"HatOrdersModel", "well", "(I)I"⟩, 24), (⟨"HatOrdersModel", "readTown", "()Z"⟩, 24)]
theorem lw_r2 : ∀ q ∈ lw_privs_2, lw_okq q := List.forall_mem_cons.mpr ⟨lw_p16, List.forall_mem_cons.mpr ⟨lw_p17, List.forall_mem_cons.mpr ⟨lw_p18, List.forall_mem_cons.mpr ⟨lw_p19, List.forall_mem_cons.mpr ⟨lw_p20, List.forall_mem_cons.mpr ⟨lw_p21, List.forall_mem_cons.mpr ⟨lw_p22, List.forall_mem_cons.mpr ⟨lw_p23, List.forall_mem_cons.mpr ⟨lw_p24, List.forall_mem_cons.mpr ⟨lw_p25, List.forall_mem_cons.mpr ⟨lw_p26, List.forall_mem_cons.mpr ⟨lw_p27, List.forall_mem_cons.mpr ⟨lw_p28, List.forall_mem_cons.mpr ⟨lw_p29, List.forall_mem_cons.mpr ⟨lw_p30, List.forall_mem_cons.mpr ⟨lw_p31, fun _ h => absurd h List.not_mem_nil⟩⟩⟩⟩⟩⟩⟩⟩⟩⟩⟩⟩⟩⟩⟩⟩
theorem lw_p32 : lw_okq (⟨"HatOrdersModel", "nextToken", "()V"⟩, 24) := ⟨⟨by decide +kernel, by decide +kernel⟩, List.mem_of_getElem? (i := 803) (by decide +kernel), List.mem_of_getElem? (i := 933) (by decide +kernel), List.mem_of_getElem? (i := 934) (by decide +kernel)⟩
theorem lw_p33 : lw_okq (⟨"HatOrdersModel", "takes", "(I)Z"⟩, 24) := ⟨⟨by decide +kernel, by decide +kernel⟩, List.mem_of_getElem? (i := 803) (by decide +kernel), List.mem_of_getElem? (i := 941) (by decide +kernel), List.mem_of_getElem? (i := 942) (by decide +kernel)⟩
theorem lw_p34 : lw_okq (⟨"HatOrdersModel", "isLetter", "(I)Z"⟩, 24) := ⟨⟨by decide +kernel, by decide +kernel⟩, List.mem_of_getElem? (i := 803) (by decide +kernel), List.mem_of_getElem? (i := 945) (by decide +kernel), List.mem_of_getElem? (i := 946) (by decide +kernel)⟩
theorem lw_p35 : lw_okq (⟨"HatOrdersModel", "faults", "(I)Z"⟩, 24) := ⟨⟨by decide +kernel, by decide +kernel⟩, List.mem_of_getElem? (i := 803) (by decide +kernel), List.mem_of_getElem? (i := 949) (by decide +kernel), List.mem_of_getElem? (i := 950) (by decide +kernel)⟩
theorem lw_p36 : lw_okq (⟨"HatOrdersModel", "takesNumber", "(IIII)Z"⟩, 24) := ⟨⟨by decide +kernel, by decide +kernel⟩, List.mem_of_getElem? (i := 803) (by decide +kernel), List.mem_of_getElem? (i := 953) (by decide +kernel), List.mem_of_getElem? (i := 954) (by decide +kernel)⟩
theorem lw_p37 : lw_okq (⟨"HatOrdersModel", "readHead", "(I)Z"⟩, 24) := ⟨⟨by decide +kernel, by decide +kernel⟩, List.mem_of_getElem? (i := 803) (by decide +kernel), List.mem_of_getElem? (i := 957) (by decide +kernel), List.mem_of_getElem? (i := 958) (by decide +kernel)⟩
theorem lw_p38 : lw_okq (⟨"HatOrdersModel", "readOrder", "()Z"⟩, 24) := ⟨⟨by decide +kernel, by decide +kernel⟩, List.mem_of_getElem? (i := 803) (by decide +kernel), List.mem_of_getElem? (i := 961) (by decide +kernel), List.mem_of_getElem? (i := 962) (by decide +kernel)⟩
theorem lw_p39 : lw_okq (⟨"HatOrdersModel", "note", "()V"⟩, 24) := ⟨⟨by decide +kernel, by decide +kernel⟩, List.mem_of_getElem? (i := 803) (by decide +kernel), List.mem_of_getElem? (i := 976) (by decide +kernel), List.mem_of_getElem? (i := 977) (by decide +kernel)⟩
theorem lw_p40 : lw_okq (⟨"HatOrdersModel", "oneStep", "()V"⟩, 24) := ⟨⟨by decide +kernel, by decide +kernel⟩, List.mem_of_getElem? (i := 803) (by decide +kernel), List.mem_of_getElem? (i := 980) (by decide +kernel), List.mem_of_getElem? (i := 981) (by decide +kernel)⟩
theorem lw_p41 : lw_okq (⟨"HatOrdersModel", "work", "(I)V"⟩, 24) := ⟨⟨by decide +kernel, by decide +kernel⟩, List.mem_of_getElem? (i := 803) (by decide +kernel), List.mem_of_getElem? (i := 984) (by decide +kernel), List.mem_of_getElem? (i := 985) (by decide +kernel)⟩
theorem lw_p42 : lw_okq (⟨"HatOrdersModel", "outMany", "()I"⟩, 24) := ⟨⟨by decide +kernel, by decide +kernel⟩, List.mem_of_getElem? (i := 803) (by decide +kernel), List.mem_of_getElem? (i := 991) (by decide +kernel), List.mem_of_getElem? (i := 992) (by decide +kernel)⟩
theorem lw_p43 : lw_okq (⟨"HatOrdersModel", "isHead", "(I)Z"⟩, 24) := ⟨⟨by decide +kernel, by decide +kernel⟩, List.mem_of_getElem? (i := 803) (by decide +kernel), List.mem_of_getElem? (i := 1004) (by decide +kernel), List.mem_of_getElem? (i := 1005) (by decide +kernel)⟩
theorem lw_p44 : lw_okq (⟨"HatOrdersModel", "giveTo", "(I)V"⟩, 24) := ⟨⟨by decide +kernel, by decide +kernel⟩, List.mem_of_getElem? (i := 803) (by decide +kernel), List.mem_of_getElem? (i := 1008) (by decide +kernel), List.mem_of_getElem? (i := 1009) (by decide +kernel)⟩
theorem lw_p45 : lw_okq (⟨"HatOrdersModel", "isOrder", "(I)Z"⟩, 24) := ⟨⟨by decide +kernel, by decide +kernel⟩, List.mem_of_getElem? (i := 803) (by decide +kernel), List.mem_of_getElem? (i := 1021) (by decide +kernel), List.mem_of_getElem? (i := 1022) (by decide +kernel)⟩
theorem lw_p46 : lw_okq (⟨"HatOrdersModel", "putAside", "()V"⟩, 24) := ⟨⟨by decide +kernel, by decide +kernel⟩, List.mem_of_getElem? (i := 803) (by decide +kernel), List.mem_of_getElem? (i := 1049) (by decide +kernel), List.mem_of_getElem? (i := 1050) (by decide +kernel)⟩
theorem lw_p47 : lw_okq (⟨"HatOrdersModel", "goOn", "(I)V"⟩, 24) := ⟨⟨by decide +kernel, by decide +kernel⟩, List.mem_of_getElem? (i := 803) (by decide +kernel), List.mem_of_getElem? (i := 1053) (by decide +kernel), List.mem_of_getElem? (i := 1054) (by decide +kernel)⟩
def lw_privs_3 : List (MethodName × Nat) := [(⟨"HatOrdersModel", "nextToken", "()V"⟩, 24), (⟨"HatOrdersModel", "takes", "(I)Z"⟩, 24), (⟨"HatOrdersModel", "isLetter", "(I)Z"⟩, 24), (⟨"HatOrdersModel", "faults", "(I)Z"⟩, 24), (⟨"HatOrdersModel", "takesNumber", "(IIII)Z"⟩, 24), (⟨"HatOrdersModel", "readHead", "(I)Z"⟩, 24), (⟨"HatOrdersModel", "readOrder", "()Z"⟩, 24), (⟨"HatOrdersModel", "note", "()V"⟩, 24), (⟨"HatOrdersModel", "oneStep", "()V"⟩, 24), (⟨"HatOrdersModel", "work", "(I)V"⟩, 24), (⟨"HatOrdersModel", "outMany", "()I"⟩, 24), (⟨"HatOrdersModel", "isHead", "(I)Z"⟩, 24), (⟨"HatOrdersModel", "giveTo", "(I)V"⟩, 24), (⟨"HatOrdersModel", "isOrder", "(I)Z"⟩, 24), (⟨"HatOrdersModel", "putAside", "()V"⟩, 24), (⟨"HatOrdersModel", "goOn", "(I)V"⟩, 24)]
theorem lw_r3 : ∀ q ∈ lw_privs_3, lw_okq q := List.forall_mem_cons.mpr ⟨lw_p32, List.forall_mem_cons.mpr ⟨lw_p33, List.forall_mem_cons.mpr ⟨lw_p34, List.forall_mem_cons.mpr ⟨lw_p35, List.forall_mem_cons.mpr ⟨lw_p36, List.forall_mem_cons.mpr ⟨lw_p37, List.forall_mem_cons.mpr ⟨lw_p38, List.forall_mem_cons.mpr ⟨lw_p39, List.forall_mem_cons.mpr ⟨lw_p40, List.forall_mem_cons.mpr ⟨lw_p41, List.forall_mem_cons.mpr ⟨lw_p42, List.forall_mem_cons.mpr ⟨lw_p43, List.forall_mem_cons.mpr ⟨lw_p44, List.forall_mem_cons.mpr ⟨lw_p45, List.forall_mem_cons.mpr ⟨lw_p46, List.forall_mem_cons.mpr ⟨lw_p47, fun _ h => absurd h List.not_mem_nil⟩⟩⟩⟩⟩⟩⟩⟩⟩⟩⟩⟩⟩⟩⟩⟩
theorem lw_p48 : lw_okq (⟨"HatOrdersModel", "takeBack", "()V"⟩, 24) := ⟨⟨by decide +kernel, by decide +kernel⟩, List.mem_of_getElem? (i := 803) (by decide +kernel), List.mem_of_getElem? (i := 1057) (by decide +kernel), List.mem_of_getElem? (i := 1058) (by decide +kernel)⟩
theorem lw_p49 : lw_okq (⟨"HatOrdersModel", "isAlike", "(II)Z"⟩, 24) := ⟨⟨by decide +kernel, by decide +kernel⟩, List.mem_of_getElem? (i := 803) (by decide +kernel), List.mem_of_getElem? (i := 1074) (by decide +kernel), List.mem_of_getElem? (i := 1075) (by decide +kernel)⟩
theorem lw_p50 : lw_okq (⟨"HatOrdersModel", "doneIn", "(I)I"⟩, 24) := ⟨⟨by decide +kernel, by decide +kernel⟩, List.mem_of_getElem? (i := 803) (by decide +kernel), List.mem_of_getElem? (i := 1082) (by decide +kernel), List.mem_of_getElem? (i := 1083) (by decide +kernel)⟩
theorem lw_p51 : lw_okq (⟨"HatOrdersModel", "windsBy", "(II)I"⟩, 24) := ⟨⟨by decide +kernel, by decide +kernel⟩, List.mem_of_getElem? (i := 803) (by decide +kernel), List.mem_of_getElem? (i := 1102) (by decide +kernel), List.mem_of_getElem? (i := 1103) (by decide +kernel)⟩
theorem lw_p52 : lw_okq (⟨"HatOrdersModel", "lacks", "(III)I"⟩, 24) := ⟨⟨by decide +kernel, by decide +kernel⟩, List.mem_of_getElem? (i := 803) (by decide +kernel), List.mem_of_getElem? (i := 1115) (by decide +kernel), List.mem_of_getElem? (i := 1116) (by decide +kernel)⟩
theorem lw_p53 : lw_okq (⟨"HatOrdersModel", "goesSo", "(II)Z"⟩, 24) := ⟨⟨by decide +kernel, by decide +kernel⟩, List.mem_of_getElem? (i := 803) (by decide +kernel), List.mem_of_getElem? (i := 1119) (by decide +kernel), List.mem_of_getElem? (i := 1120) (by decide +kernel)⟩
theorem lw_p54 : lw_okq (⟨"HatOrdersModel", "sizeOf", "(I)I"⟩, 24) := ⟨⟨by decide +kernel, by decide +kernel⟩, List.mem_of_getElem? (i := 803) (by decide +kernel), List.mem_of_getElem? (i := 1150) (by decide +kernel), List.mem_of_getElem? (i := 1151) (by decide +kernel)⟩
theorem lw_p55 : lw_okq (⟨"HatOrdersModel", "begin", "(I)V"⟩, 24) := ⟨⟨by decide +kernel, by decide +kernel⟩, List.mem_of_getElem? (i := 803) (by decide +kernel), List.mem_of_getElem? (i := 1154) (by decide +kernel), List.mem_of_getElem? (i := 1155) (by decide +kernel)⟩
theorem lw_p56 : lw_okq (⟨"HatOrdersModel", "firmSize", "(I)I"⟩, 24) := ⟨⟨by decide +kernel, by decide +kernel⟩, List.mem_of_getElem? (i := 803) (by decide +kernel), List.mem_of_getElem? (i := 1158) (by decide +kernel), List.mem_of_getElem? (i := 1159) (by decide +kernel)⟩
theorem lw_p57 : lw_okq (⟨"HatOrdersModel", "lent", "(II)I"⟩, 24) := ⟨⟨by decide +kernel, by decide +kernel⟩, List.mem_of_getElem? (i := 803) (by decide +kernel), List.mem_of_getElem? (i := 1162) (by decide +kernel), List.mem_of_getElem? (i := 1163) (by decide +kernel)⟩
theorem lw_p58 : lw_okq (⟨"HatOrdersModel", "markOf", "(I)I"⟩, 24) := ⟨⟨by decide +kernel, by decide +kernel⟩, List.mem_of_getElem? (i := 803) (by decide +kernel), List.mem_of_getElem? (i := 1166) (by decide +kernel), List.mem_of_getElem? (i := 1167) (by decide +kernel)⟩
theorem lw_p59 : lw_okq (⟨"HatOrdersModel", "firmMark", "(I)I"⟩, 24) := ⟨⟨by decide +kernel, by decide +kernel⟩, List.mem_of_getElem? (i := 803) (by decide +kernel), List.mem_of_getElem? (i := 1170) (by decide +kernel), List.mem_of_getElem? (i := 1171) (by decide +kernel)⟩
theorem lw_p60 : lw_okq (⟨"HatOrdersModel", "sizeOfWindy", "(I)I"⟩, 24) := ⟨⟨by decide +kernel, by decide +kernel⟩, List.mem_of_getElem? (i := 803) (by decide +kernel), List.mem_of_getElem? (i := 1174) (by decide +kernel), List.mem_of_getElem? (i := 1175) (by decide +kernel)⟩
theorem lw_p61 : lw_okq (⟨"HatOrdersModel", "windySize", "(I)I"⟩, 24) := ⟨⟨by decide +kernel, by decide +kernel⟩, List.mem_of_getElem? (i := 803) (by decide +kernel), List.mem_of_getElem? (i := 1178) (by decide +kernel), List.mem_of_getElem? (i := 1179) (by decide +kernel)⟩
def lw_privs_4 : List (MethodName × Nat) := [(⟨"HatOrdersModel", "takeBack", "()V"⟩, 24), (⟨"HatOrdersModel", "isAlike", "(II)Z"⟩, 24), (⟨"HatOrdersModel", "doneIn", "(I)I"⟩, 24), (⟨"HatOrdersModel", "windsBy", "(II)I"⟩, 24), (⟨"HatOrdersModel", "lacks", "(III)I"⟩, 24), (⟨"HatOrdersModel", "goesSo", "(II)Z"⟩, 24), (⟨"HatOrdersModel", "sizeOf", "(I)I"⟩, 24), (⟨"HatOrdersModel", "begin", "(I)V"⟩, 24), (⟨"HatOrdersModel", "firmSize", "(I)I"⟩, 24), (⟨"HatOrdersModel", "lent", "(II)I"⟩, 24), (⟨"HatOrdersModel", "markOf", "(I)I"⟩, 24), (⟨"HatOrdersModel", "firmMark", "(I)I"⟩, 24), (⟨"HatOrdersModel", "sizeOfWindy", "(I)I"⟩, 24), (⟨"HatOrdersModel", "windySize", "(I)I"⟩, 24)]
theorem lw_r4 : ∀ q ∈ lw_privs_4, lw_okq q := List.forall_mem_cons.mpr ⟨lw_p48, List.forall_mem_cons.mpr ⟨lw_p49, List.forall_mem_cons.mpr ⟨lw_p50, List.forall_mem_cons.mpr ⟨lw_p51, List.forall_mem_cons.mpr ⟨lw_p52, List.forall_mem_cons.mpr ⟨lw_p53, List.forall_mem_cons.mpr ⟨lw_p54, List.forall_mem_cons.mpr ⟨lw_p55, List.forall_mem_cons.mpr ⟨lw_p56, List.forall_mem_cons.mpr ⟨lw_p57, List.forall_mem_cons.mpr ⟨lw_p58, List.forall_mem_cons.mpr ⟨lw_p59, List.forall_mem_cons.mpr ⟨lw_p60, List.forall_mem_cons.mpr ⟨lw_p61, fun _ h => absurd h List.not_mem_nil⟩⟩⟩⟩⟩⟩⟩⟩⟩⟩⟩⟩⟩⟩
def lw_privs : List (MethodName × Nat) := lw_privs_1 ++ (lw_privs_2 ++ (lw_privs_3 ++ (lw_privs_4)))
def lw_tbl : List Cond := k2_sels lw_privs ++ tables_1
theorem lw_privs_ok : ∀ q ∈ lw_privs, lw_okq q := by
  show ∀ q ∈ lw_privs_1 ++ (lw_privs_2 ++ (lw_privs_3 ++ (lw_privs_4))), lw_okq q
  exact List.forall_mem_append.mpr ⟨lw_r1, List.forall_mem_append.mpr ⟨lw_r2, List.forall_mem_append.mpr ⟨lw_r3, lw_r4⟩⟩⟩
end
section
/-! THE SMALL MACHINE AGAINST THE KIT'S: numbers -/
theorem sx_lo32 : Int32.minValue.toInt = -2147483648 := by decide
theorem sx_hi32 : Int32.maxValue.toInt = 2147483647 := by decide
theorem sx_lo64 : Int64.minValue.toInt = -9223372036854775808 := by decide
theorem sx_hi64 : Int64.maxValue.toInt = 9223372036854775807 := by decide
theorem sx_toI {a : Int} (h : kx_in a) : (Int32.ofInt a).toInt = a := Int32.toInt_ofInt_of_le (by omega) (by omega)
theorem sx_toL {a : Int} (h : kx_inL a) : (Int64.ofInt a).toInt = a := Int64.toInt_ofInt_of_le (by omega) (by omega)
theorem sx_lt {a b : Int} (ha : kx_in a) (hb : kx_in b) : Int32.ofInt a < Int32.ofInt b ↔ a < b := by
  rw [Int32.lt_iff_toInt_lt, sx_toI ha, sx_toI hb]
theorem sx_le {a b : Int} (ha : kx_in a) (hb : kx_in b) : Int32.ofInt a ≤ Int32.ofInt b ↔ a ≤ b := by
  rw [Int32.le_iff_toInt_le, sx_toI ha, sx_toI hb]
theorem sx_eq {a b : Int} (ha : kx_in a) (hb : kx_in b) : Int32.ofInt a = Int32.ofInt b ↔ a = b := by
  rw [← Int32.toInt_inj, sx_toI ha, sx_toI hb]
theorem sx_zero : Int32.ofInt 0 = 0 := by decide
theorem sx_cl {a : Int} (h0 : 0 ≤ a) (h1 : a < 2147483648) : (Int32.ofInt a).toNatClampNeg = a.toNat := Int32.toNatClampNeg_ofInt_of_le (by omega) (by omega)
theorem sx_vp {a : Int} {n : Nat} (h0 : 0 ≤ a) (h1 : a < n) (hn : n < 2147483648) : vp_in (Int32.ofInt a) n := by
  unfold vp_in
  have hc := sx_cl h0 (show a < 2147483648 by omega)
  intro h
  rcases h with h | h
  · rw [← sx_zero, sx_lt ⟨by omega, by omega⟩ ⟨by omega, by omega⟩] at h; omega
  · rw [hc] at h; omega
theorem sx_div {a b : Int} (ha : kx_in a) (hb : kx_in b) : Int32.ofInt (a.tdiv b) = Int32.ofInt a / Int32.ofInt b := by
  refine Int32.ofInt_tdiv ?_ ?_ ?_ ?_ <;> simp only [sx_lo32, sx_hi32] <;> omega
theorem sx_rem {a b : Int} (ha : kx_in a) (hb : kx_in b) : Int32.ofInt (a.tmod b) = Int32.ofInt a - Int32.ofInt a / Int32.ofInt b * Int32.ofInt b := by
  rw [irem_eq_mod]
  refine Int32.ofInt_tmod ?_ ?_ ?_ ?_ <;> simp only [sx_lo32, sx_hi32] <;> omega
theorem sx_ne0 {b : Int} (hb : kx_in b) (h : b ≠ 0) : ¬ Int32.ofInt b = 0 := by
  rw [← sx_zero, sx_eq hb ⟨by omega, by omega⟩]; exact h
theorem sx_and (a b : Int) : Int32.ofInt (kx_and a b) = Int32.ofInt a &&& Int32.ofInt b := by rw [kx_and, Int32.ofInt_toInt]
theorem sx_or (a b : Int) : Int32.ofInt (kx_or a b) = Int32.ofInt a ||| Int32.ofInt b := by rw [kx_or, Int32.ofInt_toInt]
theorem sx_xor (a b : Int) : Int32.ofInt (kx_xor a b) = Int32.ofInt a ^^^ Int32.ofInt b := by rw [kx_xor, Int32.ofInt_toInt]
theorem sx_lor (a b : Int) : Int64.ofInt (kx_lor a b) = Int64.ofInt a ||| Int64.ofInt b := by rw [kx_lor, Int64.ofInt_toInt]
theorem sx_i2l {a : Int} (h : kx_in a) : (Int32.ofInt a).toInt64 = Int64.ofInt a := Int32.toInt64_ofInt (by rw [sx_lo32]; omega) (by rw [sx_hi32]; omega)
theorem sx_bm (a : Int) : Int32.ofInt (a.bmod 4294967296) = Int32.ofInt a := by
  rw [← Int32.toInt_inj, Int32.toInt_ofInt, Int32.toInt_ofInt]
  show (a.bmod 4294967296).bmod 4294967296 = a.bmod 4294967296
  rw [Int.bmod_bmod]
theorem sx_i2b (a : Int) : (Int32.ofInt a).toInt8.toInt32 = Int32.ofInt (a.bmod 256) := by
  rw [← Int32.toInt_inj, Int8.toInt_toInt32, Int32.toInt_toInt8, Int32.toInt_ofInt]
  rw [show Int32.size = 4294967296 from rfl, show (2 ^ 8 : Nat) = 256 from rfl]
  rw [Int.bmod_bmod_of_dvd (by decide), Int32.toInt_ofInt_of_le]
  · have := Int.le_bmod (x := a) (m := 256) (by omega); omega
  · have := Int.bmod_lt (x := a) (m := 256) (by omega); omega
theorem sx_i2s (a : Int) : (Int32.ofInt a).toInt16.toInt32 = Int32.ofInt (a.bmod 65536) := by
  rw [← Int32.toInt_inj, Int16.toInt_toInt32, Int32.toInt_toInt16, Int32.toInt_ofInt]
  rw [show Int32.size = 4294967296 from rfl, show (2 ^ 16 : Nat) = 65536 from rfl]
  rw [Int.bmod_bmod_of_dvd (by decide), Int32.toInt_ofInt_of_le]
  · have := Int.le_bmod (x := a) (m := 65536) (by omega); omega
  · have := Int.bmod_lt (x := a) (m := 65536) (by omega); omega
end
section
theorem sx_sh {b : Int} (h0 : 0 ≤ b) (h1 : b < 32) : Int32.ofInt b &&& 31 = Int32.ofInt b := by
  obtain ⟨n, rfl⟩ := Int.eq_ofNat_of_zero_le h0
  have h : n < 32 := by omega
  have key : ∀ n : Nat, n < 32 → Int32.ofInt (n : Int) &&& 31 = Int32.ofInt n := by decide
  exact key n h
theorem sx_smod {b : Int} (h0 : 0 ≤ b) (h1 : b < 32) : ((Int32.ofInt b).toBitVec.smod 32).toNat = b.toNat := by
  obtain ⟨n, rfl⟩ := Int.eq_ofNat_of_zero_le h0
  have h : n < 32 := by omega
  have key : ∀ n : Nat, n < 32 → ((Int32.ofInt (n : Int)).toBitVec.smod 32).toNat = n := by decide
  rw [key n h]; simp
theorem sx_shl {a b : Int} (h0 : 0 ≤ b) (h1 : b < 32) : Int32.ofInt (a * 2 ^ b.toNat) = Int32.ofInt a <<< (Int32.ofInt b &&& 31) := by
  rw [sx_sh h0 h1]
  have hb := pk_shl (Int32.ofInt a) (Int32.ofInt b) b.toNat (sx_smod h0 h1)
  apply Int32.toBitVec.inj
  apply BitVec.eq_of_toNat_eq
  rw [hb]
  have e1 : ∀ x : Int, (Int32.ofInt x).toBitVec.toNat = (x % 4294967296).toNat := by
    intro x
    rw [Int32.toBitVec_ofInt, BitVec.toNat_ofInt]
    rfl
  rw [e1, e1]
  generalize b.toNat = k
  have hp : (0 : Int) < 2 ^ k := Int.pow_pos (by decide)
  have h2 : ((a % 4294967296).toNat : Int) = a % 4294967296 := Int.toNat_of_nonneg (Int.emod_nonneg _ (by decide))
  have h3 : ((a * 2 ^ k % 4294967296).toNat : Int) = a * 2 ^ k % 4294967296 := Int.toNat_of_nonneg (Int.emod_nonneg _ (by decide))
  apply Int.ofNat_inj.mp
  rw [h3]
  rw [Int.natCast_emod, Int.natCast_mul, h2]
  simp
  rw [Int.mul_emod a (2 ^ k), Int.mul_emod (a % 4294967296) (2 ^ k), Int.emod_emod]
theorem sx_shr {a b : Int} (h0 : 0 ≤ b) (h1 : b < 32) : Int32.ofInt (a.bmod 4294967296 / 2 ^ b.toNat) = Int32.ofInt a >>> (Int32.ofInt b &&& 31) := by
  rw [sx_sh h0 h1]
  have hb := pk_shr (Int32.ofInt a) (Int32.ofInt b) b.toNat (sx_smod h0 h1)
  rw [← Int32.toInt_inj, hb, Int32.toInt_ofInt, Int32.toInt_ofInt]
  rw [show Int32.size = 4294967296 from rfl, Int.shiftRight_eq_div_pow]
  have g1 := Int.le_bmod (x := a) (m := 4294967296) (by omega)
  have g2 := Int.bmod_lt (x := a) (m := 4294967296) (by omega)
  generalize a.bmod 4294967296 = z at g1 g2
  generalize b.toNat = k
  have hp : (0 : Int) < 2 ^ k := Int.pow_pos (by decide)
  have hz : z / 2 ^ k < 2147483648 := by
    rcases Int.lt_or_le z 0 with h | h
    · have : z / 2 ^ k < 0 := Int.ediv_neg_of_neg_of_pos h hp; omega
    · have := Int.ediv_le_self (a := z) (2 ^ k) h; omega
  have hy : -2147483648 ≤ z / 2 ^ k := by
    rcases Int.lt_or_le z 0 with h | h
    · rw [Int.le_ediv_iff_mul_le hp]
      have : (1 : Int) ≤ 2 ^ k := by omega
      have h9 : (0 : Int) ≤ 2147483648 * (2 ^ k - 1) := Int.mul_nonneg (by decide) (by omega)
      have h8 : (2147483648 : Int) * (2 ^ k - 1) = 2147483648 * 2 ^ k - 2147483648 := by rw [Int.mul_sub, Int.mul_one]
      omega
    · have := Int.ediv_nonneg h (Int.le_of_lt hp); omega
  have := sx_toI (a := z / 2 ^ k) ⟨by omega, by omega⟩
  rw [Int32.toInt_ofInt] at this
  simpa using this
theorem sx_ushr {a b : Int} (h0 : 0 ≤ b) (h1 : b < 32) (h2 : 0 ≤ a) (h3 : a ≤ 2147483647) : ((Int32.ofInt a).toUInt32 >>> ((Int32.ofInt b).toUInt32 &&& Int32.toUInt32 31)).toInt32 = Int32.ofInt (a / 2 ^ b.toNat) := by
  obtain ⟨x, rfl⟩ := Int.eq_ofNat_of_zero_le h2
  obtain ⟨n, rfl⟩ := Int.eq_ofNat_of_zero_le h0
  have hn : n < 32 := by omega
  have key : ∀ n : Nat, n < 32 → (((Int32.ofInt (n : Int)).toUInt32 &&& Int32.toUInt32 31).toBitVec % 32).toNat = n := by decide
  have := pk_ushrN (n := x) (by omega) (Int32.ofInt n) n (key n hn)
  rw [show Int32.ofInt (x : Int) = nI x from Int32.ofInt_eq_ofNat]
  rw [this]
  show nI (x / 2 ^ n) = Int32.ofInt ((x : Int) / 2 ^ (n : Int).toNat)
  rw [show ((x : Int) / 2 ^ (n : Int).toNat) = ((x / 2 ^ n : Nat) : Int) by simp]
  exact Int32.ofInt_eq_ofNat.symm
theorem sx_i2c (a : Int) : ((Int32.ofInt a).toUInt32 % 65536).toInt32 = Int32.ofInt (a % 65536) := by
  rw [pk_char]
  rw [Int32.toBitVec_ofInt, BitVec.toNat_ofInt]
  have h2 : (((a % ((2 ^ 32 : Nat) : Int)).toNat : Nat) : Int) = a % 4294967296 := Int.toNat_of_nonneg (Int.emod_nonneg _ (by decide))
  rw [nI, ← Int32.ofInt_eq_ofNat]
  congr 1
  rw [Int.natCast_emod, h2]
  omega
theorem sx_lsmod {b : Int} (h0 : 0 ≤ b) (h1 : b < 64) : (((Int32.ofInt b).toInt64 &&& 63).toBitVec.smod 64).toNat = b.toNat := by
  obtain ⟨n, rfl⟩ := Int.eq_ofNat_of_zero_le h0
  have h : n < 64 := by omega
  have key : ∀ n : Nat, n < 64 → (((Int32.ofInt (n : Int)).toInt64 &&& 63).toBitVec.smod 64).toNat = n := by decide
  rw [key n h]; simp
theorem sx_lsh {b : Int} (h0 : 0 ≤ b) (h1 : b < 64) (a : Int) : Int64.ofInt a <<< ((Int32.ofInt b).toInt64 &&& 63) = Int64.ofInt (a * 2 ^ b.toNat) := by
  have hb : (Int64.ofInt a <<< ((Int32.ofInt b).toInt64 &&& 63)).toBitVec.toNat = (Int64.ofInt a).toBitVec.toNat * 2 ^ b.toNat % 2 ^ 64 := by
    show ((Int64.ofInt a).toBitVec <<< (((Int32.ofInt b).toInt64 &&& 63).toBitVec.smod 64).toNat).toNat = _
    rw [sx_lsmod h0 h1, BitVec.toNat_shiftLeft, Nat.shiftLeft_eq]
  apply Int64.toBitVec.inj
  apply BitVec.eq_of_toNat_eq
  rw [hb]
  have e1 : ∀ x : Int, (Int64.ofInt x).toBitVec.toNat = (x % 18446744073709551616).toNat := by
    intro x
    rw [Int64.toBitVec_ofInt, BitVec.toNat_ofInt]
    rfl
  rw [e1, e1]
  generalize b.toNat = k
  have h2 : ((a % 18446744073709551616).toNat : Int) = a % 18446744073709551616 := Int.toNat_of_nonneg (Int.emod_nonneg _ (by decide))
  have h3 : ((a * 2 ^ k % 18446744073709551616).toNat : Int) = a * 2 ^ k % 18446744073709551616 := Int.toNat_of_nonneg (Int.emod_nonneg _ (by decide))
  apply Int.ofNat_inj.mp
  rw [h3]
  rw [Int.natCast_emod, Int.natCast_mul, h2]
  simp
  rw [Int.mul_emod, Int.mul_emod a, Int.emod_emod]
end
section
def sx_T0 : u_T := fun k => match k with
  | 0 => ("HatOrders$Acts", "sorts", "[I", true)
  | 1 => ("HatOrders$Acts", "holders", "[I", true)
  | 2 => ("HatOrders$Acts", "helds", "[I", true)
  | 3 => ("HatOrders$Acts", "details", "[I", true)
  | 4 => ("HatOrders$Acts", "nextPlace", "I", false)
  | _ => ("HatOrders$Acts", "kept", "I", false)
def sx_y0 : Nat → FieldType := fun k => match k with
  | 0 => .array .int
  | 1 => .array .int
  | 2 => .array .int
  | 3 => .array .int
  | 4 => .int
  | _ => .int
theorem sx_nm0 : ∀ a, a < 6 → ∀ b, b < 6 → a ≠ b → (sx_T0 a).2.1 ≠ (sx_T0 b).2.1 := by decide +kernel
theorem sx_ty0 : ∀ k, k < 6 → parseFieldDescriptor (sx_T0 k).2.2.1 = some (sx_y0 k) := by decide +kernel
def sx_T1 : u_T := fun k => match k with
  | 0 => ("HatOrders$Asker", "numbers", "[I", true)
  | _ => ("HatOrders$Asker", "traced", "I", false)
def sx_y1 : Nat → FieldType := fun k => match k with
  | 0 => .array .int
  | _ => .int
theorem sx_nm1 : ∀ a, a < 2 → ∀ b, b < 2 → a ≠ b → (sx_T1 a).2.1 ≠ (sx_T1 b).2.1 := by decide +kernel
theorem sx_ty1 : ∀ k, k < 2 → parseFieldDescriptor (sx_T1 k).2.2.1 = some (sx_y1 k) := by decide +kernel
def sx_T2 : u_T := fun k => match k with
  | 0 => ("HatOrders$Foresight", "present", "LHatOrders$Town;", true)
  | 1 => ("HatOrders$Foresight", "trial", "LHatOrders$Town;", true)
  | _ => ("HatOrders$Foresight", "marks", "[J", true)
def sx_y2 : Nat → FieldType := fun k => match k with
  | 0 => .object "HatOrders$Town"
  | 1 => .object "HatOrders$Town"
  | _ => .array .long
theorem sx_nm2 : ∀ a, a < 3 → ∀ b, b < 3 → a ≠ b → (sx_T2 a).2.1 ≠ (sx_T2 b).2.1 := by decide +kernel
theorem sx_ty2 : ∀ k, k < 3 → parseFieldDescriptor (sx_T2 k).2.2.1 = some (sx_y2 k) := by decide +kernel
def sx_T3 : u_T := fun k => match k with
  | 0 => ("HatOrders$Row", "items", "[I", true)
  | 1 => ("HatOrders$Row", "lane", "I", false)
  | _ => ("HatOrders$Row", "size", "I", false)
def sx_y3 : Nat → FieldType := fun k => match k with
  | 0 => .array .int
  | 1 => .int
  | _ => .int
theorem sx_nm3 : ∀ a, a < 3 → ∀ b, b < 3 → a ≠ b → (sx_T3 a).2.1 ≠ (sx_T3 b).2.1 := by decide +kernel
theorem sx_ty3 : ∀ k, k < 3 → parseFieldDescriptor (sx_T3 k).2.2.1 = some (sx_y3 k) := by decide +kernel
def sx_T4 : u_T := fun k => match k with
  | 0 => ("HatOrders$Tape", "bytes", "[I", true)
  | 1 => ("HatOrders$Tape", "length", "I", false)
  | 2 => ("HatOrders$Tape", "faultNumber", "I", false)
  | 3 => ("HatOrders$Tape", "faultPlace", "I", false)
  | 4 => ("HatOrders$Tape", "at", "I", false)
  | _ => ("HatOrders$Tape", "number", "I", false)
def sx_y4 : Nat → FieldType := fun k => match k with
  | 0 => .array .int
  | 1 => .int
  | 2 => .int
  | 3 => .int
  | 4 => .int
  | _ => .int
theorem sx_nm4 : ∀ a, a < 6 → ∀ b, b < 6 → a ≠ b → (sx_T4 a).2.1 ≠ (sx_T4 b).2.1 := by decide +kernel
theorem sx_ty4 : ∀ k, k < 6 → parseFieldDescriptor (sx_T4 k).2.2.1 = some (sx_y4 k) := by decide +kernel
def sx_T5 : u_T := fun k => match k with
  | 0 => ("HatOrders$Town", "kinds", "[I", true)
  | 1 => ("HatOrders$Town", "keeps", "[I", true)
  | 2 => ("HatOrders$Town", "likes", "[I", true)
  | 3 => ("HatOrders$Town", "worked", "[I", true)
  | 4 => ("HatOrders$Town", "needs", "[I", true)
  | 5 => ("HatOrders$Town", "left", "[I", true)
  | 6 => ("HatOrders$Town", "states", "[I", true)
  | 7 => ("HatOrders$Town", "doneOn", "[I", true)
  | 8 => ("HatOrders$Town", "heads", "I", false)
  | 9 => ("HatOrders$Town", "orders", "I", false)
  | 10 => ("HatOrders$Town", "wind", "I", false)
  | 11 => ("HatOrders$Town", "holder", "I", false)
  | 12 => ("HatOrders$Town", "held", "I", false)
  | _ => ("HatOrders$Town", "step", "I", false)
def sx_y5 : Nat → FieldType := fun k => match k with
  | 0 => .array .int
  | 1 => .array .int
  | 2 => .array .int
  | 3 => .array .int
  | 4 => .array .int
  | 5 => .array .int
  | 6 => .array .int
  | 7 => .array .int
  | 8 => .int
  | 9 => .int
  | 10 => .int
  | 11 => .int
  | 12 => .int
  | _ => .int
theorem sx_nm5 : ∀ a, a < 14 → ∀ b, b < 14 → a ≠ b → (sx_T5 a).2.1 ≠ (sx_T5 b).2.1 := by decide +kernel
theorem sx_ty5 : ∀ k, k < 14 → parseFieldDescriptor (sx_T5 k).2.2.1 = some (sx_y5 k) := by decide +kernel
def sx_T6 : u_T := fun k => match k with
  | 0 => ("HatOrders", "rows", "[LHatOrders$Row;", true)
  | 1 => ("HatOrders", "tape", "LHatOrders$Tape;", true)
  | 2 => ("HatOrders", "draft", "LHatOrders$Town;", true)
  | 3 => ("HatOrders", "present", "LHatOrders$Town;", true)
  | 4 => ("HatOrders", "acts", "LHatOrders$Acts;", true)
  | 5 => ("HatOrders", "foresight", "LHatOrders$Foresight;", true)
  | 6 => ("HatOrders", "asker", "LHatOrders$Asker;", true)
  | 7 => ("HatOrders", "images", "[LHatOrders$Town;", true)
  | 8 => ("HatOrders", "imageKept", "[Z", true)
  | 9 => ("HatOrders", "faultNumber", "I", false)
  | _ => ("HatOrders", "lastFinding", "I", false)
def sx_y6 : Nat → FieldType := fun k => match k with
  | 0 => .array (.object "HatOrders$Row")
  | 1 => .object "HatOrders$Tape"
  | 2 => .object "HatOrders$Town"
  | 3 => .object "HatOrders$Town"
  | 4 => .object "HatOrders$Acts"
  | 5 => .object "HatOrders$Foresight"
  | 6 => .object "HatOrders$Asker"
  | 7 => .array (.object "HatOrders$Town")
  | 8 => .array .boolean
  | 9 => .int
  | _ => .int
theorem sx_nm6 : ∀ a, a < 11 → ∀ b, b < 11 → a ≠ b → (sx_T6 a).2.1 ≠ (sx_T6 b).2.1 := by decide +kernel
theorem sx_ty6 : ∀ k, k < 11 → parseFieldDescriptor (sx_T6 k).2.2.1 = some (sx_y6 k) := by decide +kernel
def sx_T7 : u_T := fun k => match k with
  | 0 => ("HatOrdersModel", "lanes", "[I", true)
  | 1 => ("HatOrdersModel", "sizes", "[I", true)
  | 2 => ("HatOrdersModel", "items", "[I", true)
  | 3 => ("HatOrdersModel", "status", "I", false)
  | 4 => ("HatOrdersModel", "isThere", "Z", false)
  | 5 => ("HatOrdersModel", "st", "[I", true)
  | 6 => ("HatOrdersModel", "moved", "[I", true)
  | 7 => ("HatOrdersModel", "tape", "[I", true)
  | 8 => ("HatOrdersModel", "bytes", "I", false)
  | 9 => ("HatOrdersModel", "latest", "I", false)
  | 10 => ("HatOrdersModel", "place", "I", false)
  | 11 => ("HatOrdersModel", "token", "I", false)
  | 12 => ("HatOrdersModel", "value", "I", false)
  | 13 => ("HatOrdersModel", "begins", "I", false)
  | 14 => ("HatOrdersModel", "wrong", "I", false)
  | 15 => ("HatOrdersModel", "read", "[I", true)
  | 16 => ("HatOrdersModel", "acts", "[I", true)
  | 17 => ("HatOrdersModel", "actMany", "I", false)
  | 18 => ("HatOrdersModel", "aside", "[I", true)
  | 19 => ("HatOrdersModel", "ways", "[I", true)
  | 20 => ("HatOrdersModel", "isHeld", "[Z", true)
  | 21 => ("HatOrdersModel", "held", "[I", true)
  | 22 => ("HatOrdersModel", "trace", "[I", true)
  | _ => ("HatOrdersModel", "traced", "I", false)
def sx_y7 : Nat → FieldType := fun k => match k with
  | 0 => .array .int
  | 1 => .array .int
  | 2 => .array .int
  | 3 => .int
  | 4 => .boolean
  | 5 => .array .int
  | 6 => .array .int
  | 7 => .array .int
  | 8 => .int
  | 9 => .int
  | 10 => .int
  | 11 => .int
  | 12 => .int
  | 13 => .int
  | 14 => .int
  | 15 => .array .int
  | 16 => .array .int
  | 17 => .int
  | 18 => .array .int
  | 19 => .array .int
  | 20 => .array .boolean
  | 21 => .array .int
  | 22 => .array .int
  | _ => .int
theorem sx_nm7 : ∀ a, a < 24 → ∀ b, b < 24 → a ≠ b → (sx_T7 a).2.1 ≠ (sx_T7 b).2.1 := by decide +kernel
theorem sx_ty7 : ∀ k, k < 24 → parseFieldDescriptor (sx_T7 k).2.2.1 = some (sx_y7 k) := by decide +kernel
def sx_cn : Nat → String
  | 0 => "HatOrders$Acts"
  | 1 => "HatOrders$Asker"
  | 2 => "HatOrders$Foresight"
  | 3 => "HatOrders$Row"
  | 4 => "HatOrders$Tape"
  | 5 => "HatOrders$Town"
  | 6 => "HatOrders"
  | _ => "HatOrdersModel"
def sx_T (ci : Nat) : u_T := match ci with
  | 0 => sx_T0
  | 1 => sx_T1
  | 2 => sx_T2
  | 3 => sx_T3
  | 4 => sx_T4
  | 5 => sx_T5
  | 6 => sx_T6
  | _ => sx_T7
def sx_y (ci : Nat) : Nat → FieldType := match ci with
  | 0 => sx_y0
  | 1 => sx_y1
  | 2 => sx_y2
  | 3 => sx_y3
  | 4 => sx_y4
  | 5 => sx_y5
  | 6 => sx_y6
  | _ => sx_y7
def sx_nf : Nat → Nat
  | 0 => 6
  | 1 => 2
  | 2 => 3
  | 3 => 3
  | 4 => 6
  | 5 => 14
  | 6 => 11
  | _ => 24
def sx_tags : Nat → List Nat
  | 0 => [1, 1, 1, 1, 0, 0]
  | 1 => [1, 0]
  | 2 => [1, 1, 1]
  | 3 => [1, 0, 0]
  | 4 => [1, 0, 0, 0, 0, 0]
  | 5 => [1, 1, 1, 1, 1, 1, 1, 1, 0, 0, 0, 0, 0, 0]
  | 6 => [1, 1, 1, 1, 1, 1, 1, 1, 1, 0, 0]
  | _ => [1, 1, 1, 0, 2, 1, 1, 1, 0, 0, 0, 0, 0, 0, 0, 1, 1, 0, 1, 1, 1, 1, 1, 0]
/-- 0 an int, 1 a reference, 2 a boolean -/
def sx_tag (ci k : Nat) : Nat := (sx_tags ci).getD k 0
abbrev sx_cls : List vw_C := [(sx_cn 0, sx_T 0, 6), (sx_cn 1, sx_T 1, 2), (sx_cn 2, sx_T 2, 3), (sx_cn 3, sx_T 3, 3), (sx_cn 4, sx_T 4, 6), (sx_cn 5, sx_T 5, 14), (sx_cn 6, sx_T 6, 11), (sx_cn 7, sx_T 7, 24)]
theorem sx_cls_at {ci : Nat} (h : ci < 8) : sx_cls[ci]? = some (sx_cn ci, sx_T ci, sx_nf ci) := by
  match ci, h with
  | 0, _ => rfl
  | 1, _ => rfl
  | 2, _ => rfl
  | 3, _ => rfl
  | 4, _ => rfl
  | 5, _ => rfl
  | 6, _ => rfl
  | 7, _ => rfl
theorem sx_nm {ci : Nat} (h : ci < 8) : ∀ a, a < sx_nf ci → ∀ b, b < sx_nf ci → a ≠ b → (sx_T ci a).2.1 ≠ (sx_T ci b).2.1 := by
  match ci, h with
  | 0, _ => exact sx_nm0
  | 1, _ => exact sx_nm1
  | 2, _ => exact sx_nm2
  | 3, _ => exact sx_nm3
  | 4, _ => exact sx_nm4
  | 5, _ => exact sx_nm5
  | 6, _ => exact sx_nm6
  | 7, _ => exact sx_nm7
theorem sx_ty {ci : Nat} (h : ci < 8) : ∀ k, k < sx_nf ci → parseFieldDescriptor (sx_T ci k).2.2.1 = some (sx_y ci k) := by
  match ci, h with
  | 0, _ => exact sx_ty0
  | 1, _ => exact sx_ty1
  | 2, _ => exact sx_ty2
  | 3, _ => exact sx_ty3
  | 4, _ => exact sx_ty4
  | 5, _ => exact sx_ty5
  | 6, _ => exact sx_ty6
  | 7, _ => exact sx_ty7
theorem sx_tag_ok : ∀ ci, ci < 8 → ∀ k, k < sx_nf ci → (sx_tag ci k = 0 → sx_y ci k = .int) ∧ (sx_tag ci k = 2 → sx_y ci k = .boolean) ∧ (sx_tag ci k = 1 → refKind (sx_y ci k) = true) ∧ sx_tag ci k < 3 := by decide +kernel
theorem sx_own_ok : ∀ ci, ci < 8 → ∀ k, k < sx_nf ci → (sx_T ci k).1 = sx_cn ci := by decide +kernel
end
section
/-! the small machine's memory and the kit's heap. Z: the heap's size before (less 1), the outer cells' addresses, the array classes' numbers -/
abbrev sx_Z : Type := Nat × (Nat → Nat) × (Nat → ClassId)
def sx_ad (Z : sx_Z) (k : Nat) : Nat := if k ≤ 100 then Z.1 + k else Z.2.1 k
def sx_c (Z : sx_Z) (v : kx_V) : Value := match v with
  | .inl x => .int (Int32.ofInt x)
  | .inr (.inl x) => .long (Int64.ofInt x)
  | .inr (.inr a) => .ref (sx_ad Z a)
theorem sx_cI (Z : sx_Z) (x : Int) : sx_c Z (Sum.inl x) = .int (Int32.ofInt x) := rfl
theorem sx_cL (Z : sx_Z) (x : Int) : sx_c Z (Sum.inr (Sum.inl x)) = .long (Int64.ofInt x) := rfl
theorem sx_cR (Z : sx_Z) (a : Nat) : sx_c Z (Sum.inr (Sum.inr a)) = .ref (sx_ad Z a) := rfl
def sx_rv (Z : sx_Z) (r : Nat) : Option Nat := if r = 0 then none else some (sx_ad Z r)
def sx_fv (Z : sx_Z) (G : kx_G) (μ : kx_M) (ci k j : Nat) : Value := if sx_tag ci j = 1 then va_rf (sx_rv Z (G.2.2 k j)) else .int (Int32.ofInt (μ k j))
def sx_E (Z : sx_Z) (G : kx_G) (μ : kx_M) (k : Nat) : va_E := match (G.1 k).1 with
  | 1 => .inr ((G.1 k).2, (List.range (sx_nf (G.1 k).2)).map (fun j => sx_fv Z G μ (G.1 k).2 k j))
  | 2 => .inl (Z.2.2 2, (G.1 k).2, .inl (fun j => Int32.ofInt (μ k j)))
  | 3 => .inl (Z.2.2 3, (G.1 k).2, .inr (.inl (fun j => Int64.ofInt (μ k j))))
  | 4 => .inl (Z.2.2 4, (G.1 k).2, .inl (fun j => Int32.ofInt (μ k j)))
  | 5 => .inl (Z.2.2 5, (G.1 k).2, .inr (.inr (.inr (.inr (fun j => sx_rv Z (G.2.2 k j))))))
  | 6 => .inl (Z.2.2 6, (G.1 k).2, .inr (.inr (.inr (.inr (fun j => sx_rv Z (G.2.2 k j))))))
  | _ => .inl (Z.2.2 2, 0, .inl (fun _ => 0))
def sx_ws (Z : sx_Z) (G : kx_G) (μ : kx_M) : va_W := (List.range (G.2.1 - 1)).map (fun i => (Z.1 + (i + 1), sx_E Z G μ (i + 1)))
def sx_size (q : Nat × Nat) : Nat := if q.1 = 1 then sx_nf q.2 else q.2
def sx_sl (G : kx_G) : Nat := ((List.range (G.2.1 - 1)).map (fun i => sx_size (G.1 (i + 1)))).sum
def sx_wf (L : Nat) (G : kx_G) : Prop := 1 ≤ G.2.1 ∧ G.2.1 ≤ 100 ∧ (∀ k, 1 ≤ (G.1 k).1 → (G.1 k).1 ≤ 6 → 1 ≤ k ∧ k < G.2.1) ∧ (∀ k, (G.1 k).1 = 1 → (G.1 k).2 < 8) ∧ (∀ k, (G.1 k).1 = 7 → k = 101 ∨ k = 102 ∨ k = 103 ∨ k = 104) ∧ G.1 101 = (7, 6) ∧ G.1 102 = (7, 6) ∧ G.1 103 = (7, 6) ∧ G.1 104 = (7, L) ∧ (∀ k, 2 ≤ (G.1 k).1 → (G.1 k).1 ≤ 6 → (G.1 k).2 ≤ 5000)
def sx_rel (Z : sx_Z) (D : va_G) (L : Nat) (μ0 : kx_M) (G : kx_G) (μ : kx_M) (H : Heap) : Prop := sx_wf L G ∧ (G.2.1 < 91 → H.size = Z.1 + G.2.1) ∧ va_P D sx_cls (sx_ws Z G μ) H ∧ ∀ k, 101 ≤ k → μ k = μ0 k
theorem sx_ws_at {Z : sx_Z} {G : kx_G} {μ : kx_M} {k : Nat} (h1 : 1 ≤ k) (h2 : k < G.2.1) : (sx_ws Z G μ)[k - 1]? = some (Z.1 + k, sx_E Z G μ k) := by
  unfold sx_ws
  rw [List.getElem?_map, List.getElem?_range (by omega)]
  have e : k - 1 + 1 = k := by omega
  simp only [Option.map_some, e]
theorem sx_ws_len {Z : sx_Z} {G : kx_G} {μ : kx_M} : (sx_ws Z G μ).length = G.2.1 - 1 := by simp [sx_ws]
theorem sx_ws_inv {Z : sx_Z} {G : kx_G} {μ : kx_M} {i : Nat} {q : Nat × va_E} (h : (sx_ws Z G μ)[i]? = some q) : i + 1 < G.2.1 ∧ q = (Z.1 + (i + 1), sx_E Z G μ (i + 1)) := by
  have hl : i < G.2.1 - 1 := by
    have := (List.getElem?_eq_some_iff.mp h).1
    rwa [sx_ws_len] at this
  have h2 := sx_ws_at (Z := Z) (μ := μ) (k := i + 1) (by omega) (show i + 1 < G.2.1 by omega)
  rw [show i + 1 - 1 = i from rfl, h] at h2
  exact ⟨by omega, Option.some.inj h2⟩
theorem sx_D (Z : sx_Z) (G : kx_G) (μ : kx_M) : va_D (fun q => Z.1 < q) (sx_ws Z G μ) := by
  refine ⟨fun i j p q hp hq h => ?_, fun k q hk => ?_⟩
  · obtain ⟨-, rfl⟩ := sx_ws_inv hp
    obtain ⟨-, rfl⟩ := sx_ws_inv hq
    simp only at h
    omega
  · obtain ⟨-, rfl⟩ := sx_ws_inv hk
    show Z.1 < Z.1 + (k + 1)
    omega
theorem sx_E_congr {Z : sx_Z} {G G' : kx_G} {μ μ' : kx_M} {k : Nat} (hG : G'.1 k = G.1 k) (hr : ∀ j, G'.2.2 k j = G.2.2 k j) (h : ∀ j, μ' k j = μ k j) : sx_E Z G' μ' k = sx_E Z G μ k := by
  have e1 : μ' k = μ k := funext h
  have e2 : G'.2.2 k = G.2.2 k := funext hr
  unfold sx_E sx_fv
  rw [hG, e1, e2]
/-- a cell is written -/
theorem sx_ws_set {Z : sx_Z} {G G' : kx_G} {μ μ' : kx_M} {a : Nat} {x : va_E} (hn : G'.2.1 = G.2.1) (h1 : 1 ≤ a) (h2 : a < G.2.1) (hx : sx_E Z G' μ' a = x) (ho : ∀ b, b ≠ a → sx_E Z G' μ' b = sx_E Z G μ b) : (sx_ws Z G μ).set (a - 1) (Z.1 + a, x) = sx_ws Z G' μ' := by
  apply List.ext_getElem?
  intro i
  by_cases hi : i + 1 < G.2.1
  · have e1 := sx_ws_at (Z := Z) (G := G') (μ := μ') (k := i + 1) (by omega) (by rw [hn]; exact hi)
    have e0 := sx_ws_at (Z := Z) (G := G) (μ := μ) (k := i + 1) (by omega) hi
    rw [show i + 1 - 1 = i from rfl] at e1 e0
    rw [e1]
    by_cases hia : a - 1 = i
    · subst hia
      have e : a - 1 + 1 = a := by omega
      rw [List.getElem?_set_self (by rw [sx_ws_len]; omega), e, hx]
    · rw [List.getElem?_set_ne hia, e0, ho (i + 1) (by omega)]
  · rw [List.getElem?_eq_none (by rw [List.length_set, sx_ws_len]; omega), List.getElem?_eq_none (by rw [sx_ws_len, hn]; omega)]
theorem sx_ws_push {Z : sx_Z} {G : kx_G} {μ : kx_M} (q : Nat × Nat) (h1 : 1 ≤ G.2.1) : sx_ws Z (kx_new G q) (kx_zero μ G.2.1) = sx_ws Z G μ ++ [(Z.1 + G.2.1, sx_E Z (kx_new G q) (kx_zero μ G.2.1) G.2.1)] := by
  have e : (kx_new G q).2.1 - 1 = (G.2.1 - 1) + 1 := by
    show G.2.1 + 1 - 1 = _
    omega
  unfold sx_ws
  rw [e, List.range_succ, List.map_append]
  congr 1
  · apply List.map_congr_left
    intro i hi
    have hi' := List.mem_range.mp hi
    rw [sx_E_congr (G := G) (μ := μ)]
    · simp only [kx_new, kx_shp]
      rw [if_neg (by omega)]
    · intro j
      simp only [kx_new, kx_zeror]
      rw [if_neg (by omega)]
    · intro j
      simp only [kx_zero]
      rw [if_neg (by omega)]
  · simp only [List.map_cons, List.map_nil]
    rw [show G.2.1 - 1 + 1 = G.2.1 by omega]
theorem sx_sl_push {G : kx_G} (q : Nat × Nat) (h1 : 1 ≤ G.2.1) : sx_sl (kx_new G q) = sx_sl G + sx_size q := by
  have e : (kx_new G q).2.1 - 1 = (G.2.1 - 1) + 1 := by
    show G.2.1 + 1 - 1 = _
    omega
  unfold sx_sl
  rw [e, List.range_succ, List.map_append, List.sum_append]
  congr 1
  · congr 1
    apply List.map_congr_left
    intro i hi
    have hi' := List.mem_range.mp hi
    simp only [kx_new, kx_shp]
    rw [if_neg (by omega)]
  · simp only [List.map_cons, List.map_nil, List.sum_cons, List.sum_nil, Nat.add_zero]
    rw [show G.2.1 - 1 + 1 = G.2.1 by omega]
    simp [kx_new, kx_shp]
theorem sx_wf_new {L : Nat} {G : kx_G} {q : Nat × Nat} (h : sx_wf L G) (hn : G.2.1 + 1 ≤ 100) (hk : 1 ≤ q.1 ∧ q.1 ≤ 6) (hc : q.1 = 1 → q.2 < 8) (hl : 2 ≤ q.1 → q.2 ≤ 5000) : sx_wf L (kx_new G q) := by
  obtain ⟨a1, a2, a3, a4, a5, a6, a7, a8, a9, a10⟩ := h
  have key : ∀ k, (kx_new G q).1 k = if k = G.2.1 then q else G.1 k := fun k => rfl
  refine ⟨?_, ?_, ?_, ?_, ?_, ?_, ?_, ?_, ?_, ?_⟩
  · show 1 ≤ G.2.1 + 1; omega
  · exact hn
  · intro k h1 h2
    show 1 ≤ k ∧ k < G.2.1 + 1
    rw [key] at h1 h2
    by_cases e : k = G.2.1
    · omega
    · rw [if_neg e] at h1 h2; have := a3 k h1 h2; omega
  · intro k h1
    rw [key] at h1 ⊢
    by_cases e : k = G.2.1
    · rw [if_pos e] at h1 ⊢; exact hc h1
    · rw [if_neg e] at h1 ⊢; exact a4 k h1
  · intro k h1
    rw [key] at h1
    by_cases e : k = G.2.1
    · rw [if_pos e] at h1; omega
    · rw [if_neg e] at h1; exact a5 k h1
  · rw [key, if_neg (by omega)]; exact a6
  · rw [key, if_neg (by omega)]; exact a7
  · rw [key, if_neg (by omega)]; exact a8
  · rw [key, if_neg (by omega)]; exact a9
  · intro k h1 h2
    rw [key] at h1 h2 ⊢
    by_cases e : k = G.2.1
    · rw [if_pos e] at h1 h2 ⊢; exact hl h1
    · rw [if_neg e] at h1 h2 ⊢; exact a10 k h1 h2
/-- a cell of a kind is there -/
theorem sx_cell {Z : sx_Z} {D : va_G} {L : Nat} {μ0 : kx_M} {G : kx_G} {μ : kx_M} {H : Heap} (h : sx_rel Z D L μ0 G μ H) {a : Nat} (h1 : 1 ≤ (G.1 a).1) (h6 : (G.1 a).1 ≤ 6) : 1 ≤ a ∧ a < G.2.1 ∧ sx_ad Z a = Z.1 + a ∧ (sx_ws Z G μ)[a - 1]? = some (sx_ad Z a, sx_E Z G μ a) := by
  obtain ⟨⟨b1, b2, b3, -⟩, -⟩ := h
  obtain ⟨c1, c2⟩ := b3 a h1 h6
  have e : sx_ad Z a = Z.1 + a := by unfold sx_ad; rw [if_pos (by omega)]
  exact ⟨c1, c2, e, by rw [e]; exact sx_ws_at c1 c2⟩
end
section
/-! locals -/
theorem kx_get_put (ls : kx_L) (i : Nat) (v : Option kx_V) (j : Nat) : kx_get (kx_put ls i v) j = if j = i ∧ i < ls.length then v else kx_get ls j := by
  induction ls generalizing i j with
  | nil => simp [kx_put, kx_get]
  | cons x l ih =>
    cases i with
    | zero => cases j with
      | zero => simp [kx_put, kx_get]
      | succ j => simp [kx_put, kx_get]
    | succ i => cases j with
      | zero => simp [kx_put, kx_get]
      | succ j =>
        simp only [kx_put, kx_get]
        rw [ih]
        simp
theorem kx_put_len (ls : kx_L) (i : Nat) (v : Option kx_V) : (kx_put ls i v).length = ls.length := by
  induction ls generalizing i with
  | nil => rfl
  | cons x l ih => cases i with
    | zero => rfl
    | succ i => simp [kx_put, ih]
theorem kx_clr_len (ls : kx_L) (i : Nat) : (kx_clr ls i).length = ls.length := by
  unfold kx_clr
  split
  · rfl
  · split
    · exact kx_put_len _ _ _
    · rfl
theorem kx_get_len {ls : kx_L} {i : Nat} {v : kx_V} (h : kx_get ls i = some v) : i < ls.length := by
  induction ls generalizing i with
  | nil => simp [kx_get] at h
  | cons x l ih => cases i with
    | zero => simp
    | succ i => simp only [kx_get] at h; have := ih h; simp; omega
/-- what is held behind the clearing ahead of place i: all but a long at i - 1 -/
theorem kx_get_clr {ls : kx_L} {i j : Nat} {w : kx_V} (h : kx_get (kx_clr ls i) j = some w) : kx_get ls j = some w ∧ ¬ (j + 1 = i ∧ kx_cat w = 2) := by
  unfold kx_clr at h
  split at h
  · exact ⟨h, fun q => by omega⟩
  · rename_i k
    split at h
    · rename_i x hx
      rw [kx_get_put] at h
      by_cases e : j = k ∧ k < ls.length
      · rw [if_pos e] at h; cases h
      · rw [if_neg e] at h
        refine ⟨h, fun q => e ⟨by omega, kx_get_len hx⟩⟩
    · rename_i hx
      refine ⟨h, fun q => ?_⟩
      have : j = k := by omega
      subst this
      match w, h, q with
      | .inr (.inl x), h, _ => exact hx x h
      | .inl _, _, q => simp [kx_cat] at q
      | .inr (.inr _), _, q => simp [kx_cat] at q
theorem sx_cat (Z : sx_Z) (v : kx_V) : (sx_c Z v).category = kx_cat v := by
  match v with
  | .inl _ => rfl
  | .inr (.inl _) => rfl
  | .inr (.inr _) => rfl
def sx_lv (Z : sx_Z) (lsA : Array Slot) (nL : Nat) (ls : kx_L) : Prop := ls.length = nL ∧ lsA.size = nL ∧ lv_wf lsA ∧ ∀ i v, kx_get ls i = some v → lsA[i]? = some (.val (sx_c Z v))
def sx_ll (Z : sx_Z) (ls : kx_L) : List (Nat × Value) := (List.range ls.length).filterMap (fun i => (kx_get ls i).map (fun v => (i, sx_c Z v)))
theorem sx_ll_mem {Z : sx_Z} {ls : kx_L} {q : Nat × Value} : q ∈ sx_ll Z ls ↔ ∃ v, kx_get ls q.1 = some v ∧ q.2 = sx_c Z v := by
  unfold sx_ll
  rw [List.mem_filterMap]
  constructor
  · rintro ⟨i, -, h⟩
    cases hg : kx_get ls i with
    | none => rw [hg] at h; cases h
    | some v => rw [hg] at h; cases h; exact ⟨v, hg, rfl⟩
  · rintro ⟨v, h1, h2⟩
    refine ⟨q.1, List.mem_range.mpr (kx_get_len h1), ?_⟩
    rw [h1]
    show some (q.1, sx_c Z v) = some q
    rw [← h2]
theorem sx_lv_has {Z : sx_Z} {lsA : Array Slot} {nL : Nat} {ls : kx_L} (h : sx_lv Z lsA nL ls) : lv_has lsA nL (sx_ll Z ls) := by
  refine ⟨h.2.1, h.2.2.1, fun q hq => ?_⟩
  obtain ⟨v, h1, h2⟩ := sx_ll_mem.mp hq
  rw [h2]
  exact h.2.2.2 _ _ h1
theorem sx_lv_set1 {Z : sx_Z} {lsA : Array Slot} {nL : Nat} {ls : kx_L} {i : Nat} {v : kx_V} (hl : ls.length = nL) (hi : i < nL) (h : lv_has lsA nL ((i, sx_c Z v) :: (sx_ll Z ls).filter (fun q => !(q.1 == i) && !(q.1 + 1 == i && q.2.category == 2)))) : sx_lv Z lsA nL (kx_set1 ls i v) := by
  refine ⟨?_, h.1, h.2.1, fun j w hw => ?_⟩
  · unfold kx_set1; rw [kx_put_len, kx_clr_len]; exact hl
  · unfold kx_set1 at hw
    rw [kx_get_put] at hw
    by_cases e : j = i ∧ i < (kx_clr ls i).length
    · rw [if_pos e] at hw
      cases hw
      rw [e.1]
      exact h.2.2 (i, sx_c Z v) List.mem_cons_self
    · rw [if_neg e] at hw
      have hne : ¬ j = i := fun q => e ⟨q, by rw [kx_clr_len, hl]; exact hi⟩
      obtain ⟨g1, g2⟩ := kx_get_clr hw
      refine h.2.2 (j, sx_c Z w) (List.mem_cons_of_mem _ (List.mem_filter.mpr ⟨sx_ll_mem.mpr ⟨w, g1, rfl⟩, ?_⟩))
      simp only [sx_cat]
      simp only [Bool.and_eq_true, Bool.not_eq_true', beq_eq_false_iff_ne, ne_eq, Bool.and_eq_false_iff]
      refine ⟨hne, ?_⟩
      by_cases z : j + 1 = i
      · exact Or.inr (fun q => g2 ⟨z, q⟩)
      · exact Or.inl z
theorem sx_lv_set2 {Z : sx_Z} {lsA : Array Slot} {nL : Nat} {ls : kx_L} {i : Nat} {v : kx_V} (hl : ls.length = nL) (hi : i + 1 < nL) (h : lv_has lsA nL ((i, sx_c Z v) :: (sx_ll Z ls).filter (fun q => !(q.1 == i) && (!(q.1 == i + 1) && !(q.1 + 1 == i && q.2.category == 2))))) : sx_lv Z lsA nL (kx_set2 ls i v) := by
  refine ⟨?_, h.1, h.2.1, fun j w hw => ?_⟩
  · unfold kx_set2; rw [kx_put_len, kx_put_len, kx_clr_len]; exact hl
  · unfold kx_set2 at hw
    rw [kx_get_put, kx_get_put, kx_put_len, kx_clr_len] at hw
    by_cases e1 : j = i + 1 ∧ i + 1 < ls.length
    · rw [if_pos e1] at hw; cases hw
    · rw [if_neg e1] at hw
      have hne1 : ¬ j = i + 1 := fun q => e1 ⟨q, by omega⟩
      by_cases e : j = i ∧ i < ls.length
      · rw [if_pos e] at hw
        cases hw
        rw [e.1]
        exact h.2.2 (i, sx_c Z v) List.mem_cons_self
      · rw [if_neg e] at hw
        have hne : ¬ j = i := fun q => e ⟨q, by omega⟩
        obtain ⟨g1, g2⟩ := kx_get_clr hw
        refine h.2.2 (j, sx_c Z w) (List.mem_cons_of_mem _ (List.mem_filter.mpr ⟨sx_ll_mem.mpr ⟨w, g1, rfl⟩, ?_⟩))
        simp only [sx_cat]
        simp only [Bool.and_eq_true, Bool.not_eq_true', beq_eq_false_iff_ne, ne_eq, Bool.and_eq_false_iff]
        refine ⟨hne, hne1, ?_⟩
        by_cases z : j + 1 = i
        · exact Or.inr (fun q => g2 ⟨z, q⟩)
        · exact Or.inl z
theorem sx_cats (Z : sx_Z) (st : List kx_V) : ((st.map (sx_c Z)).map fun v => v.category).sum = kx_cats st := by
  induction st with
  | nil => rfl
  | cons v l ih => simp only [List.map_cons, List.sum_cons, kx_cats, ih, sx_cat]
/-- the locals at a method's start -/
theorem sx_ent (Z : sx_Z) : ∀ (as : List kx_V) (k : Nat), ∀ i v, kx_get (kx_ent as) i = some v → (k + i, sx_c Z v) ∈ lv_args k (as.map (sx_c Z)) := by
  intro as
  induction as with
  | nil => intro k i v h; simp [kx_ent, kx_get] at h
  | cons w l ih =>
    intro k i v h
    simp only [kx_ent] at h
    simp only [List.map_cons, lv_args, sx_cat]
    by_cases hc : kx_cat w = 2
    · rw [if_pos hc] at h
      rw [if_pos hc]
      match i, h with
      | 0, h => simp only [kx_get] at h; cases h; exact List.mem_cons_self
      | 1, h => simp [kx_get] at h
      | i + 2, h =>
        simp only [kx_get] at h
        have := ih (k + 2) i v h
        rw [show k + (i + 2) = k + 2 + i by omega]
        exact List.mem_cons_of_mem _ this
    · rw [if_neg hc] at h
      rw [if_neg hc]
      match i, h with
      | 0, h => simp only [kx_get] at h; cases h; exact List.mem_cons_self
      | i + 1, h =>
        simp only [kx_get] at h
        have := ih (k + 1) i v h
        rw [show k + (i + 1) = k + 1 + i by omega]
        exact List.mem_cons_of_mem _ this
theorem sx_ent_len (Z : sx_Z) (as : List kx_V) : (kx_ent as).length = (lg_sl (as.map (sx_c Z))).length := by
  induction as with
  | nil => rfl
  | cons w l ih =>
    simp only [kx_ent, List.map_cons, lg_sl, List.flatMap_cons, List.length_append, sx_cat]
    unfold lg_sl at ih
    by_cases hc : kx_cat w = 2
    · rw [if_pos hc]; simp [hc, ih]; omega
    · rw [if_neg hc]; simp [hc, ih]; omega
theorem kx_get_none : ∀ (k i : Nat), kx_get (List.replicate k none) i = none := by
  intro k
  induction k with
  | zero => intro i; rfl
  | succ k ihk => intro i; cases i with
    | zero => rfl
    | succ i => exact ihk i
theorem kx_get_app (l : kx_L) (k i : Nat) {v : kx_V} (h : kx_get (l ++ List.replicate k none) i = some v) : kx_get l i = some v := by
  induction l generalizing i with
  | nil => rw [List.nil_append, kx_get_none] at h; cases h
  | cons x l ih =>
    cases i with
    | zero => exact h
    | succ i => exact ih i h
theorem kx_get_pad (l : kx_L) (n i : Nat) {v : kx_V} (h : kx_get (kx_pad l n) i = some v) : kx_get l i = some v := kx_get_app l _ i h
theorem sx_lv_ent {Z : sx_Z} {as : List kx_V} {n : Nat} (h : (kx_ent as).length ≤ n) : sx_lv Z ((lg_sl (as.map (sx_c Z)) ++ List.replicate (n - (lg_sl (as.map (sx_c Z))).length) Slot.unset).toArray) n (kx_pad (kx_ent as) n) := by
  have hl := lv_entry (as.map (sx_c Z)) (n := n) (by rw [← sx_ent_len Z]; exact h)
  refine ⟨?_, hl.1, hl.2.1, fun i v hv => ?_⟩
  · simp [kx_pad]; omega
  · have := sx_ent Z as 0 i v (kx_get_pad _ _ _ hv)
    rw [Nat.zero_add] at this
    exact hl.2.2 _ this
end
section
/-! what holds in a method: the tables' words, the outer cells -/
def sx_tb : List Jvm.Cond := lw_tbl.filter goodWord
theorem sx_good : ∀ w ∈ sx_tb, w ∈ lw_tbl ∧ goodWord w = true := fun w h => List.mem_filter.mp h
def sx_tys (Z : sx_Z) : List (ClassId × FieldType) := [(Z.2.2 2, .int), (Z.2.2 3, .long), (Z.2.2 4, .boolean), (Z.2.2 5, .object "HatOrders$Row"), (Z.2.2 6, .object "HatOrders$Town")]
def sx_nests : List Jvm.Cond := lw_tbl.filter (fun w => match w with
  | .methodLinkNest _ _ _ _ => true
  | _ => false)
def sx_stn (k : Nat) : String := if k = 101 then "WIDER" else if k = 102 then "SIZE_BODIES" else "MARK_BODIES"
/-- the outer cells: three static tables, the script, the text -/
def sx_ext (Z : sx_Z) (D : va_G) (L : Nat) (μ0 : kx_M) (U : State) : Prop :=
  va_K D sx_cls (sx_tys Z) U ∧ Z.1 < U.heap.size ∧
  (∀ k, k = 101 ∨ k = 102 ∨ k = 103 → va_Z "HatOrders$Kinds" (sx_stn k) "[I" (.ref (Z.2.1 k)) (fun q => Z.1 < q) U U.heap ∧ va_T .int (Z.2.1 k) 6 (fun j => .int (Int32.ofInt (μ0 k j))) (fun q => Z.1 < q) U U.heap) ∧
  (va_X (Z.2.1 104) L (fun j => Int32.ofInt (μ0 104 j)) U U.heap ∧ Z.2.1 104 ≤ Z.1) ∧ L ≤ 5000 ∧
  (∀ w ∈ sx_nests, va_Nw w U) ∧ va_AO "HatOrders$Row" U ∧ va_AO "HatOrders$Town" U ∧
  (vk_R "HatOrders$Kinds" 9 "fstwb" (Z.2.1 105) U ∧ va_O "java/lang/String" (Z.2.1 105) (fun q => Z.1 < q) U U.heap ∧ va_OF "java/lang/String" "coder" "B" (.int 0) (Z.2.1 105) (fun q => Z.1 < q) U U.heap ∧ va_OF "java/lang/String" "value" "[B" (.ref (Z.2.1 106)) (Z.2.1 105) (fun q => Z.1 < q) U U.heap ∧ va_T .byte (Z.2.1 106) 5 (fun j => .int (Int32.ofInt (μ0 106 j))) (fun q => Z.1 < q) U U.heap ∧ va_Z "java/lang/String" "COMPACT_STRINGS" "Z" (.int 1) (fun q => Z.1 < q) U U.heap)
theorem sx_nest_warm {w : Jvm.Cond} (hw : w ∈ sx_nests) {s U : State} (hW : s.WarmedH U.vm) (h : va_Nw w s) : va_Nw w U := by
  have h1 := (List.mem_filter.mp hw).2
  cases w <;> first | (simp at h1; done) | exact va_Nw.warmM hW h
/-- outer cells stay, where the heap below is as it was -/
theorem sx_ext_moved {Z : sx_Z} {D : va_G} {L : Nat} {μ0 : kx_M} {s U : State} (h : sx_ext Z D L μ0 s) (hW : s.WarmedH U.vm) (hs : s.heap.size ≤ U.heap.size) (hq : ∀ q : Nat, q < s.heap.size → ¬ Z.1 < q → U.heap[q]? = s.heap[q]?) : sx_ext Z D L μ0 U := by
  obtain ⟨h1, h2, h3, ⟨h4, h5⟩, h6, h7, h8, h9, t1, t2, t3, t4, t5, t6⟩ := h
  refine ⟨h1.moved hW.alike, by omega, fun k hk => ?_, ⟨?_, h5⟩, h6, fun w hw => sx_nest_warm hw hW (h7 w hw), h8.moved hW.alike, h9.moved hW.alike, t1.warm hW, (t2.kept hq).moved hW.alike, (t3.kept hq).moved hW.alike, (t4.kept hq).moved hW.alike, (t5.kept hq).moved hW.alike, (t6.kept hq).moved hW.alike⟩
  · obtain ⟨g1, g2⟩ := h3 k hk
    exact ⟨(g1.kept hq).moved hW.alike, (g2.kept hq).moved hW.alike⟩
  · exact (h4.kept (hq _ (by omega) (by omega))).moved hW.alike
def sx_C (p : Program) (s : State) (m : MethodId) (args : Array Value) (c : Code) (cc : ByteArray) (nL : Nat) (own : String) (Z : sx_Z) (D : va_G) (L : Nat) (μ0 : kx_M) : Prop :=
  p.tables.exec = Jvm.exec ∧ c.code = cc ∧ c.maxLocals = nL ∧ s.vm.findClass own = some m.cls ∧ (∀ w ∈ sx_tb, w.before args s = true) ∧ sx_ext Z D L μ0 s
def sx_at (p : Program) (l : Launch) (e : Env) (R : Room) (s : State) (m : MethodId) (args : Array Value) (below : List Frame) (meth : Method) (c : Code) (nL : Nat) (Z : sx_Z) (D : va_G) (L : Nat) (μ0 : kx_M) (n0 s0 : Nat) (Qf : State → Prop) (pc : Nat) (ls : kx_L) (st : List kx_V) (G : kx_G) (μ : kx_M) : Prop :=
  ∀ (H : Heap) (locs : List Loc) (lsA : Array Slot), sx_rel Z D L μ0 G μ H → va_S (fun q => Z.1 < q) s.heap H locs → sx_lv Z lsA nL ls → n0 ≤ G.2.1 → s0 ≤ sx_sl G → W p l e R s m args below meth c H locs (G.2.1 - n0) (sx_sl G - s0) Qf (F0 m pc lsA (st.map (sx_c Z)))
end
section
section SI
variable {p : Program} {l : Launch} {e : Env} {R : Room} {s : State} {m : MethodId} {args : Array Value} {below : List Frame} {meth : Method} {c : Code} {cc : ByteArray} {nL L n0 s0 : Nat} {own : String} {Z : sx_Z} {D : va_G} {μ0 : kx_M} {Qf : State → Prop} {pc : Nat} {ls : kx_L} {st : List kx_V} {G : kx_G} {μ : kx_M}
theorem si_iadd {a b : Int} (C : sx_C p s m args c cc nL own Z D L μ0) (hd : decode cc pc = .ok (.iadd, 1)) (h : sx_at p l e R s m args below meth c nL Z D L μ0 n0 s0 Qf (pc + 1) ls (kI (a + b) :: st) G μ) : sx_at p l e R s m args below meth c nL Z D L μ0 n0 s0 Qf pc ls (kI (b) :: kI (a) :: st) G μ := by
  intro H locs lsA hR hS hl hn hs
  obtain ⟨hx, hb, hml, hown, hts, hE⟩ := C
  have h := h H locs lsA hR hS hl hn hs
  change W p l e R s m args below meth c H locs _ _ Qf (F0 m _ lsA (.int (Int32.ofInt (a + b)) :: st.map (sx_c Z))) at h
  change W p l e R s m args below meth c H locs _ _ Qf (F0 m pc lsA (.int (Int32.ofInt (b)) :: .int (Int32.ofInt (a)) :: st.map (sx_c Z)))
  rw [Int32.ofInt_add] at h
  exact lv_iadd hx hb hd h
theorem si_isub {a b : Int} (C : sx_C p s m args c cc nL own Z D L μ0) (hd : decode cc pc = .ok (.isub, 1)) (h : sx_at p l e R s m args below meth c nL Z D L μ0 n0 s0 Qf (pc + 1) ls (kI (a - b) :: st) G μ) : sx_at p l e R s m args below meth c nL Z D L μ0 n0 s0 Qf pc ls (kI (b) :: kI (a) :: st) G μ := by
  intro H locs lsA hR hS hl hn hs
  obtain ⟨hx, hb, hml, hown, hts, hE⟩ := C
  have h := h H locs lsA hR hS hl hn hs
  change W p l e R s m args below meth c H locs _ _ Qf (F0 m _ lsA (.int (Int32.ofInt (a - b)) :: st.map (sx_c Z))) at h
  change W p l e R s m args below meth c H locs _ _ Qf (F0 m pc lsA (.int (Int32.ofInt (b)) :: .int (Int32.ofInt (a)) :: st.map (sx_c Z)))
  rw [Int32.ofInt_sub] at h
  exact lv_isub hx hb hd h
theorem si_imul {a b : Int} (C : sx_C p s m args c cc nL own Z D L μ0) (hd : decode cc pc = .ok (.imul, 1)) (h : sx_at p l e R s m args below meth c nL Z D L μ0 n0 s0 Qf (pc + 1) ls (kI (a * b) :: st) G μ) : sx_at p l e R s m args below meth c nL Z D L μ0 n0 s0 Qf pc ls (kI (b) :: kI (a) :: st) G μ := by
  intro H locs lsA hR hS hl hn hs
  obtain ⟨hx, hb, hml, hown, hts, hE⟩ := C
  have h := h H locs lsA hR hS hl hn hs
  change W p l e R s m args below meth c H locs _ _ Qf (F0 m _ lsA (.int (Int32.ofInt (a * b)) :: st.map (sx_c Z))) at h
  change W p l e R s m args below meth c H locs _ _ Qf (F0 m pc lsA (.int (Int32.ofInt (b)) :: .int (Int32.ofInt (a)) :: st.map (sx_c Z)))
  rw [Int32.ofInt_mul] at h
  exact lv_imul hx hb hd h
theorem si_iand {a b : Int} (C : sx_C p s m args c cc nL own Z D L μ0) (hd : decode cc pc = .ok (.iand, 1)) (h : sx_at p l e R s m args below meth c nL Z D L μ0 n0 s0 Qf (pc + 1) ls (kI (kx_and a b) :: st) G μ) : sx_at p l e R s m args below meth c nL Z D L μ0 n0 s0 Qf pc ls (kI (b) :: kI (a) :: st) G μ := by
  intro H locs lsA hR hS hl hn hs
  obtain ⟨hx, hb, hml, hown, hts, hE⟩ := C
  have h := h H locs lsA hR hS hl hn hs
  change W p l e R s m args below meth c H locs _ _ Qf (F0 m _ lsA (.int (Int32.ofInt (kx_and a b)) :: st.map (sx_c Z))) at h
  change W p l e R s m args below meth c H locs _ _ Qf (F0 m pc lsA (.int (Int32.ofInt (b)) :: .int (Int32.ofInt (a)) :: st.map (sx_c Z)))
  rw [sx_and] at h
  exact lv_iand hx hb hd h
theorem si_ior {a b : Int} (C : sx_C p s m args c cc nL own Z D L μ0) (hd : decode cc pc = .ok (.ior, 1)) (h : sx_at p l e R s m args below meth c nL Z D L μ0 n0 s0 Qf (pc + 1) ls (kI (kx_or a b) :: st) G μ) : sx_at p l e R s m args below meth c nL Z D L μ0 n0 s0 Qf pc ls (kI (b) :: kI (a) :: st) G μ := by
  intro H locs lsA hR hS hl hn hs
  obtain ⟨hx, hb, hml, hown, hts, hE⟩ := C
  have h := h H locs lsA hR hS hl hn hs
  change W p l e R s m args below meth c H locs _ _ Qf (F0 m _ lsA (.int (Int32.ofInt (kx_or a b)) :: st.map (sx_c Z))) at h
  change W p l e R s m args below meth c H locs _ _ Qf (F0 m pc lsA (.int (Int32.ofInt (b)) :: .int (Int32.ofInt (a)) :: st.map (sx_c Z)))
  rw [sx_or] at h
  exact lv_ior hx hb hd h
theorem si_ixor {a b : Int} (C : sx_C p s m args c cc nL own Z D L μ0) (hd : decode cc pc = .ok (.ixor, 1)) (h : sx_at p l e R s m args below meth c nL Z D L μ0 n0 s0 Qf (pc + 1) ls (kI (kx_xor a b) :: st) G μ) : sx_at p l e R s m args below meth c nL Z D L μ0 n0 s0 Qf pc ls (kI (b) :: kI (a) :: st) G μ := by
  intro H locs lsA hR hS hl hn hs
  obtain ⟨hx, hb, hml, hown, hts, hE⟩ := C
  have h := h H locs lsA hR hS hl hn hs
  change W p l e R s m args below meth c H locs _ _ Qf (F0 m _ lsA (.int (Int32.ofInt (kx_xor a b)) :: st.map (sx_c Z))) at h
  change W p l e R s m args below meth c H locs _ _ Qf (F0 m pc lsA (.int (Int32.ofInt (b)) :: .int (Int32.ofInt (a)) :: st.map (sx_c Z)))
  rw [sx_xor] at h
  exact lv_ixor hx hb hd h
theorem si_idiv {a b : Int} (C : sx_C p s m args c cc nL own Z D L μ0) (hd : decode cc pc = .ok (.idiv, 1)) (ha : kx_in a) (hbb : kx_in b) (hz : b ≠ 0) (h : sx_at p l e R s m args below meth c nL Z D L μ0 n0 s0 Qf (pc + 1) ls (kI (a.tdiv b) :: st) G μ) : sx_at p l e R s m args below meth c nL Z D L μ0 n0 s0 Qf pc ls (kI (b) :: kI (a) :: st) G μ := by
  intro H locs lsA hR hS hl hn hs
  obtain ⟨hx, hb, hml, hown, hts, hE⟩ := C
  have h := h H locs lsA hR hS hl hn hs
  change W p l e R s m args below meth c H locs _ _ Qf (F0 m _ lsA (.int (Int32.ofInt (a.tdiv b)) :: st.map (sx_c Z))) at h
  change W p l e R s m args below meth c H locs _ _ Qf (F0 m pc lsA (.int (Int32.ofInt (b)) :: .int (Int32.ofInt (a)) :: st.map (sx_c Z)))
  rw [sx_div ha hbb] at h
  exact lv_idiv hx hb hd (sx_ne0 hbb hz) h
theorem si_irem {a b : Int} (C : sx_C p s m args c cc nL own Z D L μ0) (hd : decode cc pc = .ok (.irem, 1)) (ha : kx_in a) (hbb : kx_in b) (hz : b ≠ 0) (h : sx_at p l e R s m args below meth c nL Z D L μ0 n0 s0 Qf (pc + 1) ls (kI (a.tmod b) :: st) G μ) : sx_at p l e R s m args below meth c nL Z D L μ0 n0 s0 Qf pc ls (kI (b) :: kI (a) :: st) G μ := by
  intro H locs lsA hR hS hl hn hs
  obtain ⟨hx, hb, hml, hown, hts, hE⟩ := C
  have h := h H locs lsA hR hS hl hn hs
  change W p l e R s m args below meth c H locs _ _ Qf (F0 m _ lsA (.int (Int32.ofInt (a.tmod b)) :: st.map (sx_c Z))) at h
  change W p l e R s m args below meth c H locs _ _ Qf (F0 m pc lsA (.int (Int32.ofInt (b)) :: .int (Int32.ofInt (a)) :: st.map (sx_c Z)))
  rw [sx_rem ha hbb] at h
  exact lv_irem hx hb hd (sx_ne0 hbb hz) h
theorem si_ineg {a : Int} (C : sx_C p s m args c cc nL own Z D L μ0) (hd : decode cc pc = .ok (.ineg, 1)) (h : sx_at p l e R s m args below meth c nL Z D L μ0 n0 s0 Qf (pc + 1) ls (kI (-a) :: st) G μ) : sx_at p l e R s m args below meth c nL Z D L μ0 n0 s0 Qf pc ls (kI (a) :: st) G μ := by
  intro H locs lsA hR hS hl hn hs
  obtain ⟨hx, hb, hml, hown, hts, hE⟩ := C
  have h := h H locs lsA hR hS hl hn hs
  change W p l e R s m args below meth c H locs _ _ Qf (F0 m _ lsA (.int (Int32.ofInt (-a)) :: st.map (sx_c Z))) at h
  change W p l e R s m args below meth c H locs _ _ Qf (F0 m pc lsA (.int (Int32.ofInt (a)) :: st.map (sx_c Z)))
  rw [Int32.ofInt_neg] at h
  exact lv_ineg hx hb hd h
theorem si_ishl {a b : Int} (C : sx_C p s m args c cc nL own Z D L μ0) (hd : decode cc pc = .ok (.ishl, 1)) (h0 : 0 ≤ b) (h1 : b < 32) (h : sx_at p l e R s m args below meth c nL Z D L μ0 n0 s0 Qf (pc + 1) ls (kI (a * 2 ^ b.toNat) :: st) G μ) : sx_at p l e R s m args below meth c nL Z D L μ0 n0 s0 Qf pc ls (kI (b) :: kI (a) :: st) G μ := by
  intro H locs lsA hR hS hl hn hs
  obtain ⟨hx, hb, hml, hown, hts, hE⟩ := C
  have h := h H locs lsA hR hS hl hn hs
  change W p l e R s m args below meth c H locs _ _ Qf (F0 m _ lsA (.int (Int32.ofInt (a * 2 ^ b.toNat)) :: st.map (sx_c Z))) at h
  change W p l e R s m args below meth c H locs _ _ Qf (F0 m pc lsA (.int (Int32.ofInt (b)) :: .int (Int32.ofInt (a)) :: st.map (sx_c Z)))
  rw [sx_shl h0 h1] at h
  exact lv_ishl hx hb hd h
theorem si_ishr {a b : Int} (C : sx_C p s m args c cc nL own Z D L μ0) (hd : decode cc pc = .ok (.ishr, 1)) (h0 : 0 ≤ b) (h1 : b < 32) (h : sx_at p l e R s m args below meth c nL Z D L μ0 n0 s0 Qf (pc + 1) ls (kI (a.bmod 4294967296 / 2 ^ b.toNat) :: st) G μ) : sx_at p l e R s m args below meth c nL Z D L μ0 n0 s0 Qf pc ls (kI (b) :: kI (a) :: st) G μ := by
  intro H locs lsA hR hS hl hn hs
  obtain ⟨hx, hb, hml, hown, hts, hE⟩ := C
  have h := h H locs lsA hR hS hl hn hs
  change W p l e R s m args below meth c H locs _ _ Qf (F0 m _ lsA (.int (Int32.ofInt (a.bmod 4294967296 / 2 ^ b.toNat)) :: st.map (sx_c Z))) at h
  change W p l e R s m args below meth c H locs _ _ Qf (F0 m pc lsA (.int (Int32.ofInt (b)) :: .int (Int32.ofInt (a)) :: st.map (sx_c Z)))
  rw [sx_shr h0 h1] at h
  exact lv_ishr hx hb hd h
theorem si_iushr {a b : Int} (C : sx_C p s m args c cc nL own Z D L μ0) (hd : decode cc pc = .ok (.iushr, 1)) (h0 : 0 ≤ b) (h1 : b < 32) (h2 : 0 ≤ a) (h3 : a ≤ 2147483647) (h : sx_at p l e R s m args below meth c nL Z D L μ0 n0 s0 Qf (pc + 1) ls (kI (a / 2 ^ b.toNat) :: st) G μ) : sx_at p l e R s m args below meth c nL Z D L μ0 n0 s0 Qf pc ls (kI (b) :: kI (a) :: st) G μ := by
  intro H locs lsA hR hS hl hn hs
  obtain ⟨hx, hb, hml, hown, hts, hE⟩ := C
  have h := h H locs lsA hR hS hl hn hs
  change W p l e R s m args below meth c H locs _ _ Qf (F0 m _ lsA (.int (Int32.ofInt (a / 2 ^ b.toNat)) :: st.map (sx_c Z))) at h
  change W p l e R s m args below meth c H locs _ _ Qf (F0 m pc lsA (.int (Int32.ofInt (b)) :: .int (Int32.ofInt (a)) :: st.map (sx_c Z)))
  exact lv_iushr hx hb hd (sx_ushr h0 h1 h2 h3) h
theorem si_ladd {a b : Int} (C : sx_C p s m args c cc nL own Z D L μ0) (hd : decode cc pc = .ok (.ladd, 1)) (h : sx_at p l e R s m args below meth c nL Z D L μ0 n0 s0 Qf (pc + 1) ls (kL (a + b) :: st) G μ) : sx_at p l e R s m args below meth c nL Z D L μ0 n0 s0 Qf pc ls (kL (b) :: kL (a) :: st) G μ := by
  intro H locs lsA hR hS hl hn hs
  obtain ⟨hx, hb, hml, hown, hts, hE⟩ := C
  have h := h H locs lsA hR hS hl hn hs
  change W p l e R s m args below meth c H locs _ _ Qf (F0 m _ lsA (.long (Int64.ofInt (a + b)) :: st.map (sx_c Z))) at h
  change W p l e R s m args below meth c H locs _ _ Qf (F0 m pc lsA (.long (Int64.ofInt (b)) :: .long (Int64.ofInt (a)) :: st.map (sx_c Z)))
  rw [Int64.ofInt_add] at h
  exact lv_ladd hx hb hd h
theorem si_lsub {a b : Int} (C : sx_C p s m args c cc nL own Z D L μ0) (hd : decode cc pc = .ok (.lsub, 1)) (h : sx_at p l e R s m args below meth c nL Z D L μ0 n0 s0 Qf (pc + 1) ls (kL (a - b) :: st) G μ) : sx_at p l e R s m args below meth c nL Z D L μ0 n0 s0 Qf pc ls (kL (b) :: kL (a) :: st) G μ := by
  intro H locs lsA hR hS hl hn hs
  obtain ⟨hx, hb, hml, hown, hts, hE⟩ := C
  have h := h H locs lsA hR hS hl hn hs
  change W p l e R s m args below meth c H locs _ _ Qf (F0 m _ lsA (.long (Int64.ofInt (a - b)) :: st.map (sx_c Z))) at h
  change W p l e R s m args below meth c H locs _ _ Qf (F0 m pc lsA (.long (Int64.ofInt (b)) :: .long (Int64.ofInt (a)) :: st.map (sx_c Z)))
  rw [Int64.ofInt_sub] at h
  exact lv_lsub hx hb hd h
theorem si_lor {a b : Int} (C : sx_C p s m args c cc nL own Z D L μ0) (hd : decode cc pc = .ok (.lor, 1)) (h : sx_at p l e R s m args below meth c nL Z D L μ0 n0 s0 Qf (pc + 1) ls (kL (kx_lor a b) :: st) G μ) : sx_at p l e R s m args below meth c nL Z D L μ0 n0 s0 Qf pc ls (kL (b) :: kL (a) :: st) G μ := by
  intro H locs lsA hR hS hl hn hs
  obtain ⟨hx, hb, hml, hown, hts, hE⟩ := C
  have h := h H locs lsA hR hS hl hn hs
  change W p l e R s m args below meth c H locs _ _ Qf (F0 m _ lsA (.long (Int64.ofInt (kx_lor a b)) :: st.map (sx_c Z))) at h
  change W p l e R s m args below meth c H locs _ _ Qf (F0 m pc lsA (.long (Int64.ofInt (b)) :: .long (Int64.ofInt (a)) :: st.map (sx_c Z)))
  rw [sx_lor] at h
  exact lv_lor hx hb hd h
theorem si_lshl {a b : Int} (C : sx_C p s m args c cc nL own Z D L μ0) (hd : decode cc pc = .ok (.lshl, 1)) (h0 : 0 ≤ b) (h1 : b < 64) (h : sx_at p l e R s m args below meth c nL Z D L μ0 n0 s0 Qf (pc + 1) ls (kL (a * 2 ^ b.toNat) :: st) G μ) : sx_at p l e R s m args below meth c nL Z D L μ0 n0 s0 Qf pc ls (kI (b) :: kL (a) :: st) G μ := by
  intro H locs lsA hR hS hl hn hs
  obtain ⟨hx, hb, hml, hown, hts, hE⟩ := C
  have h := h H locs lsA hR hS hl hn hs
  change W p l e R s m args below meth c H locs _ _ Qf (F0 m _ lsA (.long (Int64.ofInt (a * 2 ^ b.toNat)) :: st.map (sx_c Z))) at h
  change W p l e R s m args below meth c H locs _ _ Qf (F0 m pc lsA (.int (Int32.ofInt (b)) :: .long (Int64.ofInt (a)) :: st.map (sx_c Z)))
  exact lv_lshl hx hb hd (sx_lsh h0 h1 a) h
theorem si_i2l {a : Int} (C : sx_C p s m args c cc nL own Z D L μ0) (hd : decode cc pc = .ok (.i2l, 1)) (ha : kx_in a) (h : sx_at p l e R s m args below meth c nL Z D L μ0 n0 s0 Qf (pc + 1) ls (kL (a) :: st) G μ) : sx_at p l e R s m args below meth c nL Z D L μ0 n0 s0 Qf pc ls (kI (a) :: st) G μ := by
  intro H locs lsA hR hS hl hn hs
  obtain ⟨hx, hb, hml, hown, hts, hE⟩ := C
  have h := h H locs lsA hR hS hl hn hs
  change W p l e R s m args below meth c H locs _ _ Qf (F0 m _ lsA (.long (Int64.ofInt (a)) :: st.map (sx_c Z))) at h
  change W p l e R s m args below meth c H locs _ _ Qf (F0 m pc lsA (.int (Int32.ofInt (a)) :: st.map (sx_c Z)))
  exact lv_i2l hx hb hd (sx_i2l ha) h
theorem si_i2b {a : Int} (C : sx_C p s m args c cc nL own Z D L μ0) (hd : decode cc pc = .ok (.i2b, 1)) (h : sx_at p l e R s m args below meth c nL Z D L μ0 n0 s0 Qf (pc + 1) ls (kI (a.bmod 256) :: st) G μ) : sx_at p l e R s m args below meth c nL Z D L μ0 n0 s0 Qf pc ls (kI (a) :: st) G μ := by
  intro H locs lsA hR hS hl hn hs
  obtain ⟨hx, hb, hml, hown, hts, hE⟩ := C
  have h := h H locs lsA hR hS hl hn hs
  change W p l e R s m args below meth c H locs _ _ Qf (F0 m _ lsA (.int (Int32.ofInt (a.bmod 256)) :: st.map (sx_c Z))) at h
  change W p l e R s m args below meth c H locs _ _ Qf (F0 m pc lsA (.int (Int32.ofInt (a)) :: st.map (sx_c Z)))
  exact lv_i2b hx hb hd (sx_i2b a) h
theorem si_i2s {a : Int} (C : sx_C p s m args c cc nL own Z D L μ0) (hd : decode cc pc = .ok (.i2s, 1)) (h : sx_at p l e R s m args below meth c nL Z D L μ0 n0 s0 Qf (pc + 1) ls (kI (a.bmod 65536) :: st) G μ) : sx_at p l e R s m args below meth c nL Z D L μ0 n0 s0 Qf pc ls (kI (a) :: st) G μ := by
  intro H locs lsA hR hS hl hn hs
  obtain ⟨hx, hb, hml, hown, hts, hE⟩ := C
  have h := h H locs lsA hR hS hl hn hs
  change W p l e R s m args below meth c H locs _ _ Qf (F0 m _ lsA (.int (Int32.ofInt (a.bmod 65536)) :: st.map (sx_c Z))) at h
  change W p l e R s m args below meth c H locs _ _ Qf (F0 m pc lsA (.int (Int32.ofInt (a)) :: st.map (sx_c Z)))
  exact lv_i2s hx hb hd (sx_i2s a) h
theorem si_i2c {a : Int} (C : sx_C p s m args c cc nL own Z D L μ0) (hd : decode cc pc = .ok (.i2c, 1)) (h : sx_at p l e R s m args below meth c nL Z D L μ0 n0 s0 Qf (pc + 1) ls (kI (a % 65536) :: st) G μ) : sx_at p l e R s m args below meth c nL Z D L μ0 n0 s0 Qf pc ls (kI (a) :: st) G μ := by
  intro H locs lsA hR hS hl hn hs
  obtain ⟨hx, hb, hml, hown, hts, hE⟩ := C
  have h := h H locs lsA hR hS hl hn hs
  change W p l e R s m args below meth c H locs _ _ Qf (F0 m _ lsA (.int (Int32.ofInt (a % 65536)) :: st.map (sx_c Z))) at h
  change W p l e R s m args below meth c H locs _ _ Qf (F0 m pc lsA (.int (Int32.ofInt (a)) :: st.map (sx_c Z)))
  exact lv_i2c hx hb hd (sx_i2c a) h
theorem si_dup {a : Int} (C : sx_C p s m args c cc nL own Z D L μ0) (hd : decode cc pc = .ok (.dup, 1)) (h : sx_at p l e R s m args below meth c nL Z D L μ0 n0 s0 Qf (pc + 1) ls (kI (a) :: kI (a) :: st) G μ) : sx_at p l e R s m args below meth c nL Z D L μ0 n0 s0 Qf pc ls (kI (a) :: st) G μ := by
  intro H locs lsA hR hS hl hn hs
  obtain ⟨hx, hb, hml, hown, hts, hE⟩ := C
  have h := h H locs lsA hR hS hl hn hs
  change W p l e R s m args below meth c H locs _ _ Qf (F0 m _ lsA (.int (Int32.ofInt (a)) :: .int (Int32.ofInt (a)) :: st.map (sx_c Z))) at h
  change W p l e R s m args below meth c H locs _ _ Qf (F0 m pc lsA (.int (Int32.ofInt (a)) :: st.map (sx_c Z)))
  exact lv_dup hx hb hd rfl h
theorem si_dupR {a : Nat} (C : sx_C p s m args c cc nL own Z D L μ0) (hd : decode cc pc = .ok (.dup, 1)) (h : sx_at p l e R s m args below meth c nL Z D L μ0 n0 s0 Qf (pc + 1) ls (kR (a) :: kR (a) :: st) G μ) : sx_at p l e R s m args below meth c nL Z D L μ0 n0 s0 Qf pc ls (kR (a) :: st) G μ := by
  intro H locs lsA hR hS hl hn hs
  obtain ⟨hx, hb, hml, hown, hts, hE⟩ := C
  have h := h H locs lsA hR hS hl hn hs
  change W p l e R s m args below meth c H locs _ _ Qf (F0 m _ lsA (.ref (sx_ad Z (a)) :: .ref (sx_ad Z (a)) :: st.map (sx_c Z))) at h
  change W p l e R s m args below meth c H locs _ _ Qf (F0 m pc lsA (.ref (sx_ad Z (a)) :: st.map (sx_c Z)))
  exact lv_dup hx hb hd rfl h
theorem si_dup2 {a : Nat} {b : Int} (C : sx_C p s m args c cc nL own Z D L μ0) (hd : decode cc pc = .ok (.dup2, 1)) (h : sx_at p l e R s m args below meth c nL Z D L μ0 n0 s0 Qf (pc + 1) ls (kI (b) :: kR (a) :: kI (b) :: kR (a) :: st) G μ) : sx_at p l e R s m args below meth c nL Z D L μ0 n0 s0 Qf pc ls (kI (b) :: kR (a) :: st) G μ := by
  intro H locs lsA hR hS hl hn hs
  obtain ⟨hx, hb, hml, hown, hts, hE⟩ := C
  have h := h H locs lsA hR hS hl hn hs
  change W p l e R s m args below meth c H locs _ _ Qf (F0 m _ lsA (.int (Int32.ofInt (b)) :: .ref (sx_ad Z (a)) :: .int (Int32.ofInt (b)) :: .ref (sx_ad Z (a)) :: st.map (sx_c Z))) at h
  change W p l e R s m args below meth c H locs _ _ Qf (F0 m pc lsA (.int (Int32.ofInt (b)) :: .ref (sx_ad Z (a)) :: st.map (sx_c Z)))
  exact lv_dup2_11 hx hb hd rfl rfl h
theorem si_pop {a : Int} (C : sx_C p s m args c cc nL own Z D L μ0) (hd : decode cc pc = .ok (.pop, 1)) (h : sx_at p l e R s m args below meth c nL Z D L μ0 n0 s0 Qf (pc + 1) ls (st) G μ) : sx_at p l e R s m args below meth c nL Z D L μ0 n0 s0 Qf pc ls (kI (a) :: st) G μ := by
  intro H locs lsA hR hS hl hn hs
  obtain ⟨hx, hb, hml, hown, hts, hE⟩ := C
  have h := h H locs lsA hR hS hl hn hs
  change W p l e R s m args below meth c H locs _ _ Qf (F0 m _ lsA (st.map (sx_c Z))) at h
  change W p l e R s m args below meth c H locs _ _ Qf (F0 m pc lsA (.int (Int32.ofInt (a)) :: st.map (sx_c Z)))
  exact lv_pop hx hb hd rfl h
theorem si_iconst {i r : Int} (C : sx_C p s m args c cc nL own Z D L μ0) (hd : decode cc pc = .ok (.iconst i, 1)) (hi : i = r) (h : sx_at p l e R s m args below meth c nL Z D L μ0 n0 s0 Qf (pc + 1) ls (kI (r) :: st) G μ) : sx_at p l e R s m args below meth c nL Z D L μ0 n0 s0 Qf pc ls (st) G μ := by
  intro H locs lsA hR hS hl hn hs
  obtain ⟨hx, hb, hml, hown, hts, hE⟩ := C
  have h := h H locs lsA hR hS hl hn hs
  change W p l e R s m args below meth c H locs _ _ Qf (F0 m _ lsA (.int (Int32.ofInt (r)) :: st.map (sx_c Z))) at h
  change W p l e R s m args below meth c H locs _ _ Qf (F0 m pc lsA (st.map (sx_c Z)))
  exact lv_iconst hx hb hd (by rw [hi]) h
theorem si_bipush {i r : Int} (C : sx_C p s m args c cc nL own Z D L μ0) (hd : decode cc pc = .ok (.bipush i, 2)) (hi : (Int8.ofInt i).toInt32 = Int32.ofInt r) (h : sx_at p l e R s m args below meth c nL Z D L μ0 n0 s0 Qf (pc + 2) ls (kI (r) :: st) G μ) : sx_at p l e R s m args below meth c nL Z D L μ0 n0 s0 Qf pc ls (st) G μ := by
  intro H locs lsA hR hS hl hn hs
  obtain ⟨hx, hb, hml, hown, hts, hE⟩ := C
  have h := h H locs lsA hR hS hl hn hs
  change W p l e R s m args below meth c H locs _ _ Qf (F0 m _ lsA (.int (Int32.ofInt (r)) :: st.map (sx_c Z))) at h
  change W p l e R s m args below meth c H locs _ _ Qf (F0 m pc lsA (st.map (sx_c Z)))
  exact lv_bipush hx hb hd hi h
theorem si_sipush {i r : Int} (C : sx_C p s m args c cc nL own Z D L μ0) (hd : decode cc pc = .ok (.sipush i, 3)) (hi : (Int16.ofInt i).toInt32 = Int32.ofInt r) (h : sx_at p l e R s m args below meth c nL Z D L μ0 n0 s0 Qf (pc + 3) ls (kI (r) :: st) G μ) : sx_at p l e R s m args below meth c nL Z D L μ0 n0 s0 Qf pc ls (st) G μ := by
  intro H locs lsA hR hS hl hn hs
  obtain ⟨hx, hb, hml, hown, hts, hE⟩ := C
  have h := h H locs lsA hR hS hl hn hs
  change W p l e R s m args below meth c H locs _ _ Qf (F0 m _ lsA (.int (Int32.ofInt (r)) :: st.map (sx_c Z))) at h
  change W p l e R s m args below meth c H locs _ _ Qf (F0 m pc lsA (st.map (sx_c Z)))
  exact lv_sipush hx hb hd hi h
theorem si_lconst {i : Fin 2} {r : Int} (C : sx_C p s m args c cc nL own Z D L μ0) (hd : decode cc pc = .ok (.lconst i, 1)) (hi : Int64.ofNat (i : Nat) = Int64.ofInt r) (h : sx_at p l e R s m args below meth c nL Z D L μ0 n0 s0 Qf (pc + 1) ls (kL (r) :: st) G μ) : sx_at p l e R s m args below meth c nL Z D L μ0 n0 s0 Qf pc ls (st) G μ := by
  intro H locs lsA hR hS hl hn hs
  obtain ⟨hx, hb, hml, hown, hts, hE⟩ := C
  have h := h H locs lsA hR hS hl hn hs
  change W p l e R s m args below meth c H locs _ _ Qf (F0 m _ lsA (.long (Int64.ofInt (r)) :: st.map (sx_c Z))) at h
  change W p l e R s m args below meth c H locs _ _ Qf (F0 m pc lsA (st.map (sx_c Z)))
  exact lv_lconst hx hb hd hi h
theorem si_ldc {i : Nat} {r : Int} (C : sx_C p s m args c cc nL own Z D L μ0) (hd : decode cc pc = .ok (.ldc i, 2)) (hw : Jvm.Cond.constant own i (Int32.ofInt r) ∈ sx_tb) (h : sx_at p l e R s m args below meth c nL Z D L μ0 n0 s0 Qf (pc + 2) ls (kI (r) :: st) G μ) : sx_at p l e R s m args below meth c nL Z D L μ0 n0 s0 Qf pc ls (st) G μ := by
  intro H locs lsA hR hS hl hn hs
  obtain ⟨hx, hb, hml, hown, hts, hE⟩ := C
  have h := h H locs lsA hR hS hl hn hs
  change W p l e R s m args below meth c H locs _ _ Qf (F0 m _ lsA (.int (Int32.ofInt (r)) :: st.map (sx_c Z))) at h
  change W p l e R s m args below meth c H locs _ _ Qf (F0 m pc lsA (st.map (sx_c Z)))
  exact lv_ldc hx hb hown (hts _ hw) hd h
theorem si_ldc_w {i : Nat} {r : Int} (C : sx_C p s m args c cc nL own Z D L μ0) (hd : decode cc pc = .ok (.ldc_w i, 3)) (hw : Jvm.Cond.constant own i (Int32.ofInt r) ∈ sx_tb) (h : sx_at p l e R s m args below meth c nL Z D L μ0 n0 s0 Qf (pc + 3) ls (kI (r) :: st) G μ) : sx_at p l e R s m args below meth c nL Z D L μ0 n0 s0 Qf pc ls (st) G μ := by
  intro H locs lsA hR hS hl hn hs
  obtain ⟨hx, hb, hml, hown, hts, hE⟩ := C
  have h := h H locs lsA hR hS hl hn hs
  change W p l e R s m args below meth c H locs _ _ Qf (F0 m _ lsA (.int (Int32.ofInt (r)) :: st.map (sx_c Z))) at h
  change W p l e R s m args below meth c H locs _ _ Qf (F0 m pc lsA (st.map (sx_c Z)))
  exact lv_ldcw hx hb hown (hts _ hw) hd h
theorem si_ldc2_w {i : Nat} {r : Int} (C : sx_C p s m args c cc nL own Z D L μ0) (hd : decode cc pc = .ok (.ldc2_w i, 3)) (hw : Jvm.Cond.constantLong own i (Int64.ofInt r) ∈ sx_tb) (h : sx_at p l e R s m args below meth c nL Z D L μ0 n0 s0 Qf (pc + 3) ls (kL (r) :: st) G μ) : sx_at p l e R s m args below meth c nL Z D L μ0 n0 s0 Qf pc ls (st) G μ := by
  intro H locs lsA hR hS hl hn hs
  obtain ⟨hx, hb, hml, hown, hts, hE⟩ := C
  have h := h H locs lsA hR hS hl hn hs
  change W p l e R s m args below meth c H locs _ _ Qf (F0 m _ lsA (.long (Int64.ofInt (r)) :: st.map (sx_c Z))) at h
  change W p l e R s m args below meth c H locs _ _ Qf (F0 m pc lsA (st.map (sx_c Z)))
  exact lv_ldc2 hx hb hown (hts _ hw) hd h
theorem si_iload_n {i : Fin 4} {r : Nat} {x : Int} (C : sx_C p s m args c cc nL own Z D L μ0) (hd : decode cc pc = .ok (.iload_n i, 1)) (hi : (i : Nat) = r) (hg : kx_get ls r = some (kI x)) (h : sx_at p l e R s m args below meth c nL Z D L μ0 n0 s0 Qf (pc + 1) ls (kI (x) :: st) G μ) : sx_at p l e R s m args below meth c nL Z D L μ0 n0 s0 Qf pc ls (st) G μ := by
  intro H locs lsA hR hS hl hn hs
  obtain ⟨hx, hb, hml, hown, hts, hE⟩ := C
  have h := h H locs lsA hR hS hl hn hs
  change W p l e R s m args below meth c H locs _ _ Qf (F0 m _ lsA (.int (Int32.ofInt (x)) :: st.map (sx_c Z))) at h
  change W p l e R s m args below meth c H locs _ _ Qf (F0 m pc lsA (st.map (sx_c Z)))
  exact lv_iload_n hx hb hd hi (hl.2.2.2 _ _ hg) h
theorem si_iload {i : Nat} {r : Nat} {x : Int} (C : sx_C p s m args c cc nL own Z D L μ0) (hd : decode cc pc = .ok (.iload i, 2)) (hi : i = r) (hg : kx_get ls r = some (kI x)) (h : sx_at p l e R s m args below meth c nL Z D L μ0 n0 s0 Qf (pc + 2) ls (kI (x) :: st) G μ) : sx_at p l e R s m args below meth c nL Z D L μ0 n0 s0 Qf pc ls (st) G μ := by
  intro H locs lsA hR hS hl hn hs
  obtain ⟨hx, hb, hml, hown, hts, hE⟩ := C
  have h := h H locs lsA hR hS hl hn hs
  change W p l e R s m args below meth c H locs _ _ Qf (F0 m _ lsA (.int (Int32.ofInt (x)) :: st.map (sx_c Z))) at h
  change W p l e R s m args below meth c H locs _ _ Qf (F0 m pc lsA (st.map (sx_c Z)))
  subst hi
  exact lv_iload hx hb hd (hl.2.2.2 _ _ hg) h
theorem si_lload_n {i : Fin 4} {r : Nat} {x : Int} (C : sx_C p s m args c cc nL own Z D L μ0) (hd : decode cc pc = .ok (.lload_n i, 1)) (hi : (i : Nat) = r) (hg : kx_get ls r = some (kL x)) (h : sx_at p l e R s m args below meth c nL Z D L μ0 n0 s0 Qf (pc + 1) ls (kL (x) :: st) G μ) : sx_at p l e R s m args below meth c nL Z D L μ0 n0 s0 Qf pc ls (st) G μ := by
  intro H locs lsA hR hS hl hn hs
  obtain ⟨hx, hb, hml, hown, hts, hE⟩ := C
  have h := h H locs lsA hR hS hl hn hs
  change W p l e R s m args below meth c H locs _ _ Qf (F0 m _ lsA (.long (Int64.ofInt (x)) :: st.map (sx_c Z))) at h
  change W p l e R s m args below meth c H locs _ _ Qf (F0 m pc lsA (st.map (sx_c Z)))
  exact lv_lload_n hx hb hd hi (hl.2.2.2 _ _ hg) h
theorem si_lload {i : Nat} {r : Nat} {x : Int} (C : sx_C p s m args c cc nL own Z D L μ0) (hd : decode cc pc = .ok (.lload i, 2)) (hi : i = r) (hg : kx_get ls r = some (kL x)) (h : sx_at p l e R s m args below meth c nL Z D L μ0 n0 s0 Qf (pc + 2) ls (kL (x) :: st) G μ) : sx_at p l e R s m args below meth c nL Z D L μ0 n0 s0 Qf pc ls (st) G μ := by
  intro H locs lsA hR hS hl hn hs
  obtain ⟨hx, hb, hml, hown, hts, hE⟩ := C
  have h := h H locs lsA hR hS hl hn hs
  change W p l e R s m args below meth c H locs _ _ Qf (F0 m _ lsA (.long (Int64.ofInt (x)) :: st.map (sx_c Z))) at h
  change W p l e R s m args below meth c H locs _ _ Qf (F0 m pc lsA (st.map (sx_c Z)))
  subst hi
  exact lv_lload hx hb hd (hl.2.2.2 _ _ hg) h
theorem si_aload_n {i : Fin 4} {r : Nat} {x : Nat} (C : sx_C p s m args c cc nL own Z D L μ0) (hd : decode cc pc = .ok (.aload_n i, 1)) (hi : (i : Nat) = r) (hg : kx_get ls r = some (kR x)) (h : sx_at p l e R s m args below meth c nL Z D L μ0 n0 s0 Qf (pc + 1) ls (kR (x) :: st) G μ) : sx_at p l e R s m args below meth c nL Z D L μ0 n0 s0 Qf pc ls (st) G μ := by
  intro H locs lsA hR hS hl hn hs
  obtain ⟨hx, hb, hml, hown, hts, hE⟩ := C
  have h := h H locs lsA hR hS hl hn hs
  change W p l e R s m args below meth c H locs _ _ Qf (F0 m _ lsA (.ref (sx_ad Z (x)) :: st.map (sx_c Z))) at h
  change W p l e R s m args below meth c H locs _ _ Qf (F0 m pc lsA (st.map (sx_c Z)))
  exact lv_aload_n hx hb hd hi (hl.2.2.2 _ _ hg) h
theorem si_aload {i : Nat} {r : Nat} {x : Nat} (C : sx_C p s m args c cc nL own Z D L μ0) (hd : decode cc pc = .ok (.aload i, 2)) (hi : i = r) (hg : kx_get ls r = some (kR x)) (h : sx_at p l e R s m args below meth c nL Z D L μ0 n0 s0 Qf (pc + 2) ls (kR (x) :: st) G μ) : sx_at p l e R s m args below meth c nL Z D L μ0 n0 s0 Qf pc ls (st) G μ := by
  intro H locs lsA hR hS hl hn hs
  obtain ⟨hx, hb, hml, hown, hts, hE⟩ := C
  have h := h H locs lsA hR hS hl hn hs
  change W p l e R s m args below meth c H locs _ _ Qf (F0 m _ lsA (.ref (sx_ad Z (x)) :: st.map (sx_c Z))) at h
  change W p l e R s m args below meth c H locs _ _ Qf (F0 m pc lsA (st.map (sx_c Z)))
  subst hi
  exact lv_aload hx hb hd (hl.2.2.2 _ _ hg) h
theorem si_istore_n {i : Fin 4} {r : Nat} {x : Int} (C : sx_C p s m args c cc nL own Z D L μ0) (hd : decode cc pc = .ok (.istore_n i, 1)) (hi : (i : Nat) = r) (hr : r < nL) (h : sx_at p l e R s m args below meth c nL Z D L μ0 n0 s0 Qf (pc + 1) (kx_set1 ls r (kI x)) st G μ) : sx_at p l e R s m args below meth c nL Z D L μ0 n0 s0 Qf pc ls (kI x :: st) G μ := by
  intro H locs lsA hR hS hl hn hs
  obtain ⟨hx, hb, hml, hown, hts, hE⟩ := C
  change W p l e R s m args below meth c H locs _ _ Qf (F0 m pc lsA (.int (Int32.ofInt (x)) :: st.map (sx_c Z)))
  refine lv_istore_n hx hb hd hi (sx_lv_has hl) hr rfl (fun ls' hl' => ?_)
  exact h H locs ls' hR hS (sx_lv_set1 (v := kI x) hl.1 hr hl') hn hs
theorem si_istore {i : Nat} {r : Nat} {x : Int} (C : sx_C p s m args c cc nL own Z D L μ0) (hd : decode cc pc = .ok (.istore i, 2)) (hi : i = r) (hr : r < nL) (h : sx_at p l e R s m args below meth c nL Z D L μ0 n0 s0 Qf (pc + 2) (kx_set1 ls r (kI x)) st G μ) : sx_at p l e R s m args below meth c nL Z D L μ0 n0 s0 Qf pc ls (kI x :: st) G μ := by
  intro H locs lsA hR hS hl hn hs
  obtain ⟨hx, hb, hml, hown, hts, hE⟩ := C
  change W p l e R s m args below meth c H locs _ _ Qf (F0 m pc lsA (.int (Int32.ofInt (x)) :: st.map (sx_c Z)))
  subst hi
  refine lv_istore hx hb hd (sx_lv_has hl) hr rfl (fun ls' hl' => ?_)
  exact h H locs ls' hR hS (sx_lv_set1 (v := kI x) hl.1 hr hl') hn hs
theorem si_astore_n {i : Fin 4} {r : Nat} {x : Nat} (C : sx_C p s m args c cc nL own Z D L μ0) (hd : decode cc pc = .ok (.astore_n i, 1)) (hi : (i : Nat) = r) (hr : r < nL) (h : sx_at p l e R s m args below meth c nL Z D L μ0 n0 s0 Qf (pc + 1) (kx_set1 ls r (kR x)) st G μ) : sx_at p l e R s m args below meth c nL Z D L μ0 n0 s0 Qf pc ls (kR x :: st) G μ := by
  intro H locs lsA hR hS hl hn hs
  obtain ⟨hx, hb, hml, hown, hts, hE⟩ := C
  change W p l e R s m args below meth c H locs _ _ Qf (F0 m pc lsA (.ref (sx_ad Z (x)) :: st.map (sx_c Z)))
  refine lv_astore_n hx hb hd hi (sx_lv_has hl) hr rfl (fun ls' hl' => ?_)
  exact h H locs ls' hR hS (sx_lv_set1 (v := kR x) hl.1 hr hl') hn hs
theorem si_astore {i : Nat} {r : Nat} {x : Nat} (C : sx_C p s m args c cc nL own Z D L μ0) (hd : decode cc pc = .ok (.astore i, 2)) (hi : i = r) (hr : r < nL) (h : sx_at p l e R s m args below meth c nL Z D L μ0 n0 s0 Qf (pc + 2) (kx_set1 ls r (kR x)) st G μ) : sx_at p l e R s m args below meth c nL Z D L μ0 n0 s0 Qf pc ls (kR x :: st) G μ := by
  intro H locs lsA hR hS hl hn hs
  obtain ⟨hx, hb, hml, hown, hts, hE⟩ := C
  change W p l e R s m args below meth c H locs _ _ Qf (F0 m pc lsA (.ref (sx_ad Z (x)) :: st.map (sx_c Z)))
  subst hi
  refine lv_astore hx hb hd (sx_lv_has hl) hr rfl (fun ls' hl' => ?_)
  exact h H locs ls' hR hS (sx_lv_set1 (v := kR x) hl.1 hr hl') hn hs
theorem si_lstore_n {i : Fin 4} {r : Nat} {x : Int} (C : sx_C p s m args c cc nL own Z D L μ0) (hd : decode cc pc = .ok (.lstore_n i, 1)) (hi : (i : Nat) = r) (hr : r + 1 < nL) (h : sx_at p l e R s m args below meth c nL Z D L μ0 n0 s0 Qf (pc + 1) (kx_set2 ls r (kL x)) st G μ) : sx_at p l e R s m args below meth c nL Z D L μ0 n0 s0 Qf pc ls (kL x :: st) G μ := by
  intro H locs lsA hR hS hl hn hs
  obtain ⟨hx, hb, hml, hown, hts, hE⟩ := C
  change W p l e R s m args below meth c H locs _ _ Qf (F0 m pc lsA (.long (Int64.ofInt (x)) :: st.map (sx_c Z)))
  refine lv_lstore_n hx hb hd hi (sx_lv_has hl) hr rfl (fun ls' hl' => ?_)
  exact h H locs ls' hR hS (sx_lv_set2 (v := kL x) hl.1 hr hl') hn hs
theorem si_iinc {i r : Nat} {x q r3 : Int} (C : sx_C p s m args c cc nL own Z D L μ0) (hd : decode cc pc = .ok (.iinc i q, 3)) (hi : i = r) (hq : q = r3) (hr : r < nL) (hg : kx_get ls r = some (kI x)) (h : sx_at p l e R s m args below meth c nL Z D L μ0 n0 s0 Qf (pc + 3) (kx_set1 ls r (kI (x + r3))) st G μ) : sx_at p l e R s m args below meth c nL Z D L μ0 n0 s0 Qf pc ls st G μ := by
  intro H locs lsA hR hS hl hn hs
  obtain ⟨hx, hb, hml, hown, hts, hE⟩ := C
  subst hi; subst hq
  have hm : (i, sx_c Z (kI x)) ∈ sx_ll Z ls := sx_ll_mem.mpr ⟨kI x, hg, rfl⟩
  obtain ⟨k, hk⟩ := List.getElem?_of_mem hm
  refine lv_iinc (k := k) (v := Int32.ofInt (x + q)) hx hb hd (sx_lv_has hl) hk (by rw [Int32.ofInt_add]) hr rfl (fun ls' hl' => ?_)
  exact h H locs ls' hR hS (sx_lv_set1 (v := kI (x + q)) hl.1 hr hl') hn hs
theorem si_icmp_eq {a b i : Int} {t : Nat} (C : sx_C p s m args c cc nL own Z D L μ0) (hd : decode cc pc = .ok (.if_icmp .eq i, 3)) (ht : (pc : Int) + i = (t : Int)) (ha : kx_in a) (hbb : kx_in b) (h : kx_br .eq a b (sx_at p l e R s m args below meth c nL Z D L μ0 n0 s0 Qf t ls st G μ) (sx_at p l e R s m args below meth c nL Z D L μ0 n0 s0 Qf (pc + 3) ls st G μ)) : sx_at p l e R s m args below meth c nL Z D L μ0 n0 s0 Qf pc ls (kI b :: kI a :: st) G μ := by
  intro H locs lsA hR hS hl hn hs
  obtain ⟨hx, hb, hml, hown, hts, hE⟩ := C
  simp only [kx_br] at h
  change W p l e R s m args below meth c H locs _ _ Qf (F0 m pc lsA (.int (Int32.ofInt b) :: .int (Int32.ofInt a) :: st.map (sx_c Z)))
  refine lv_icmp_eq hx hb hd ht (fun z => ?_) (fun z => ?_)
  · rw [sx_eq ha hbb] at z
    rw [if_pos z] at h; exact h H locs lsA hR hS hl hn hs
  · rw [sx_eq ha hbb] at z
    rw [if_neg z] at h; exact h H locs lsA hR hS hl hn hs
theorem si_if_eq {a i : Int} {t : Nat} (C : sx_C p s m args c cc nL own Z D L μ0) (hd : decode cc pc = .ok (.ifCond .eq i, 3)) (ht : (pc : Int) + i = (t : Int)) (ha : kx_in a) (h : kx_br .eq a 0 (sx_at p l e R s m args below meth c nL Z D L μ0 n0 s0 Qf t ls st G μ) (sx_at p l e R s m args below meth c nL Z D L μ0 n0 s0 Qf (pc + 3) ls st G μ)) : sx_at p l e R s m args below meth c nL Z D L μ0 n0 s0 Qf pc ls (kI a :: st) G μ := by
  intro H locs lsA hR hS hl hn hs
  obtain ⟨hx, hb, hml, hown, hts, hE⟩ := C
  have hbb : kx_in 0 := by decide
  simp only [kx_br] at h
  change W p l e R s m args below meth c H locs _ _ Qf (F0 m pc lsA (.int (Int32.ofInt a) :: st.map (sx_c Z)))
  refine lv_if_eq hx hb hd ht (fun z => ?_) (fun z => ?_)
  · rw [← sx_zero] at z; rw [sx_eq ha hbb] at z
    rw [if_pos z] at h; exact h H locs lsA hR hS hl hn hs
  · rw [← sx_zero] at z; rw [sx_eq ha hbb] at z
    rw [if_neg z] at h; exact h H locs lsA hR hS hl hn hs
theorem si_icmp_ne {a b i : Int} {t : Nat} (C : sx_C p s m args c cc nL own Z D L μ0) (hd : decode cc pc = .ok (.if_icmp .ne i, 3)) (ht : (pc : Int) + i = (t : Int)) (ha : kx_in a) (hbb : kx_in b) (h : kx_br .ne a b (sx_at p l e R s m args below meth c nL Z D L μ0 n0 s0 Qf t ls st G μ) (sx_at p l e R s m args below meth c nL Z D L μ0 n0 s0 Qf (pc + 3) ls st G μ)) : sx_at p l e R s m args below meth c nL Z D L μ0 n0 s0 Qf pc ls (kI b :: kI a :: st) G μ := by
  intro H locs lsA hR hS hl hn hs
  obtain ⟨hx, hb, hml, hown, hts, hE⟩ := C
  simp only [kx_br] at h
  change W p l e R s m args below meth c H locs _ _ Qf (F0 m pc lsA (.int (Int32.ofInt b) :: .int (Int32.ofInt a) :: st.map (sx_c Z)))
  refine lv_icmp_ne hx hb hd ht (fun z => ?_) (fun z => ?_)
  · first | rw [sx_eq ha hbb] at z | rw [ne_eq, sx_eq ha hbb] at z
    first | (rw [if_neg z] at h; exact h H locs lsA hR hS hl hn hs) | (rw [if_pos z] at h; exact h H locs lsA hR hS hl hn hs) | (rw [if_pos (Decidable.not_not.mp z)] at h; exact h H locs lsA hR hS hl hn hs)
  · first | rw [sx_eq ha hbb] at z | rw [ne_eq, sx_eq ha hbb] at z
    first | (rw [if_neg z] at h; exact h H locs lsA hR hS hl hn hs) | (rw [if_pos z] at h; exact h H locs lsA hR hS hl hn hs) | (rw [if_pos (Decidable.not_not.mp z)] at h; exact h H locs lsA hR hS hl hn hs)
theorem si_if_ne {a i : Int} {t : Nat} (C : sx_C p s m args c cc nL own Z D L μ0) (hd : decode cc pc = .ok (.ifCond .ne i, 3)) (ht : (pc : Int) + i = (t : Int)) (ha : kx_in a) (h : kx_br .ne a 0 (sx_at p l e R s m args below meth c nL Z D L μ0 n0 s0 Qf t ls st G μ) (sx_at p l e R s m args below meth c nL Z D L μ0 n0 s0 Qf (pc + 3) ls st G μ)) : sx_at p l e R s m args below meth c nL Z D L μ0 n0 s0 Qf pc ls (kI a :: st) G μ := by
  intro H locs lsA hR hS hl hn hs
  obtain ⟨hx, hb, hml, hown, hts, hE⟩ := C
  have hbb : kx_in 0 := by decide
  simp only [kx_br] at h
  change W p l e R s m args below meth c H locs _ _ Qf (F0 m pc lsA (.int (Int32.ofInt a) :: st.map (sx_c Z)))
  refine lv_if_ne hx hb hd ht (fun z => ?_) (fun z => ?_)
  · rw [← sx_zero] at z; first | rw [sx_eq ha hbb] at z | rw [ne_eq, sx_eq ha hbb] at z
    first | (rw [if_neg z] at h; exact h H locs lsA hR hS hl hn hs) | (rw [if_pos z] at h; exact h H locs lsA hR hS hl hn hs) | (rw [if_pos (Decidable.not_not.mp z)] at h; exact h H locs lsA hR hS hl hn hs)
  · rw [← sx_zero] at z; first | rw [sx_eq ha hbb] at z | rw [ne_eq, sx_eq ha hbb] at z
    first | (rw [if_neg z] at h; exact h H locs lsA hR hS hl hn hs) | (rw [if_pos z] at h; exact h H locs lsA hR hS hl hn hs) | (rw [if_pos (Decidable.not_not.mp z)] at h; exact h H locs lsA hR hS hl hn hs)
theorem si_icmp_lt {a b i : Int} {t : Nat} (C : sx_C p s m args c cc nL own Z D L μ0) (hd : decode cc pc = .ok (.if_icmp .lt i, 3)) (ht : (pc : Int) + i = (t : Int)) (ha : kx_in a) (hbb : kx_in b) (h : kx_br .lt a b (sx_at p l e R s m args below meth c nL Z D L μ0 n0 s0 Qf t ls st G μ) (sx_at p l e R s m args below meth c nL Z D L μ0 n0 s0 Qf (pc + 3) ls st G μ)) : sx_at p l e R s m args below meth c nL Z D L μ0 n0 s0 Qf pc ls (kI b :: kI a :: st) G μ := by
  intro H locs lsA hR hS hl hn hs
  obtain ⟨hx, hb, hml, hown, hts, hE⟩ := C
  simp only [kx_br] at h
  change W p l e R s m args below meth c H locs _ _ Qf (F0 m pc lsA (.int (Int32.ofInt b) :: .int (Int32.ofInt a) :: st.map (sx_c Z)))
  refine lv_icmp_lt hx hb hd ht (fun z => ?_) (fun z => ?_)
  · rw [sx_lt ha hbb] at z
    rw [if_pos z] at h; exact h H locs lsA hR hS hl hn hs
  · rw [sx_lt ha hbb] at z
    rw [if_neg z] at h; exact h H locs lsA hR hS hl hn hs
theorem si_if_lt {a i : Int} {t : Nat} (C : sx_C p s m args c cc nL own Z D L μ0) (hd : decode cc pc = .ok (.ifCond .lt i, 3)) (ht : (pc : Int) + i = (t : Int)) (ha : kx_in a) (h : kx_br .lt a 0 (sx_at p l e R s m args below meth c nL Z D L μ0 n0 s0 Qf t ls st G μ) (sx_at p l e R s m args below meth c nL Z D L μ0 n0 s0 Qf (pc + 3) ls st G μ)) : sx_at p l e R s m args below meth c nL Z D L μ0 n0 s0 Qf pc ls (kI a :: st) G μ := by
  intro H locs lsA hR hS hl hn hs
  obtain ⟨hx, hb, hml, hown, hts, hE⟩ := C
  have hbb : kx_in 0 := by decide
  simp only [kx_br] at h
  change W p l e R s m args below meth c H locs _ _ Qf (F0 m pc lsA (.int (Int32.ofInt a) :: st.map (sx_c Z)))
  refine lv_if_lt hx hb hd ht (fun z => ?_) (fun z => ?_)
  · rw [← sx_zero] at z; rw [sx_lt ha hbb] at z
    rw [if_pos z] at h; exact h H locs lsA hR hS hl hn hs
  · rw [← sx_zero] at z; rw [sx_lt ha hbb] at z
    rw [if_neg z] at h; exact h H locs lsA hR hS hl hn hs
theorem si_icmp_ge {a b i : Int} {t : Nat} (C : sx_C p s m args c cc nL own Z D L μ0) (hd : decode cc pc = .ok (.if_icmp .ge i, 3)) (ht : (pc : Int) + i = (t : Int)) (ha : kx_in a) (hbb : kx_in b) (h : kx_br .ge a b (sx_at p l e R s m args below meth c nL Z D L μ0 n0 s0 Qf t ls st G μ) (sx_at p l e R s m args below meth c nL Z D L μ0 n0 s0 Qf (pc + 3) ls st G μ)) : sx_at p l e R s m args below meth c nL Z D L μ0 n0 s0 Qf pc ls (kI b :: kI a :: st) G μ := by
  intro H locs lsA hR hS hl hn hs
  obtain ⟨hx, hb, hml, hown, hts, hE⟩ := C
  simp only [kx_br] at h
  change W p l e R s m args below meth c H locs _ _ Qf (F0 m pc lsA (.int (Int32.ofInt b) :: .int (Int32.ofInt a) :: st.map (sx_c Z)))
  refine lv_icmp_ge hx hb hd ht (fun z => ?_) (fun z => ?_)
  · rw [sx_le hbb ha] at z
    rw [if_neg (by omega)] at h; exact h H locs lsA hR hS hl hn hs
  · rw [sx_le hbb ha] at z
    rw [if_pos (by omega)] at h; exact h H locs lsA hR hS hl hn hs
theorem si_if_ge {a i : Int} {t : Nat} (C : sx_C p s m args c cc nL own Z D L μ0) (hd : decode cc pc = .ok (.ifCond .ge i, 3)) (ht : (pc : Int) + i = (t : Int)) (ha : kx_in a) (h : kx_br .ge a 0 (sx_at p l e R s m args below meth c nL Z D L μ0 n0 s0 Qf t ls st G μ) (sx_at p l e R s m args below meth c nL Z D L μ0 n0 s0 Qf (pc + 3) ls st G μ)) : sx_at p l e R s m args below meth c nL Z D L μ0 n0 s0 Qf pc ls (kI a :: st) G μ := by
  intro H locs lsA hR hS hl hn hs
  obtain ⟨hx, hb, hml, hown, hts, hE⟩ := C
  have hbb : kx_in 0 := by decide
  simp only [kx_br] at h
  change W p l e R s m args below meth c H locs _ _ Qf (F0 m pc lsA (.int (Int32.ofInt a) :: st.map (sx_c Z)))
  refine lv_if_ge hx hb hd ht (fun z => ?_) (fun z => ?_)
  · rw [← sx_zero] at z; rw [sx_le hbb ha] at z
    rw [if_neg (by omega)] at h; exact h H locs lsA hR hS hl hn hs
  · rw [← sx_zero] at z; rw [sx_le hbb ha] at z
    rw [if_pos (by omega)] at h; exact h H locs lsA hR hS hl hn hs
theorem si_icmp_gt {a b i : Int} {t : Nat} (C : sx_C p s m args c cc nL own Z D L μ0) (hd : decode cc pc = .ok (.if_icmp .gt i, 3)) (ht : (pc : Int) + i = (t : Int)) (ha : kx_in a) (hbb : kx_in b) (h : kx_br .gt a b (sx_at p l e R s m args below meth c nL Z D L μ0 n0 s0 Qf t ls st G μ) (sx_at p l e R s m args below meth c nL Z D L μ0 n0 s0 Qf (pc + 3) ls st G μ)) : sx_at p l e R s m args below meth c nL Z D L μ0 n0 s0 Qf pc ls (kI b :: kI a :: st) G μ := by
  intro H locs lsA hR hS hl hn hs
  obtain ⟨hx, hb, hml, hown, hts, hE⟩ := C
  simp only [kx_br] at h
  change W p l e R s m args below meth c H locs _ _ Qf (F0 m pc lsA (.int (Int32.ofInt b) :: .int (Int32.ofInt a) :: st.map (sx_c Z)))
  refine lv_icmp_gt hx hb hd ht (fun z => ?_) (fun z => ?_)
  · rw [sx_lt hbb ha] at z
    rw [if_pos z] at h; exact h H locs lsA hR hS hl hn hs
  · rw [sx_lt hbb ha] at z
    rw [if_neg z] at h; exact h H locs lsA hR hS hl hn hs
theorem si_if_gt {a i : Int} {t : Nat} (C : sx_C p s m args c cc nL own Z D L μ0) (hd : decode cc pc = .ok (.ifCond .gt i, 3)) (ht : (pc : Int) + i = (t : Int)) (ha : kx_in a) (h : kx_br .gt a 0 (sx_at p l e R s m args below meth c nL Z D L μ0 n0 s0 Qf t ls st G μ) (sx_at p l e R s m args below meth c nL Z D L μ0 n0 s0 Qf (pc + 3) ls st G μ)) : sx_at p l e R s m args below meth c nL Z D L μ0 n0 s0 Qf pc ls (kI a :: st) G μ := by
  intro H locs lsA hR hS hl hn hs
  obtain ⟨hx, hb, hml, hown, hts, hE⟩ := C
  have hbb : kx_in 0 := by decide
  simp only [kx_br] at h
  change W p l e R s m args below meth c H locs _ _ Qf (F0 m pc lsA (.int (Int32.ofInt a) :: st.map (sx_c Z)))
  refine lv_if_gt hx hb hd ht (fun z => ?_) (fun z => ?_)
  · rw [← sx_zero] at z; rw [sx_lt hbb ha] at z
    rw [if_pos z] at h; exact h H locs lsA hR hS hl hn hs
  · rw [← sx_zero] at z; rw [sx_lt hbb ha] at z
    rw [if_neg z] at h; exact h H locs lsA hR hS hl hn hs
theorem si_icmp_le {a b i : Int} {t : Nat} (C : sx_C p s m args c cc nL own Z D L μ0) (hd : decode cc pc = .ok (.if_icmp .le i, 3)) (ht : (pc : Int) + i = (t : Int)) (ha : kx_in a) (hbb : kx_in b) (h : kx_br .le a b (sx_at p l e R s m args below meth c nL Z D L μ0 n0 s0 Qf t ls st G μ) (sx_at p l e R s m args below meth c nL Z D L μ0 n0 s0 Qf (pc + 3) ls st G μ)) : sx_at p l e R s m args below meth c nL Z D L μ0 n0 s0 Qf pc ls (kI b :: kI a :: st) G μ := by
  intro H locs lsA hR hS hl hn hs
  obtain ⟨hx, hb, hml, hown, hts, hE⟩ := C
  simp only [kx_br] at h
  change W p l e R s m args below meth c H locs _ _ Qf (F0 m pc lsA (.int (Int32.ofInt b) :: .int (Int32.ofInt a) :: st.map (sx_c Z)))
  refine lv_icmp_le hx hb hd ht (fun z => ?_) (fun z => ?_)
  · rw [sx_le ha hbb] at z
    rw [if_neg (by omega)] at h; exact h H locs lsA hR hS hl hn hs
  · rw [sx_le ha hbb] at z
    rw [if_pos (by omega)] at h; exact h H locs lsA hR hS hl hn hs
theorem si_if_le {a i : Int} {t : Nat} (C : sx_C p s m args c cc nL own Z D L μ0) (hd : decode cc pc = .ok (.ifCond .le i, 3)) (ht : (pc : Int) + i = (t : Int)) (ha : kx_in a) (h : kx_br .le a 0 (sx_at p l e R s m args below meth c nL Z D L μ0 n0 s0 Qf t ls st G μ) (sx_at p l e R s m args below meth c nL Z D L μ0 n0 s0 Qf (pc + 3) ls st G μ)) : sx_at p l e R s m args below meth c nL Z D L μ0 n0 s0 Qf pc ls (kI a :: st) G μ := by
  intro H locs lsA hR hS hl hn hs
  obtain ⟨hx, hb, hml, hown, hts, hE⟩ := C
  have hbb : kx_in 0 := by decide
  simp only [kx_br] at h
  change W p l e R s m args below meth c H locs _ _ Qf (F0 m pc lsA (.int (Int32.ofInt a) :: st.map (sx_c Z)))
  refine lv_if_le hx hb hd ht (fun z => ?_) (fun z => ?_)
  · rw [← sx_zero] at z; rw [sx_le ha hbb] at z
    rw [if_neg (by omega)] at h; exact h H locs lsA hR hS hl hn hs
  · rw [← sx_zero] at z; rw [sx_le ha hbb] at z
    rw [if_pos (by omega)] at h; exact h H locs lsA hR hS hl hn hs
theorem si_goto {i : Int} {t : Nat} (C : sx_C p s m args c cc nL own Z D L μ0) (hd : decode cc pc = .ok (.goto i, 3)) (ht : (pc : Int) + i = (t : Int)) (h : sx_at p l e R s m args below meth c nL Z D L μ0 n0 s0 Qf t ls st G μ) : sx_at p l e R s m args below meth c nL Z D L μ0 n0 s0 Qf pc ls st G μ := by
  intro H locs lsA hR hS hl hn hs
  obtain ⟨hx, hb, hml, hown, hts, hE⟩ := C
  exact lv_goto hx hb hd ht (h H locs lsA hR hS hl hn hs)
end SI
end
section
theorem sx_in : ∀ ci, ci < 8 → ∀ w ∈ u_ws (sx_cn ci) (sx_T ci) (sx_nf ci), w ∈ sx_tb := by decide +kernel
section SM
variable {p : Program} {l : Launch} {e : Env} {R : Room} {s : State} {m : MethodId} {args : Array Value} {below : List Frame} {meth : Method} {c : Code} {cc : ByteArray} {nL L n0 s0 : Nat} {own : String} {Z : sx_Z} {D : va_G} {μ0 : kx_M} {Qf : State → Prop} {pc : Nat} {ls : kx_L} {st : List kx_V} {G : kx_G} {μ : kx_M}
theorem si_geti {i a ci k : Nat} (C : sx_C p s m args c cc nL own Z D L μ0) (hd : decode cc pc = .ok (.getfield i, 3)) (ho : G.1 a = (1, ci)) (hk : k < sx_nf ci) (ht : sx_tag ci k ≠ 1) (hw : Jvm.Cond.fieldLink own i (sx_T ci k).1 (sx_T ci k).2.1 (sx_T ci k).2.2.1 ∈ sx_tb) (h : sx_at p l e R s m args below meth c nL Z D L μ0 n0 s0 Qf (pc + 3) ls (kI (μ a k) :: st) G μ) : sx_at p l e R s m args below meth c nL Z D L μ0 n0 s0 Qf pc ls (kR a :: st) G μ := by
  intro H locs lsA hR hS hl hn hs
  obtain ⟨hx, hb, hml, hown, hts, hE⟩ := C
  have hK := hE.1
  have hci : ci < 8 := by have := hR.1.2.2.2.1 a (by rw [ho]); rw [ho] at this; exact this
  obtain ⟨c1, c2, c3, c4⟩ := sx_cell hR (a := a) (by rw [ho]; exact Nat.le_refl 1) (by rw [ho]; exact Nat.le_of_ble_eq_true rfl)
  have hEa : sx_E Z G μ a = .inr (ci, (List.range (sx_nf ci)).map (fun j => sx_fv Z G μ ci a j)) := by simp only [sx_E, ho]
  rw [hEa] at c4
  change W p l e R s m args below meth c H locs _ _ Qf (F0 m pc lsA (.ref (sx_ad Z a) :: st.map (sx_c Z)))
  refine va_get (v := .int (Int32.ofInt (μ a k))) hx hb hts (sx_in ci hci) hown hK hR.2.2.1 (a - 1) c4 (sx_cls_at hci) k hk (hts _ hw) (fun _ h => h) ?_ hd (h H locs lsA hR hS hl hn hs)
  rw [List.getElem?_map, List.getElem?_range hk]
  show some (sx_fv Z G μ ci a k) = _
  unfold sx_fv
  rw [if_neg ht]
theorem si_getr {i a ci k : Nat} (C : sx_C p s m args c cc nL own Z D L μ0) (hd : decode cc pc = .ok (.getfield i, 3)) (ho : G.1 a = (1, ci)) (hk : k < sx_nf ci) (ht : sx_tag ci k = 1) (hz : G.2.2 a k ≠ 0) (hw : Jvm.Cond.fieldLink own i (sx_T ci k).1 (sx_T ci k).2.1 (sx_T ci k).2.2.1 ∈ sx_tb) (h : sx_at p l e R s m args below meth c nL Z D L μ0 n0 s0 Qf (pc + 3) ls (kR (G.2.2 a k) :: st) G μ) : sx_at p l e R s m args below meth c nL Z D L μ0 n0 s0 Qf pc ls (kR a :: st) G μ := by
  intro H locs lsA hR hS hl hn hs
  obtain ⟨hx, hb, hml, hown, hts, hE⟩ := C
  have hK := hE.1
  have hci : ci < 8 := by have := hR.1.2.2.2.1 a (by rw [ho]); rw [ho] at this; exact this
  obtain ⟨c1, c2, c3, c4⟩ := sx_cell hR (a := a) (by rw [ho]; exact Nat.le_refl 1) (by rw [ho]; exact Nat.le_of_ble_eq_true rfl)
  have hEa : sx_E Z G μ a = .inr (ci, (List.range (sx_nf ci)).map (fun j => sx_fv Z G μ ci a j)) := by simp only [sx_E, ho]
  rw [hEa] at c4
  change W p l e R s m args below meth c H locs _ _ Qf (F0 m pc lsA (.ref (sx_ad Z a) :: st.map (sx_c Z)))
  refine va_get (v := .ref (sx_ad Z (G.2.2 a k))) hx hb hts (sx_in ci hci) hown hK hR.2.2.1 (a - 1) c4 (sx_cls_at hci) k hk (hts _ hw) (fun _ h => h) ?_ hd (h H locs lsA hR hS hl hn hs)
  rw [List.getElem?_map, List.getElem?_range hk]
  show some (sx_fv Z G μ ci a k) = _
  unfold sx_fv
  rw [if_pos ht, sx_rv, if_neg hz]
  rfl
theorem sx_fs_set {Z : sx_Z} {G G' : kx_G} {μ μ' : kx_M} {ci a k : Nat} {v : Value} (hk : k < sx_nf ci) (hv : sx_fv Z G' μ' ci a k = v) (ho : ∀ j, j ≠ k → sx_fv Z G' μ' ci a j = sx_fv Z G μ ci a j) : ((List.range (sx_nf ci)).map (fun j => sx_fv Z G μ ci a j)).set k v = (List.range (sx_nf ci)).map (fun j => sx_fv Z G' μ' ci a j) := by
  apply List.ext_getElem?
  intro j
  by_cases hj : j < sx_nf ci
  · by_cases e : k = j
    · subst e
      rw [List.getElem?_set_self (by simpa using hj), List.getElem?_map, List.getElem?_range hj]
      show some v = some (sx_fv Z G' μ' ci a k)
      rw [hv]
    · rw [List.getElem?_set_ne e, List.getElem?_map, List.getElem?_map, List.getElem?_range hj]
      show some (sx_fv Z G μ ci a j) = some (sx_fv Z G' μ' ci a j)
      rw [ho j (fun q => e q.symm)]
  · rw [List.getElem?_eq_none (by simp; omega), List.getElem?_eq_none (by simp; omega)]
theorem sx_rel_put {Z : sx_Z} {D : va_G} {L : Nat} {μ0 : kx_M} {G G' : kx_G} {μ μ' : kx_M} {H H1 : Heap} {a : Nat} {x : va_E} (hR : sx_rel Z D L μ0 G μ H) (hG : G'.1 = G.1 ∧ G'.2.1 = G.2.1) (h1 : 1 ≤ a) (h2 : a < G.2.1) (hx : sx_E Z G' μ' a = x) (ho : ∀ b, b ≠ a → (∀ j, G'.2.2 b j = G.2.2 b j) ∧ ∀ j, μ' b j = μ b j) (hP : va_P D sx_cls ((sx_ws Z G μ).set (a - 1) (Z.1 + a, x)) H1) (hz : G.2.1 < 91 → H1.size = H.size) : sx_rel Z D L μ0 G' μ' H1 := by
  obtain ⟨w, z, -, m⟩ := hR
  refine ⟨?_, fun h9 => by rw [hG.2] at h9 ⊢; rw [hz h9, z h9], ?_, fun k hk => ?_⟩
  · obtain ⟨a1, a2, a3, a4, a5, a6, a7, a8, a9, a10⟩ := w
    unfold sx_wf
    rw [hG.1, hG.2]
    exact ⟨a1, a2, a3, a4, a5, a6, a7, a8, a9, a10⟩
  · rw [← sx_ws_set (G := G) (μ := μ) hG.2 h1 h2 hx (fun b hb => sx_E_congr (by rw [hG.1]) (ho b hb).1 (ho b hb).2)]
    exact hP
  · rw [← m k hk]
    exact funext (ho k (by have := w.2.1; omega)).2
/-- a field is written: the heap's size stays -/
theorem sx_putW (hx : p.tables.exec = Jvm.exec) (hb : c.code = cc) {Ts : List Jvm.Cond} (hts : ∀ w ∈ Ts, w.before args s = true) {C : String} {T : u_T} {N ci index : Nat} {cl : List vw_C} {tys : List (ClassId × FieldType)} {ws : va_W} {A : Nat → Prop} {H H0 : Heap} {locs : List Loc} {cells slots a : Nat} {rest : List Value} {lsA : Array Slot} (hin : ∀ w ∈ u_ws C T N, w ∈ Ts) (ty0 : Nat → FieldType) (hty : ∀ k, k < N → parseFieldDescriptor (T k).2.2.1 = some (ty0 k)) (hnm : ∀ a, a < N → ∀ b, b < N → a ≠ b → (T a).2.1 ≠ (T b).2.1) (hown : s.vm.findClass own = some m.cls) (hK : va_K D cl tys s) (hP : va_P D cl ws H) (hD : va_D A ws) (hS0 : va_S A H0 H locs) (q0 : Nat) {fs : List Value} (he : ws[q0]? = some (a, .inr (ci, fs))) (hc : cl[ci]? = some (C, T, N)) (k : Nat) (hk : k < N) (hlink : (Jvm.Cond.fieldLink own index (T k).1 (T k).2.1 (T k).2.2.1).before args s = true) (hfin : (T k).2.2.2 = false ∨ meth.name = "<init>" ∧ (T k).1 = own) {ty : FieldType} {v : Value} (hd : parseFieldDescriptor (T k).2.2.1 = some ty) (hn : narrow ty v = v) (hfit : fits ty v = true) (hl : k < fs.length)
    (hdg : decode cc pc = .ok (.putfield index, 3)) (kk : ∀ (H1 : Heap) (locs1 : List Loc), va_P D cl (ws.set q0 (a, .inr (ci, fs.set k v))) H1 → H1.size = H.size → va_S A H0 H1 locs1 → W p l e R s m args below meth c H1 locs1 cells slots Qf (F0 m (pc + 3) lsA rest)) : W p l e R s m args below meth c H locs cells slots Qf (F0 m pc lsA (v :: .ref a :: rest)) := by
  have hap := va_apart (own := own) hts hin ty0 hty hnm hK hc
  obtain ⟨r, h1, cell, q1, q2, q3, q4⟩ := hP q0 _ he
  have hr : r = (C, T, N) := Option.some.inj (h1.symm.trans hc)
  subst hr
  obtain ⟨hS, hfc, kC, hkC, hkind⟩ := hK.1 ci _ hc
  obtain ⟨cf, kf, fi, f, hi, hsl⟩ := hS k hk
  have hlay := hts _ (hin _ (u_in_lay hk))
  have hst := (u_facts hfc hkC (u_lays hts hin hk) hi).1
  unfold u_lay at hlay
  cases hF : (T k).2.2.2 with
  | false =>
    rw [if_neg (by rw [hF]; decide)] at hlay
    have h6 := u_store hfc hkC hkind hlay hi hd hn hfit
    refine W.putK hx hb (f := f) ⟨hown, hlink, ⟨_, _, _, hi⟩, hst⟩ (by rw [q2]; exact h6) q1 q3 (by rw [hsl]; exact k2_hasslot (q4 k hk)) rfl rfl hdg fun H' e1 e2 e3 => ?_
    rw [hsl] at e1 ⊢
    exact kk H' _ (hP.set hD he ⟨_, hc, t_OB.to (V := updV (vp_V fs) k v) ⟨_, e1, q2, q3, t_set q4 hap hk v⟩ (fun j _ => vp_updV_set hl v j)⟩ e3) e2 (hS0.put e2 e3 (hD.2 q0 _ he))
  | true =>
    obtain ⟨hin2, hdecl⟩ : meth.name = "<init>" ∧ (T k).1 = own := by
      rcases hfin with q | q
      · rw [hF] at q; cases q
      · exact q
    rw [if_pos hF] at hlay
    have hcf : m.cls = cf := by
      obtain ⟨_, _, c', _, _, _, -, -, hf', -, -, -, hown2, -⟩ := Cond.laysFinal_spec hlay
      have e1 : c' = cf := by have := hi.symm.trans hf'; simp at this; exact this.1.symm
      rw [hdecl] at hown2
      rw [← e1]; exact Option.some.inj (hown.symm.trans hown2)
    have h6 := u_fits hfc hkC hkind (Or.inr hlay) hi hd hn hfit
    refine W.putFinK hx hb hown hlink hi hst hcf hin2 (by rw [q2]; exact h6) q1 q3 (by rw [hsl]; exact k2_hasslot (q4 k hk)) rfl rfl hdg fun H' e1 e2 e3 => ?_
    rw [hsl] at e1 ⊢
    exact kk H' _ (hP.set hD he ⟨_, hc, t_OB.to (V := updV (vp_V fs) k v) ⟨_, e1, q2, q3, t_set q4 hap hk v⟩ (fun j _ => vp_updV_set hl v j)⟩ e3) e2 (hS0.put e2 e3 (hD.2 q0 _ he))
theorem si_puti {i a ci k : Nat} {v : Int} (C : sx_C p s m args c cc nL own Z D L μ0) (hd : decode cc pc = .ok (.putfield i, 3)) (ho : G.1 a = (1, ci)) (hk : k < sx_nf ci) (ht : sx_tag ci k = 0) (hfin : (sx_T ci k).2.2.2 = false ∨ meth.name = "<init>" ∧ (sx_T ci k).1 = own) (hw : Jvm.Cond.fieldLink own i (sx_T ci k).1 (sx_T ci k).2.1 (sx_T ci k).2.2.1 ∈ sx_tb) (h : sx_at p l e R s m args below meth c nL Z D L μ0 n0 s0 Qf (pc + 3) ls st G (kx_up μ a k v)) : sx_at p l e R s m args below meth c nL Z D L μ0 n0 s0 Qf pc ls (kI v :: kR a :: st) G μ := by
  intro H locs lsA hR hS hl hn hs
  obtain ⟨hx, hb, hml, hown, hts, hE⟩ := C
  have hK := hE.1
  have hci : ci < 8 := by have := hR.1.2.2.2.1 a (by rw [ho]); rw [ho] at this; exact this
  obtain ⟨c1, c2, c3, c4⟩ := sx_cell hR (a := a) (by rw [ho]; exact Nat.le_refl 1) (by rw [ho]; exact Nat.le_of_ble_eq_true rfl)
  have hEa : sx_E Z G μ a = .inr (ci, (List.range (sx_nf ci)).map (fun j => sx_fv Z G μ ci a j)) := by simp only [sx_E, ho]
  rw [hEa] at c4
  change W p l e R s m args below meth c H locs _ _ Qf (F0 m pc lsA (.int (Int32.ofInt v) :: .ref (sx_ad Z a) :: st.map (sx_c Z)))
  refine sx_putW hx hb hts (sx_in ci hci) (sx_y ci) (sx_ty hci) (sx_nm hci) hown hK hR.2.2.1 (sx_D Z G μ) hS (a - 1) c4 (sx_cls_at hci) k hk (hts _ hw) hfin (sx_ty hci k hk) (by rw [((sx_tag_ok ci hci k hk).1 ht)]; rfl) (by rw [((sx_tag_ok ci hci k hk).1 ht)]; rfl) (by simpa using hk) hd (fun H1 locs1 hP hz1 hS1 => ?_)
  rw [c3] at hP
  refine h H1 locs1 lsA (sx_rel_put hR ⟨rfl, rfl⟩ c1 c2 ?_ (fun b hb => ⟨fun j => rfl, fun j => ?_⟩) hP (fun _ => hz1)) hS1 hl hn hs
  · simp only [sx_E, ho]
    congr 2
    refine (sx_fs_set hk ?_ (fun j hj => ?_)).symm
    · unfold sx_fv
      rw [if_neg (by omega)]
      simp only [kx_up]
      rw [if_pos ⟨trivial, trivial⟩]
    · have e : ¬ ((j : Int) = (k : Int)) := by omega
      simp only [sx_fv, kx_up, e, and_false, if_false]
  · simp only [kx_up]
    rw [if_neg (fun q => hb q.1)]
theorem si_putz {i a ci k : Nat} {v : Int} (C : sx_C p s m args c cc nL own Z D L μ0) (hd : decode cc pc = .ok (.putfield i, 3)) (ho : G.1 a = (1, ci)) (hk : k < sx_nf ci) (ht : sx_tag ci k = 2) (hz : v = 0 ∨ v = 1) (hfin : (sx_T ci k).2.2.2 = false ∨ meth.name = "<init>" ∧ (sx_T ci k).1 = own) (hw : Jvm.Cond.fieldLink own i (sx_T ci k).1 (sx_T ci k).2.1 (sx_T ci k).2.2.1 ∈ sx_tb) (h : sx_at p l e R s m args below meth c nL Z D L μ0 n0 s0 Qf (pc + 3) ls st G (kx_up μ a k v)) : sx_at p l e R s m args below meth c nL Z D L μ0 n0 s0 Qf pc ls (kI v :: kR a :: st) G μ := by
  intro H locs lsA hR hS hl hn hs
  obtain ⟨hx, hb, hml, hown, hts, hE⟩ := C
  have hK := hE.1
  have hci : ci < 8 := by have := hR.1.2.2.2.1 a (by rw [ho]); rw [ho] at this; exact this
  obtain ⟨c1, c2, c3, c4⟩ := sx_cell hR (a := a) (by rw [ho]; exact Nat.le_refl 1) (by rw [ho]; exact Nat.le_of_ble_eq_true rfl)
  have hEa : sx_E Z G μ a = .inr (ci, (List.range (sx_nf ci)).map (fun j => sx_fv Z G μ ci a j)) := by simp only [sx_E, ho]
  rw [hEa] at c4
  change W p l e R s m args below meth c H locs _ _ Qf (F0 m pc lsA (.int (Int32.ofInt v) :: .ref (sx_ad Z a) :: st.map (sx_c Z)))
  refine sx_putW hx hb hts (sx_in ci hci) (sx_y ci) (sx_ty hci) (sx_nm hci) hown hK hR.2.2.1 (sx_D Z G μ) hS (a - 1) c4 (sx_cls_at hci) k hk (hts _ hw) hfin (sx_ty hci k hk) (by rw [((sx_tag_ok ci hci k hk).2.1 ht)]; rcases hz with rfl | rfl <;> rfl) (by rw [((sx_tag_ok ci hci k hk).2.1 ht)]; rcases hz with rfl | rfl <;> rfl) (by simpa using hk) hd (fun H1 locs1 hP hz1 hS1 => ?_)
  rw [c3] at hP
  refine h H1 locs1 lsA (sx_rel_put hR ⟨rfl, rfl⟩ c1 c2 ?_ (fun b hb => ⟨fun j => rfl, fun j => ?_⟩) hP (fun _ => hz1)) hS1 hl hn hs
  · simp only [sx_E, ho]
    congr 2
    refine (sx_fs_set hk ?_ (fun j hj => ?_)).symm
    · unfold sx_fv
      rw [if_neg (by omega)]
      simp only [kx_up]
      rw [if_pos ⟨trivial, trivial⟩]
    · have e : ¬ ((j : Int) = (k : Int)) := by omega
      simp only [sx_fv, kx_up, e, and_false, if_false]
  · simp only [kx_up]
    rw [if_neg (fun q => hb q.1)]
theorem si_putr {i a ci k : Nat} {v : Nat} (C : sx_C p s m args c cc nL own Z D L μ0) (hd : decode cc pc = .ok (.putfield i, 3)) (ho : G.1 a = (1, ci)) (hk : k < sx_nf ci) (ht : sx_tag ci k = 1) (hz : v ≠ 0) (hfin : (sx_T ci k).2.2.2 = false ∨ meth.name = "<init>" ∧ (sx_T ci k).1 = own) (hw : Jvm.Cond.fieldLink own i (sx_T ci k).1 (sx_T ci k).2.1 (sx_T ci k).2.2.1 ∈ sx_tb) (h : sx_at p l e R s m args below meth c nL Z D L μ0 n0 s0 Qf (pc + 3) ls st (G.1, G.2.1, kx_upr G.2.2 a k v) μ) : sx_at p l e R s m args below meth c nL Z D L μ0 n0 s0 Qf pc ls (kR v :: kR a :: st) G μ := by
  intro H locs lsA hR hS hl hn hs
  obtain ⟨hx, hb, hml, hown, hts, hE⟩ := C
  have hK := hE.1
  have hci : ci < 8 := by have := hR.1.2.2.2.1 a (by rw [ho]); rw [ho] at this; exact this
  obtain ⟨c1, c2, c3, c4⟩ := sx_cell hR (a := a) (by rw [ho]; exact Nat.le_refl 1) (by rw [ho]; exact Nat.le_of_ble_eq_true rfl)
  have hEa : sx_E Z G μ a = .inr (ci, (List.range (sx_nf ci)).map (fun j => sx_fv Z G μ ci a j)) := by simp only [sx_E, ho]
  rw [hEa] at c4
  change W p l e R s m args below meth c H locs _ _ Qf (F0 m pc lsA (.ref (sx_ad Z v) :: .ref (sx_ad Z a) :: st.map (sx_c Z)))
  refine sx_putW hx hb hts (sx_in ci hci) (sx_y ci) (sx_ty hci) (sx_nm hci) hown hK hR.2.2.1 (sx_D Z G μ) hS (a - 1) c4 (sx_cls_at hci) k hk (hts _ hw) hfin (sx_ty hci k hk) (by have := (sx_tag_ok ci hci k hk).2.2.1 ht; cases hq : sx_y ci k <;> rw [hq] at this <;> first | rfl | cases this) (by have := (sx_tag_ok ci hci k hk).2.2.1 ht; cases hq : sx_y ci k <;> rw [hq] at this <;> first | rfl | cases this) (by simpa using hk) hd (fun H1 locs1 hP hz1 hS1 => ?_)
  rw [c3] at hP
  refine h H1 locs1 lsA (sx_rel_put hR ⟨rfl, rfl⟩ c1 c2 ?_ (fun b hb => ⟨fun j => ?_, fun j => rfl⟩) hP (fun _ => hz1)) hS1 hl hn hs
  · simp only [sx_E, ho]
    congr 2
    refine (sx_fs_set hk ?_ (fun j hj => ?_)).symm
    · unfold sx_fv
      rw [if_pos ht]
      simp only [kx_upr]
      rw [if_pos ⟨trivial, trivial⟩, sx_rv, if_neg hz]
      rfl
    · have e : ¬ ((j : Int) = (k : Int)) := by omega
      simp only [sx_fv, kx_upr, e, and_false, if_false]
  · simp only [kx_upr]
    rw [if_neg (fun q => hb q.1)]
theorem si_iald {a n : Nat} {i : Int} (C : sx_C p s m args c cc nL own Z D L μ0) (hd : decode cc pc = .ok (.iaload, 1)) (ho : G.1 a = (2, n)) (h0 : 0 ≤ i) (h1 : i < n) (h : sx_at p l e R s m args below meth c nL Z D L μ0 n0 s0 Qf (pc + 1) ls (kI (μ a i) :: st) G μ) : sx_at p l e R s m args below meth c nL Z D L μ0 n0 s0 Qf pc ls (kI i :: kR a :: st) G μ := by
  intro H locs lsA hR hS hl hn hs
  obtain ⟨hx, hb, hml, hown, hts, hE⟩ := C
  have hK := hE.1
  obtain ⟨c1, c2, c3, c4⟩ := sx_cell hR (a := a) (by rw [ho]; exact Nat.le_of_ble_eq_true rfl) (by rw [ho]; exact Nat.le_of_ble_eq_true rfl)
  have hEa : sx_E Z G μ a = .inl (Z.2.2 2, n, .inl (fun j => Int32.ofInt (μ a j))) := by simp only [sx_E, ho]
  rw [hEa] at c4
  have hn5 : n ≤ 5000 := by have := hR.1.2.2.2.2.2.2.2.2.2 a (by rw [ho]; exact Nat.le_of_ble_eq_true rfl) (by rw [ho]; exact Nat.le_of_ble_eq_true rfl); rw [ho] at this; exact this
  change W p l e R s m args below meth c H locs _ _ Qf (F0 m pc lsA (.int (Int32.ofInt i) :: .ref (sx_ad Z a) :: st.map (sx_c Z)))
  have h := h H locs lsA hR hS hl hn hs
  change W p l e R s m args below meth c H locs _ _ Qf (F0 m _ lsA (.int (Int32.ofInt (μ a i)) :: st.map (sx_c Z))) at h
  refine va_iald hx hb hK hR.2.2.1 (a - 1) 0 c4 rfl (sx_vp h0 h1 (by omega)) hd ?_
  rw [sx_cl h0 (by omega), Int.toNat_of_nonneg h0]
  exact h
theorem si_lald {a n : Nat} {i : Int} (C : sx_C p s m args c cc nL own Z D L μ0) (hd : decode cc pc = .ok (.laload, 1)) (ho : G.1 a = (3, n)) (h0 : 0 ≤ i) (h1 : i < n) (h : sx_at p l e R s m args below meth c nL Z D L μ0 n0 s0 Qf (pc + 1) ls (kL (μ a i) :: st) G μ) : sx_at p l e R s m args below meth c nL Z D L μ0 n0 s0 Qf pc ls (kI i :: kR a :: st) G μ := by
  intro H locs lsA hR hS hl hn hs
  obtain ⟨hx, hb, hml, hown, hts, hE⟩ := C
  have hK := hE.1
  obtain ⟨c1, c2, c3, c4⟩ := sx_cell hR (a := a) (by rw [ho]; exact Nat.le_of_ble_eq_true rfl) (by rw [ho]; exact Nat.le_of_ble_eq_true rfl)
  have hEa : sx_E Z G μ a = .inl (Z.2.2 3, n, .inr (.inl (fun j => Int64.ofInt (μ a j)))) := by simp only [sx_E, ho]
  rw [hEa] at c4
  have hn5 : n ≤ 5000 := by have := hR.1.2.2.2.2.2.2.2.2.2 a (by rw [ho]; exact Nat.le_of_ble_eq_true rfl) (by rw [ho]; exact Nat.le_of_ble_eq_true rfl); rw [ho] at this; exact this
  change W p l e R s m args below meth c H locs _ _ Qf (F0 m pc lsA (.int (Int32.ofInt i) :: .ref (sx_ad Z a) :: st.map (sx_c Z)))
  have h := h H locs lsA hR hS hl hn hs
  change W p l e R s m args below meth c H locs _ _ Qf (F0 m _ lsA (.long (Int64.ofInt (μ a i)) :: st.map (sx_c Z))) at h
  refine va_lald hx hb hK hR.2.2.1 (a - 1) 1 c4 rfl (sx_vp h0 h1 (by omega)) hd ?_
  rw [sx_cl h0 (by omega), Int.toNat_of_nonneg h0]
  exact h
theorem si_zald {a n : Nat} {i : Int} (C : sx_C p s m args c cc nL own Z D L μ0) (hd : decode cc pc = .ok (.baload, 1)) (ho : G.1 a = (4, n)) (h0 : 0 ≤ i) (h1 : i < n) (h : sx_at p l e R s m args below meth c nL Z D L μ0 n0 s0 Qf (pc + 1) ls (kI (μ a i) :: st) G μ) : sx_at p l e R s m args below meth c nL Z D L μ0 n0 s0 Qf pc ls (kI i :: kR a :: st) G μ := by
  intro H locs lsA hR hS hl hn hs
  obtain ⟨hx, hb, hml, hown, hts, hE⟩ := C
  have hK := hE.1
  obtain ⟨c1, c2, c3, c4⟩ := sx_cell hR (a := a) (by rw [ho]; exact Nat.le_of_ble_eq_true rfl) (by rw [ho]; exact Nat.le_of_ble_eq_true rfl)
  have hEa : sx_E Z G μ a = .inl (Z.2.2 4, n, .inl (fun j => Int32.ofInt (μ a j))) := by simp only [sx_E, ho]
  rw [hEa] at c4
  have hn5 : n ≤ 5000 := by have := hR.1.2.2.2.2.2.2.2.2.2 a (by rw [ho]; exact Nat.le_of_ble_eq_true rfl) (by rw [ho]; exact Nat.le_of_ble_eq_true rfl); rw [ho] at this; exact this
  change W p l e R s m args below meth c H locs _ _ Qf (F0 m pc lsA (.int (Int32.ofInt i) :: .ref (sx_ad Z a) :: st.map (sx_c Z)))
  have h := h H locs lsA hR hS hl hn hs
  change W p l e R s m args below meth c H locs _ _ Qf (F0 m _ lsA (.int (Int32.ofInt (μ a i)) :: st.map (sx_c Z))) at h
  refine va_zald hx hb hK hR.2.2.1 (a - 1) 2 c4 rfl (sx_vp h0 h1 (by omega)) hd ?_
  rw [sx_cl h0 (by omega), Int.toNat_of_nonneg h0]
  exact h
theorem si_aald5 {a n : Nat} {i : Int} (C : sx_C p s m args c cc nL own Z D L μ0) (hd : decode cc pc = .ok (.aaload, 1)) (ho : G.1 a = (5, n)) (h0 : 0 ≤ i) (h1 : i < n) (hz : G.2.2 a i ≠ 0) (h : sx_at p l e R s m args below meth c nL Z D L μ0 n0 s0 Qf (pc + 1) ls (kR (G.2.2 a i) :: st) G μ) : sx_at p l e R s m args below meth c nL Z D L μ0 n0 s0 Qf pc ls (kI i :: kR a :: st) G μ := by
  intro H locs lsA hR hS hl hn hs
  obtain ⟨hx, hb, hml, hown, hts, hE⟩ := C
  have hK := hE.1
  obtain ⟨c1, c2, c3, c4⟩ := sx_cell hR (a := a) (by rw [ho]; exact Nat.le_of_ble_eq_true rfl) (by rw [ho]; exact Nat.le_of_ble_eq_true rfl)
  have hEa : sx_E Z G μ a = .inl (Z.2.2 5, n, .inr (.inr (.inr (.inr (fun j => sx_rv Z (G.2.2 a j)))))) := by simp only [sx_E, ho]
  rw [hEa] at c4
  have hn5 : n ≤ 5000 := by have := hR.1.2.2.2.2.2.2.2.2.2 a (by rw [ho]; exact Nat.le_of_ble_eq_true rfl) (by rw [ho]; exact Nat.le_of_ble_eq_true rfl); rw [ho] at this; exact this
  change W p l e R s m args below meth c H locs _ _ Qf (F0 m pc lsA (.int (Int32.ofInt i) :: .ref (sx_ad Z a) :: st.map (sx_c Z)))
  have h := h H locs lsA hR hS hl hn hs
  change W p l e R s m args below meth c H locs _ _ Qf (F0 m _ lsA (.ref (sx_ad Z (G.2.2 a i)) :: st.map (sx_c Z))) at h
  refine va_aldq hx hb hK hR.2.2.1 (a - 1) 3 c4 rfl (sx_vp h0 h1 (by omega)) hd ?_
  rw [sx_cl h0 (by omega), Int.toNat_of_nonneg h0, sx_rv, if_neg hz]
  exact h
theorem si_aald6 {a n : Nat} {i : Int} (C : sx_C p s m args c cc nL own Z D L μ0) (hd : decode cc pc = .ok (.aaload, 1)) (ho : G.1 a = (6, n)) (h0 : 0 ≤ i) (h1 : i < n) (hz : G.2.2 a i ≠ 0) (h : sx_at p l e R s m args below meth c nL Z D L μ0 n0 s0 Qf (pc + 1) ls (kR (G.2.2 a i) :: st) G μ) : sx_at p l e R s m args below meth c nL Z D L μ0 n0 s0 Qf pc ls (kI i :: kR a :: st) G μ := by
  intro H locs lsA hR hS hl hn hs
  obtain ⟨hx, hb, hml, hown, hts, hE⟩ := C
  have hK := hE.1
  obtain ⟨c1, c2, c3, c4⟩ := sx_cell hR (a := a) (by rw [ho]; exact Nat.le_of_ble_eq_true rfl) (by rw [ho]; exact Nat.le_of_ble_eq_true rfl)
  have hEa : sx_E Z G μ a = .inl (Z.2.2 6, n, .inr (.inr (.inr (.inr (fun j => sx_rv Z (G.2.2 a j)))))) := by simp only [sx_E, ho]
  rw [hEa] at c4
  have hn5 : n ≤ 5000 := by have := hR.1.2.2.2.2.2.2.2.2.2 a (by rw [ho]; exact Nat.le_of_ble_eq_true rfl) (by rw [ho]; exact Nat.le_of_ble_eq_true rfl); rw [ho] at this; exact this
  change W p l e R s m args below meth c H locs _ _ Qf (F0 m pc lsA (.int (Int32.ofInt i) :: .ref (sx_ad Z a) :: st.map (sx_c Z)))
  have h := h H locs lsA hR hS hl hn hs
  change W p l e R s m args below meth c H locs _ _ Qf (F0 m _ lsA (.ref (sx_ad Z (G.2.2 a i)) :: st.map (sx_c Z))) at h
  refine va_aldq hx hb hK hR.2.2.1 (a - 1) 4 c4 rfl (sx_vp h0 h1 (by omega)) hd ?_
  rw [sx_cl h0 (by omega), Int.toNat_of_nonneg h0, sx_rv, if_neg hz]
  exact h
theorem si_iald7 {a n : Nat} {i : Int} (C : sx_C p s m args c cc nL own Z D L μ0) (hd : decode cc pc = .ok (.iaload, 1)) (ho : G.1 a = (7, n)) (h0 : 0 ≤ i) (h1 : i < n) (h : sx_at p l e R s m args below meth c nL Z D L μ0 n0 s0 Qf (pc + 1) ls (kI (μ a i) :: st) G μ) : sx_at p l e R s m args below meth c nL Z D L μ0 n0 s0 Qf pc ls (kI i :: kR a :: st) G μ := by
  intro H locs lsA hR hS hl hn hs
  obtain ⟨hx, hb, hml, hown, hts, hE⟩ := C
  have hK := hE.1
  have h := h H locs lsA hR hS hl hn hs
  change W p l e R s m args below meth c H locs _ _ Qf (F0 m _ lsA (.int (Int32.ofInt (μ a i)) :: st.map (sx_c Z))) at h
  change W p l e R s m args below meth c H locs _ _ Qf (F0 m pc lsA (.int (Int32.ofInt i) :: .ref (sx_ad Z a) :: st.map (sx_c Z)))
  obtain ⟨-, hz, hst, ⟨hX, hXa⟩, hL5, -⟩ := hE
  obtain ⟨-, -, -, -, b5, b6, b7, b8, b9, -⟩ := hR.1
  have hmu := hR.2.2.2
  have had : ∀ k, 101 ≤ k → sx_ad Z k = Z.2.1 k := fun k hk => by unfold sx_ad; rw [if_neg (by omega)]
  have tab : ∀ k, k = 101 ∨ k = 102 ∨ k = 103 → a = k → n = 6 → W p l e R s m args below meth c H locs (G.2.1 - n0) (sx_sl G - s0) Qf (F0 m pc lsA (.int (Int32.ofInt i) :: .ref (sx_ad Z a) :: st.map (sx_c Z))) := by
    intro k hk ea en
    subst ea; subst en
    rw [had a (by omega)]
    refine va_ti hx hb (hst a hk).2 hS (sx_vp h0 h1 (by omega)) rfl hd ?_
    rw [sx_cl h0 (by omega), Int.toNat_of_nonneg h0, ← hmu a (by omega)]
    exact h
  rcases b5 a (by rw [ho]) with ea | ea | ea | ea
  · exact tab 101 (by omega) ea (by rw [ea, b6] at ho; have := congrArg Prod.snd ho; exact this.symm)
  · exact tab 102 (by omega) ea (by rw [ea, b7] at ho; have := congrArg Prod.snd ho; exact this.symm)
  · exact tab 103 (by omega) ea (by rw [ea, b8] at ho; have := congrArg Prod.snd ho; exact this.symm)
  · have en : L = n := by rw [ea, b9] at ho; exact congrArg Prod.snd ho
    subst ea; subst en
    rw [had 104 (by omega)]
    refine va_sld hx hb hX (by omega) (by omega) hS (sx_vp h0 h1 (by omega)) hd ?_
    rw [sx_cl h0 (by omega), Int.toNat_of_nonneg h0, ← hmu 104 (by omega)]
    exact h
theorem si_alen {a n : Nat} (C : sx_C p s m args c cc nL own Z D L μ0) (hd : decode cc pc = .ok (.arraylength, 1)) (ho : G.1 a = (2, n)) (h : sx_at p l e R s m args below meth c nL Z D L μ0 n0 s0 Qf (pc + 1) ls (kI n :: st) G μ) : sx_at p l e R s m args below meth c nL Z D L μ0 n0 s0 Qf pc ls (kR a :: st) G μ := by
  intro H locs lsA hR hS hl hn hs
  obtain ⟨hx, hb, hml, hown, hts, hE⟩ := C
  have hK := hE.1
  obtain ⟨c1, c2, c3, c4⟩ := sx_cell hR (a := a) (by rw [ho]; exact Nat.le_of_ble_eq_true rfl) (by rw [ho]; exact Nat.le_of_ble_eq_true rfl)
  have hEa : sx_E Z G μ a = .inl (Z.2.2 2, n, .inl (fun j => Int32.ofInt (μ a j))) := by simp only [sx_E, ho]
  rw [hEa] at c4
  have hn5 : n ≤ 5000 := by have := hR.1.2.2.2.2.2.2.2.2.2 a (by rw [ho]; exact Nat.le_of_ble_eq_true rfl) (by rw [ho]; exact Nat.le_of_ble_eq_true rfl); rw [ho] at this; exact this
  change W p l e R s m args below meth c H locs _ _ Qf (F0 m pc lsA (.ref (sx_ad Z a) :: st.map (sx_c Z)))
  have h := h H locs lsA hR hS hl hn hs
  exact va_alen hx hb hK hR.2.2.1 (a - 1) 0 c4 rfl (Int32.ofInt_eq_ofNat).symm hd h
theorem si_alen7 {n : Nat} (C : sx_C p s m args c cc nL own Z D L μ0) (hd : decode cc pc = .ok (.arraylength, 1)) (ho : G.1 104 = (7, n)) (h : sx_at p l e R s m args below meth c nL Z D L μ0 n0 s0 Qf (pc + 1) ls (kI n :: st) G μ) : sx_at p l e R s m args below meth c nL Z D L μ0 n0 s0 Qf pc ls (kR 104 :: st) G μ := by
  intro H locs lsA hR hS hl hn hs
  obtain ⟨hx, hb, hml, hown, hts, hE⟩ := C
  have hK := hE.1
  change W p l e R s m args below meth c H locs _ _ Qf (F0 m pc lsA (.ref (sx_ad Z 104) :: st.map (sx_c Z)))
  have h := h H locs lsA hR hS hl hn hs
  obtain ⟨-, hz, hst, ⟨hX, hXa⟩, hL5, -⟩ := hE
  have en : L = n := by have := hR.1.2.2.2.2.2.2.2.2.1; rw [this] at ho; exact congrArg Prod.snd ho
  subst en
  have had : sx_ad Z 104 = Z.2.1 104 := rfl
  rw [had]
  refine va_slen hx hb hX (by omega) (by omega) hS hd ?_
  rw [show Int32.ofNat L = Int32.ofInt L from Int32.ofInt_eq_ofNat.symm]
  exact h
theorem si_getstatic {i k : Nat} (C : sx_C p s m args c cc nL own Z D L μ0) (hd : decode cc pc = .ok (.getstatic i, 3)) (hk : k = 101 ∨ k = 102 ∨ k = 103) (hw : Jvm.Cond.fieldLink own i "HatOrders$Kinds" (sx_stn k) "[I" ∈ sx_tb) (h : sx_at p l e R s m args below meth c nL Z D L μ0 n0 s0 Qf (pc + 3) ls (kR k :: st) G μ) : sx_at p l e R s m args below meth c nL Z D L μ0 n0 s0 Qf pc ls st G μ := by
  intro H locs lsA hR hS hl hn hs
  obtain ⟨hx, hb, hml, hown, hts, hE⟩ := C
  have hK := hE.1
  have h := h H locs lsA hR hS hl hn hs
  have had : sx_ad Z k = Z.2.1 k := by unfold sx_ad; rw [if_neg (by omega)]
  change W p l e R s m args below meth c H locs _ _ Qf (F0 m _ lsA (.ref (sx_ad Z k) :: st.map (sx_c Z))) at h
  rw [had] at h
  exact va_gets hx hb (hE.2.2.1 k hk).1 hS hown (hts _ hw) (fun _ h => h) hd h
theorem si_getstaticI {i : Nat} (C : sx_C p s m args c cc nL own Z D L μ0) (hd : decode cc pc = .ok (.getstatic i, 3)) (hw : Jvm.Cond.fieldLink own i "java/lang/String" "COMPACT_STRINGS" "Z" ∈ sx_tb) (h : sx_at p l e R s m args below meth c nL Z D L μ0 n0 s0 Qf (pc + 3) ls (kI 1 :: st) G μ) : sx_at p l e R s m args below meth c nL Z D L μ0 n0 s0 Qf pc ls st G μ := by
  intro H locs lsA hR hS hl hn hs
  obtain ⟨hx, hb, hml, hown, hts, hE⟩ := C
  have hK := hE.1
  have h := h H locs lsA hR hS hl hn hs
  change W p l e R s m args below meth c H locs _ _ Qf (F0 m _ lsA (.int (Int32.ofInt 1) :: st.map (sx_c Z))) at h
  rw [show Int32.ofInt 1 = 1 by decide] at h
  exact va_gets hx hb hE.2.2.2.2.2.2.2.2.2.2.2.2.2 hS hown (hts _ hw) (fun _ h => h) hd h
theorem si_getSr {i : Nat} (C : sx_C p s m args c cc nL own Z D L μ0) (hd : decode cc pc = .ok (.getfield i, 3)) (hw : Jvm.Cond.fieldLink own i "java/lang/String" "value" "[B" ∈ sx_tb) (h : sx_at p l e R s m args below meth c nL Z D L μ0 n0 s0 Qf (pc + 3) ls (kR 106 :: st) G μ) : sx_at p l e R s m args below meth c nL Z D L μ0 n0 s0 Qf pc ls (kR 105 :: st) G μ := by
  intro H locs lsA hR hS hl hn hs
  obtain ⟨hx, hb, hml, hown, hts, hE⟩ := C
  have hK := hE.1
  exact vk_getf hx hb hE.2.2.2.2.2.2.2.2.2.2.2.1 hS hown (hts _ hw) (fun _ h => h) hd (h H locs lsA hR hS hl hn hs)
theorem si_getSi {i : Nat} (C : sx_C p s m args c cc nL own Z D L μ0) (hd : decode cc pc = .ok (.getfield i, 3)) (hw : Jvm.Cond.fieldLink own i "java/lang/String" "coder" "B" ∈ sx_tb) (h : sx_at p l e R s m args below meth c nL Z D L μ0 n0 s0 Qf (pc + 3) ls (kI 0 :: st) G μ) : sx_at p l e R s m args below meth c nL Z D L μ0 n0 s0 Qf pc ls (kR 105 :: st) G μ := by
  intro H locs lsA hR hS hl hn hs
  obtain ⟨hx, hb, hml, hown, hts, hE⟩ := C
  have hK := hE.1
  have h := h H locs lsA hR hS hl hn hs
  change W p l e R s m args below meth c H locs _ _ Qf (F0 m _ lsA (.int (Int32.ofInt 0) :: st.map (sx_c Z))) at h
  rw [show Int32.ofInt 0 = 0 by decide] at h
  exact vk_getf hx hb hE.2.2.2.2.2.2.2.2.2.2.1 hS hown (hts _ hw) (fun _ h => h) hd h
theorem si_bal10 {i : Int} (C : sx_C p s m args c cc nL own Z D L μ0) (hd : decode cc pc = .ok (.baload, 1)) (h0 : 0 ≤ i) (h1 : i < 5) (h : sx_at p l e R s m args below meth c nL Z D L μ0 n0 s0 Qf (pc + 1) ls (kI (μ 106 i) :: st) G μ) : sx_at p l e R s m args below meth c nL Z D L μ0 n0 s0 Qf pc ls (kI i :: kR 106 :: st) G μ := by
  intro H locs lsA hR hS hl hn hs
  obtain ⟨hx, hb, hml, hown, hts, hE⟩ := C
  have hK := hE.1
  have h := h H locs lsA hR hS hl hn hs
  change W p l e R s m args below meth c H locs _ _ Qf (F0 m _ lsA (.int (Int32.ofInt (μ 106 i)) :: st.map (sx_c Z))) at h
  change W p l e R s m args below meth c H locs _ _ Qf (F0 m pc lsA (.int (Int32.ofInt i) :: .ref (sx_ad Z 106) :: st.map (sx_c Z)))
  refine va_tb hx hb hE.2.2.2.2.2.2.2.2.2.2.2.2.1 hS (sx_vp h0 h1 (by omega)) rfl hd ?_
  rw [sx_cl h0 (by omega), Int.toNat_of_nonneg h0, ← hR.2.2.2 106 (by omega)]
  exact h
theorem si_alen10 (C : sx_C p s m args c cc nL own Z D L μ0) (hd : decode cc pc = .ok (.arraylength, 1)) (h : sx_at p l e R s m args below meth c nL Z D L μ0 n0 s0 Qf (pc + 1) ls (kI 5 :: st) G μ) : sx_at p l e R s m args below meth c nL Z D L μ0 n0 s0 Qf pc ls (kR 106 :: st) G μ := by
  intro H locs lsA hR hS hl hn hs
  obtain ⟨hx, hb, hml, hown, hts, hE⟩ := C
  have hK := hE.1
  exact va_tlen hx hb hE.2.2.2.2.2.2.2.2.2.2.2.2.1 hS (by decide) hd (h H locs lsA hR hS hl hn hs)
theorem si_ldcS (C : sx_C p s m args c cc nL own Z D L μ0) (hd : decode cc pc = .ok (.ldc 9, 2)) (ho : own = "HatOrders$Kinds") (h : sx_at p l e R s m args below meth c nL Z D L μ0 n0 s0 Qf (pc + 2) ls (kR 105 :: st) G μ) : sx_at p l e R s m args below meth c nL Z D L μ0 n0 s0 Qf pc ls st G μ := by
  intro H locs lsA hR hS hl hn hs
  obtain ⟨hx, hb, hml, hown, hts, hE⟩ := C
  have hK := hE.1
  subst ho
  exact va_ldcS hx hb hown hE.2.2.2.2.2.2.2.2.1 hd (h H locs lsA hR hS hl hn hs)
end SM
end
section
section SN
variable {p : Program} {l : Launch} {e : Env} {R : Room} {s : State} {m : MethodId} {args : Array Value} {below : List Frame} {meth : Method} {c : Code} {cc : ByteArray} {nL L n0 s0 : Nat} {own : String} {Z : sx_Z} {D : va_G} {μ0 : kx_M} {Qf : State → Prop} {pc : Nat} {ls : kx_L} {st : List kx_V} {G : kx_G} {μ : kx_M}
variable {H : Heap} {locs : List Loc} {cells slots : Nat} {lsA : Array Slot} {rest : List Value} {cl : List vw_C} {A : Nat → Prop} {a : Nat} {tys : List (ClassId × FieldType)} {ws : va_W} {H0 : Heap}
theorem sx_iastW (hexec : p.tables.exec = Jvm.exec) (hb : c.code = cc) (hK : va_K D cl tys s) (hP : va_P D cl ws H) (hD : va_D A ws) (hS : va_S A H0 H locs) (q0 t0 : Nat) {cA : ClassId} {n : Nat} {f : Nat → Int32} (ha : ws[q0]? = some (a, .inl (cA, n, .inl f))) (ht : tys[t0]? = some (cA, .int)) {i : Int32} {x : Int32} (hin : vp_in i n) (hdg : decode cc pc = .ok (.iastore, 1))
    (kk : ∀ (H1 : Heap) (locs1 : List Loc), va_P D cl (ws.set q0 (a, .inl (cA, n, .inl (upd f i.toNatClampNeg x)))) H1 → H1.size = H.size → va_S A H0 H1 locs1 → W p l e R s m args below meth c H1 locs1 cells slots Qf (F0 m (pc + 1) lsA rest)) : W p l e R s m args below meth c H locs cells slots Qf (F0 m pc lsA (.int x :: .int i :: .ref a :: rest)) := by
  refine W.iast hexec hb (hP q0 _ ha) ((hK.2 t0 _ ht).1 n (fun j => .int (f j))) (fun q => by cases q) (by show ¬ (i < 0 ∨ (arrV _ _ _).slots.size ≤ _); rw [arrV_size]; exact hin) rfl rfl hdg fun H1 e z oq => ?_
  refine kk H1 _ (hP.set hD ha ?_ oq) z (hS.put z oq (hD.2 q0 _ ha))
  show H1[a]? = some (vp_cell _ _)
  rw [e]
  rw [vp_cell_i, vp_cell_i, arrV_store]
  congr 2
  funext q
  by_cases hq : q = i.toNatClampNeg
  · subst hq
    simp [updV, upd]
    
  · simp [updV, upd, hq]
theorem sx_lastW (hexec : p.tables.exec = Jvm.exec) (hb : c.code = cc) (hK : va_K D cl tys s) (hP : va_P D cl ws H) (hD : va_D A ws) (hS : va_S A H0 H locs) (q0 t0 : Nat) {cA : ClassId} {n : Nat} {f : Nat → Int64} (ha : ws[q0]? = some (a, .inl (cA, n, .inr (.inl f)))) (ht : tys[t0]? = some (cA, .long)) {i : Int32} {x : Int64} (hin : vp_in i n) (hdg : decode cc pc = .ok (.lastore, 1))
    (kk : ∀ (H1 : Heap) (locs1 : List Loc), va_P D cl (ws.set q0 (a, .inl (cA, n, .inr (.inl (vp_updL f i.toNatClampNeg x))))) H1 → H1.size = H.size → va_S A H0 H1 locs1 → W p l e R s m args below meth c H1 locs1 cells slots Qf (F0 m (pc + 1) lsA rest)) : W p l e R s m args below meth c H locs cells slots Qf (F0 m pc lsA (.long x :: .int i :: .ref a :: rest)) := by
  refine W.last hexec hb (hP q0 _ ha) ((hK.2 t0 _ ht).1 n (fun j => .long (f j))) (fun q => by cases q) (by show ¬ (i < 0 ∨ (arrV _ _ _).slots.size ≤ _); rw [arrV_size]; exact hin) rfl rfl hdg fun H1 e z oq => ?_
  refine kk H1 _ (hP.set hD ha ?_ oq) z (hS.put z oq (hD.2 q0 _ ha))
  show H1[a]? = some (vp_cell _ _)
  rw [e]
  rw [vp_cell_l, vp_cell_l, arrV_store]
  congr 2
  funext q
  by_cases hq : q = i.toNatClampNeg
  · subst hq
    simp [updV, vp_updL]
    
  · simp [updV, vp_updL, hq]
theorem sx_zastW (hexec : p.tables.exec = Jvm.exec) (hb : c.code = cc) (hK : va_K D cl tys s) (hP : va_P D cl ws H) (hD : va_D A ws) (hS : va_S A H0 H locs) (q0 t0 : Nat) {cA : ClassId} {n : Nat} {f : Nat → Int32} (ha : ws[q0]? = some (a, .inl (cA, n, .inl f))) (ht : tys[t0]? = some (cA, .boolean)) {i : Int32} {x : Int32} (hin : vp_in i n) (hdg : decode cc pc = .ok (.bastore, 1))
    (kk : ∀ (H1 : Heap) (locs1 : List Loc), va_P D cl (ws.set q0 (a, .inl (cA, n, .inl (upd f i.toNatClampNeg (vp_nar .boolean x))))) H1 → H1.size = H.size → va_S A H0 H1 locs1 → W p l e R s m args below meth c H1 locs1 cells slots Qf (F0 m (pc + 1) lsA rest)) : W p l e R s m args below meth c H locs cells slots Qf (F0 m pc lsA (.int x :: .int i :: .ref a :: rest)) := by
  refine W.zast hexec hb (hP q0 _ ha) ((hK.2 t0 _ ht).1 n (fun j => .int (f j))) (fun q => by cases q) (by show ¬ (i < 0 ∨ (arrV _ _ _).slots.size ≤ _); rw [arrV_size]; exact hin) rfl rfl hdg fun H1 e z oq => ?_
  refine kk H1 _ (hP.set hD ha ?_ oq) z (hS.put z oq (hD.2 q0 _ ha))
  show H1[a]? = some (vp_cell _ _)
  rw [e]
  rw [vp_cell_i, vp_cell_i, arrV_store]
  congr 2
  funext q
  by_cases hq : q = i.toNatClampNeg
  · subst hq
    simp [updV, upd]
    rfl
  · simp [updV, upd, hq]
theorem sx_astqW (hexec : p.tables.exec = Jvm.exec) (hb : c.code = cc) (hK : va_K D cl tys s) (hP : va_P D cl ws H) (hD : va_D A ws) (hS : va_S A H0 H locs) (q0 t0 qk ci : Nat) {cA : ClassId} {r : vw_C} {n v : Nat} {vs : List Value} {f : Nat → Option Nat} (ha : ws[q0]? = some (a, .inl (cA, n, .inr (.inr (.inr (.inr f)))))) (ht : tys[t0]? = some (cA, .object r.1)) (hv : ws[qk]? = some (v, .inr (ci, vs))) (hc : cl[ci]? = some r) {i : Int32} (hin : vp_in i n) (hdg : decode cc pc = .ok (.aastore, 1))
    (kk : ∀ (H1 : Heap) (locs1 : List Loc), va_P D cl (ws.set q0 (a, .inl (cA, n, .inr (.inr (.inr (.inr (va_up f i.toNatClampNeg (some v)))))))) H1 → H1.size = H.size → va_S A H0 H1 locs1 → W p l e R s m args below meth c H1 locs1 cells slots Qf (F0 m (pc + 1) lsA rest)) : W p l e R s m args below meth c H locs cells slots Qf (F0 m pc lsA (.ref v :: .int i :: .ref a :: rest)) := by
  have hlt : i.toNatClampNeg < n := Nat.not_le.mp fun q => hin (Or.inr q)
  have h0 : ¬ i < 0 := fun q => hin (Or.inl q)
  obtain ⟨r', hr', cellV, g1, g2, g3, -⟩ := hP qk _ hv
  have hcls := (hK.1 ci r hc).2
  obtain ⟨kA, comp, k1, k2, k3, -⟩ := (hK.2 t0 _ ht).2
  have hcomp : comp = D.1 ci := Option.some.inj (k3.symm.trans hcls.1)
  subst hcomp
  obtain ⟨kC, hkC, -⟩ := hcls.2
  refine W.aast hexec hb (hP q0 _ ha) (fun q h => by cases h) (fun h => by cases h) k1 k2 rfl hkC ⟨h0, by show _ < (arrV _ _ _).slots.size; rw [arrV_size]; exact hlt⟩ g1 (fun q h => by rw [g3] at h; cases h) (by rw [g2]; exact hkC) (by rw [g2]; exact va_assign hcls) rfl rfl hdg fun H1 e z oq => ?_
  refine kk H1 _ (hP.set hD ha ?_ oq) z (hS.put z oq (hD.2 q0 _ ha))
  show H1[a]? = some (vp_cell _ _)
  rw [e]
  rw [vp_cell_q, vp_cell_q, arrV_store]
  congr 2
  funext q
  by_cases hq : q = i.toNatClampNeg
  · subst hq
    simp [updV, va_up, va_rf]
  · simp [updV, va_up, hq]
theorem si_iast {a n : Nat} {i v : Int} (C : sx_C p s m args c cc nL own Z D L μ0) (hd : decode cc pc = .ok (.iastore, 1)) (ho : G.1 a = (2, n)) (h0 : 0 ≤ i) (h1 : i < n) (h : sx_at p l e R s m args below meth c nL Z D L μ0 n0 s0 Qf (pc + 1) ls st G (kx_up μ a i v)) : sx_at p l e R s m args below meth c nL Z D L μ0 n0 s0 Qf pc ls (kI v :: kI i :: kR a :: st) G μ := by
  intro H locs lsA hR hS hl hn hs
  obtain ⟨hx, hb, hml, hown, hts, hE⟩ := C
  have hK := hE.1
  obtain ⟨c1, c2, c3, c4⟩ := sx_cell hR (a := a) (by rw [ho]; exact Nat.le_of_ble_eq_true rfl) (by rw [ho]; exact Nat.le_of_ble_eq_true rfl)
  have hEa : sx_E Z G μ a = .inl (Z.2.2 2, n, .inl (fun j => Int32.ofInt (μ a j))) := by simp only [sx_E, ho]
  rw [hEa] at c4
  have hn5 : n ≤ 5000 := by have := hR.1.2.2.2.2.2.2.2.2.2 a (by rw [ho]; exact Nat.le_of_ble_eq_true rfl) (by rw [ho]; exact Nat.le_of_ble_eq_true rfl); rw [ho] at this; exact this
  change W p l e R s m args below meth c H locs _ _ Qf (F0 m pc lsA (.int (Int32.ofInt v) :: .int (Int32.ofInt i) :: .ref (sx_ad Z a) :: st.map (sx_c Z)))
  refine sx_iastW hx hb hK hR.2.2.1 (sx_D Z G μ) hS (a - 1) 0 c4 rfl (sx_vp h0 h1 (by omega)) hd (fun H1 locs1 hP hz1 hS1 => ?_)
  rw [c3, sx_cl h0 (by omega)] at hP
  refine h H1 locs1 lsA (sx_rel_put hR ⟨rfl, rfl⟩ c1 c2 ?_ (fun b hb => ⟨fun j => rfl, fun j => ?_⟩) hP (fun _ => hz1)) hS1 hl hn hs
  · simp only [sx_E, ho]
    congr 4
    funext j
    simp only [kx_up, upd]
    by_cases e : (j : Int) = i
    · rw [if_pos ⟨trivial, e⟩, if_pos (by omega)]
    · rw [if_neg (fun q => e q.2), if_neg (by omega)]
  · simp only [kx_up]
    rw [if_neg (fun q => hb q.1)]
theorem si_last {a n : Nat} {i v : Int} (C : sx_C p s m args c cc nL own Z D L μ0) (hd : decode cc pc = .ok (.lastore, 1)) (ho : G.1 a = (3, n)) (h0 : 0 ≤ i) (h1 : i < n) (h : sx_at p l e R s m args below meth c nL Z D L μ0 n0 s0 Qf (pc + 1) ls st G (kx_up μ a i v)) : sx_at p l e R s m args below meth c nL Z D L μ0 n0 s0 Qf pc ls (kL v :: kI i :: kR a :: st) G μ := by
  intro H locs lsA hR hS hl hn hs
  obtain ⟨hx, hb, hml, hown, hts, hE⟩ := C
  have hK := hE.1
  obtain ⟨c1, c2, c3, c4⟩ := sx_cell hR (a := a) (by rw [ho]; exact Nat.le_of_ble_eq_true rfl) (by rw [ho]; exact Nat.le_of_ble_eq_true rfl)
  have hEa : sx_E Z G μ a = .inl (Z.2.2 3, n, .inr (.inl (fun j => Int64.ofInt (μ a j)))) := by simp only [sx_E, ho]
  rw [hEa] at c4
  have hn5 : n ≤ 5000 := by have := hR.1.2.2.2.2.2.2.2.2.2 a (by rw [ho]; exact Nat.le_of_ble_eq_true rfl) (by rw [ho]; exact Nat.le_of_ble_eq_true rfl); rw [ho] at this; exact this
  change W p l e R s m args below meth c H locs _ _ Qf (F0 m pc lsA (.long (Int64.ofInt v) :: .int (Int32.ofInt i) :: .ref (sx_ad Z a) :: st.map (sx_c Z)))
  refine sx_lastW hx hb hK hR.2.2.1 (sx_D Z G μ) hS (a - 1) 1 c4 rfl (sx_vp h0 h1 (by omega)) hd (fun H1 locs1 hP hz1 hS1 => ?_)
  rw [c3, sx_cl h0 (by omega)] at hP
  refine h H1 locs1 lsA (sx_rel_put hR ⟨rfl, rfl⟩ c1 c2 ?_ (fun b hb => ⟨fun j => rfl, fun j => ?_⟩) hP (fun _ => hz1)) hS1 hl hn hs
  · simp only [sx_E, ho]
    congr 5
    funext j
    simp only [kx_up, vp_updL]
    by_cases e : (j : Int) = i
    · rw [if_pos ⟨trivial, e⟩, if_pos (by omega)]
    · rw [if_neg (fun q => e q.2), if_neg (by omega)]
  · simp only [kx_up]
    rw [if_neg (fun q => hb q.1)]
theorem si_zast {a n : Nat} {i v : Int} (C : sx_C p s m args c cc nL own Z D L μ0) (hd : decode cc pc = .ok (.bastore, 1)) (ho : G.1 a = (4, n)) (h0 : 0 ≤ i) (h1 : i < n) (hz : v = 0 ∨ v = 1) (h : sx_at p l e R s m args below meth c nL Z D L μ0 n0 s0 Qf (pc + 1) ls st G (kx_up μ a i v)) : sx_at p l e R s m args below meth c nL Z D L μ0 n0 s0 Qf pc ls (kI v :: kI i :: kR a :: st) G μ := by
  intro H locs lsA hR hS hl hn hs
  obtain ⟨hx, hb, hml, hown, hts, hE⟩ := C
  have hK := hE.1
  obtain ⟨c1, c2, c3, c4⟩ := sx_cell hR (a := a) (by rw [ho]; exact Nat.le_of_ble_eq_true rfl) (by rw [ho]; exact Nat.le_of_ble_eq_true rfl)
  have hEa : sx_E Z G μ a = .inl (Z.2.2 4, n, .inl (fun j => Int32.ofInt (μ a j))) := by simp only [sx_E, ho]
  rw [hEa] at c4
  have hn5 : n ≤ 5000 := by have := hR.1.2.2.2.2.2.2.2.2.2 a (by rw [ho]; exact Nat.le_of_ble_eq_true rfl) (by rw [ho]; exact Nat.le_of_ble_eq_true rfl); rw [ho] at this; exact this
  change W p l e R s m args below meth c H locs _ _ Qf (F0 m pc lsA (.int (Int32.ofInt v) :: .int (Int32.ofInt i) :: .ref (sx_ad Z a) :: st.map (sx_c Z)))
  refine sx_zastW hx hb hK hR.2.2.1 (sx_D Z G μ) hS (a - 1) 2 c4 rfl (sx_vp h0 h1 (by omega)) hd (fun H1 locs1 hP hz1 hS1 => ?_)
  rw [c3, sx_cl h0 (by omega)] at hP
  refine h H1 locs1 lsA (sx_rel_put hR ⟨rfl, rfl⟩ c1 c2 ?_ (fun b hb => ⟨fun j => rfl, fun j => ?_⟩) hP (fun _ => hz1)) hS1 hl hn hs
  · simp only [sx_E, ho]
    congr 4
    funext j
    simp only [kx_up, upd]
    by_cases e : (j : Int) = i
    · rw [if_pos ⟨trivial, e⟩, if_pos (by omega)]
      rcases hz with rfl | rfl <;> rfl
    · rw [if_neg (fun q => e q.2), if_neg (by omega)]
  · simp only [kx_up]
    rw [if_neg (fun q => hb q.1)]
theorem si_aast5 {a n v : Nat} {i : Int} (C : sx_C p s m args c cc nL own Z D L μ0) (hd : decode cc pc = .ok (.aastore, 1)) (ho : G.1 a = (5, n)) (hov : G.1 v = (1, 3)) (h0 : 0 ≤ i) (h1 : i < n) (hz : v ≠ 0) (h : sx_at p l e R s m args below meth c nL Z D L μ0 n0 s0 Qf (pc + 1) ls st (G.1, G.2.1, kx_upr G.2.2 a i v) μ) : sx_at p l e R s m args below meth c nL Z D L μ0 n0 s0 Qf pc ls (kR v :: kI i :: kR a :: st) G μ := by
  intro H locs lsA hR hS hl hn hs
  obtain ⟨hx, hb, hml, hown, hts, hE⟩ := C
  have hK := hE.1
  obtain ⟨c1, c2, c3, c4⟩ := sx_cell hR (a := a) (by rw [ho]; exact Nat.le_of_ble_eq_true rfl) (by rw [ho]; exact Nat.le_of_ble_eq_true rfl)
  have hEa : sx_E Z G μ a = .inl (Z.2.2 5, n, .inr (.inr (.inr (.inr (fun j => sx_rv Z (G.2.2 a j)))))) := by simp only [sx_E, ho]
  rw [hEa] at c4
  have hn5 : n ≤ 5000 := by have := hR.1.2.2.2.2.2.2.2.2.2 a (by rw [ho]; exact Nat.le_of_ble_eq_true rfl) (by rw [ho]; exact Nat.le_of_ble_eq_true rfl); rw [ho] at this; exact this
  obtain ⟨d1, d2, d3, d4⟩ := sx_cell hR (a := v) (by rw [hov]; exact Nat.le_refl 1) (by rw [hov]; exact Nat.le_of_ble_eq_true rfl)
  have hEv : sx_E Z G μ v = .inr (3, (List.range (sx_nf 3)).map (fun j => sx_fv Z G μ 3 v j)) := by simp only [sx_E, hov]
  rw [hEv] at d4
  change W p l e R s m args below meth c H locs _ _ Qf (F0 m pc lsA (.ref (sx_ad Z v) :: .int (Int32.ofInt i) :: .ref (sx_ad Z a) :: st.map (sx_c Z)))
  refine sx_astqW hx hb hK hR.2.2.1 (sx_D Z G μ) hS (a - 1) 3 (v - 1) 3 c4 rfl d4 (sx_cls_at (by decide)) (sx_vp h0 h1 (by omega)) hd (fun H1 locs1 hP hz1 hS1 => ?_)
  rw [c3, sx_cl h0 (by omega)] at hP
  refine h H1 locs1 lsA (sx_rel_put hR ⟨rfl, rfl⟩ c1 c2 ?_ (fun b hb => ⟨fun j => ?_, fun j => rfl⟩) hP (fun _ => hz1)) hS1 hl hn hs
  · simp only [sx_E, ho]
    congr 7
    funext j
    simp only [kx_upr, va_up]
    by_cases e : (j : Int) = i
    · rw [if_pos ⟨trivial, e⟩, if_pos (by omega), sx_rv, if_neg hz]
    · rw [if_neg (fun q => e q.2), if_neg (by omega)]
  · simp only [kx_upr]
    rw [if_neg (fun q => hb q.1)]
theorem si_aast6 {a n v : Nat} {i : Int} (C : sx_C p s m args c cc nL own Z D L μ0) (hd : decode cc pc = .ok (.aastore, 1)) (ho : G.1 a = (6, n)) (hov : G.1 v = (1, 5)) (h0 : 0 ≤ i) (h1 : i < n) (hz : v ≠ 0) (h : sx_at p l e R s m args below meth c nL Z D L μ0 n0 s0 Qf (pc + 1) ls st (G.1, G.2.1, kx_upr G.2.2 a i v) μ) : sx_at p l e R s m args below meth c nL Z D L μ0 n0 s0 Qf pc ls (kR v :: kI i :: kR a :: st) G μ := by
  intro H locs lsA hR hS hl hn hs
  obtain ⟨hx, hb, hml, hown, hts, hE⟩ := C
  have hK := hE.1
  obtain ⟨c1, c2, c3, c4⟩ := sx_cell hR (a := a) (by rw [ho]; exact Nat.le_of_ble_eq_true rfl) (by rw [ho]; exact Nat.le_of_ble_eq_true rfl)
  have hEa : sx_E Z G μ a = .inl (Z.2.2 6, n, .inr (.inr (.inr (.inr (fun j => sx_rv Z (G.2.2 a j)))))) := by simp only [sx_E, ho]
  rw [hEa] at c4
  have hn5 : n ≤ 5000 := by have := hR.1.2.2.2.2.2.2.2.2.2 a (by rw [ho]; exact Nat.le_of_ble_eq_true rfl) (by rw [ho]; exact Nat.le_of_ble_eq_true rfl); rw [ho] at this; exact this
  obtain ⟨d1, d2, d3, d4⟩ := sx_cell hR (a := v) (by rw [hov]; exact Nat.le_refl 1) (by rw [hov]; exact Nat.le_of_ble_eq_true rfl)
  have hEv : sx_E Z G μ v = .inr (5, (List.range (sx_nf 5)).map (fun j => sx_fv Z G μ 5 v j)) := by simp only [sx_E, hov]
  rw [hEv] at d4
  change W p l e R s m args below meth c H locs _ _ Qf (F0 m pc lsA (.ref (sx_ad Z v) :: .int (Int32.ofInt i) :: .ref (sx_ad Z a) :: st.map (sx_c Z)))
  refine sx_astqW hx hb hK hR.2.2.1 (sx_D Z G μ) hS (a - 1) 4 (v - 1) 5 c4 rfl d4 (sx_cls_at (by decide)) (sx_vp h0 h1 (by omega)) hd (fun H1 locs1 hP hz1 hS1 => ?_)
  rw [c3, sx_cl h0 (by omega)] at hP
  refine h H1 locs1 lsA (sx_rel_put hR ⟨rfl, rfl⟩ c1 c2 ?_ (fun b hb => ⟨fun j => ?_, fun j => rfl⟩) hP (fun _ => hz1)) hS1 hl hn hs
  · simp only [sx_E, ho]
    congr 7
    funext j
    simp only [kx_upr, va_up]
    by_cases e : (j : Int) = i
    · rw [if_pos ⟨trivial, e⟩, if_pos (by omega), sx_rv, if_neg hz]
    · rw [if_neg (fun q => e q.2), if_neg (by omega)]
  · simp only [kx_upr]
    rw [if_neg (fun q => hb q.1)]
end SN
end
section
section SO
variable {p : Program} {l : Launch} {e : Env} {R : Room} {s : State} {m : MethodId} {args : Array Value} {below : List Frame} {meth : Method} {c : Code} {cc : ByteArray} {nL L n0 s0 : Nat} {own : String} {Z : sx_Z} {D : va_G} {μ0 : kx_M} {Qf : State → Prop} {pc : Nat} {ls : kx_L} {st : List kx_V} {G : kx_G} {μ : kx_M}
theorem sx_rel_new {Z : sx_Z} {D : va_G} {L : Nat} {μ0 : kx_M} {G : kx_G} {μ : kx_M} {H H1 : Heap} {q : Nat × Nat} (hR : sx_rel Z D L μ0 G μ H) (h9 : G.2.1 + 1 ≤ 91) (hk : 1 ≤ q.1 ∧ q.1 ≤ 6) (hc : q.1 = 1 → q.2 < 8) (hl : 2 ≤ q.1 → q.2 ≤ 5000) (hz : H1.size = H.size + 1) (ho : ∀ i, i < H.size → H1[i]? = H[i]?) (hat : va_at D sx_cls (Z.1 + G.2.1, sx_E Z (kx_new G q) (kx_zero μ G.2.1) G.2.1) H1) : sx_rel Z D L μ0 (kx_new G q) (kx_zero μ G.2.1) H1 := by
  obtain ⟨w, z, hP, m⟩ := hR
  have hz0 := z (by omega)
  refine ⟨sx_wf_new w (by omega) hk hc hl, fun _ => by rw [hz, hz0]; rfl, ?_, fun k hk => ?_⟩
  · rw [sx_ws_push q w.1]
    refine va_P.app (hP.kept (fun k x hx => ho x.1 ((hP k x hx).lt))) (fun k x hx => ?_)
    have h1 : k < 1 := (List.getElem?_eq_some_iff.mp hx).1
    have h0 : k = 0 := by omega
    subst h0
    cases hx
    exact hat
  · rw [← m k hk]
    funext j
    simp only [kx_zero]
    rw [if_neg (by omega)]
theorem sx_S_new {A : Nat → Prop} {H0 H H1 : Heap} {locs : List Loc} (hS : va_S A H0 H locs) (hz : H1.size = H.size + 1) (ho : ∀ i, i < H.size → H1[i]? = H[i]?) : va_S A H0 H1 locs :=
  ⟨by have := hS.1; omega, fun q h1 h2 => (ho q (Nat.lt_of_lt_of_le h1 hS.1)).trans (hS.2.1 q h1 h2), hS.2.2⟩
theorem sx_new_sh (G : kx_G) (q : Nat × Nat) : (kx_new G q).1 G.2.1 = q := by simp [kx_new, kx_shp]
theorem sx_new_rf (G : kx_G) (q : Nat × Nat) (j : Int) : (kx_new G q).2.2 G.2.1 j = 0 := by simp [kx_new, kx_zeror]
theorem sx_new_mu (G : kx_G) (μ : kx_M) (j : Int) : kx_zero μ G.2.1 G.2.1 j = 0 := by simp [kx_zero]
theorem si_newa2 {n : Int} (C : sx_C p s m args c cc nL own Z D L μ0) (hd : decode cc pc = .ok (.newarray .int, 2)) (hw : Jvm.Cond.arrayClass .int ∈ sx_tb) (h0 : 0 ≤ n) (h1 : n ≤ 5000) (h9 : G.2.1 + 1 ≤ 91) (hc : G.2.1 + 1 - n0 ≤ R.cells) (hsl : sx_sl (kx_new G (2, n.toNat)) - s0 ≤ R.slots) (h : sx_at p l e R s m args below meth c nL Z D L μ0 n0 s0 Qf (pc + 2) ls (kR G.2.1 :: st) (kx_new G (2, n.toNat)) (kx_zero μ G.2.1)) : sx_at p l e R s m args below meth c nL Z D L μ0 n0 s0 Qf pc ls (kI n :: st) G μ := by
  intro H locs lsA hR hS hl hn hs
  obtain ⟨hx, hb, hml, hown, hts, hE⟩ := C
  have hK := hE.1
  change W p l e R s m args below meth c H locs _ _ Qf (F0 m pc lsA (.int (Int32.ofInt n) :: st.map (sx_c Z)))
  have hz0 := hR.2.1 (by omega)
  have e1 : G.2.1 - n0 + 1 = (kx_new G (2, n.toNat)).2.1 - n0 := by show _ = G.2.1 + 1 - n0; omega
  have e2 : sx_sl G - s0 + n.toNat = sx_sl (kx_new G (2, n.toNat)) - s0 := by rw [sx_sl_push _ hR.1.1]; show _ = sx_sl G + n.toNat - s0; omega
  refine va_newaK (atype := .int) (N := n.toNat) (h := Z.1 + G.2.1) hx hb (hts _ hw) (g := F0 m pc lsA (.int (Int32.ofInt n) :: st.map (sx_c Z))) rfl hd rfl ?_ (sx_cl h0 (by omega)) ?_ (by rw [e1]; exact hc) (by rw [e2]; exact hsl) hz0 (fun H1 cA g1 g2 g3 g4 g5 => ?_)
  · rw [← sx_zero, sx_lt ⟨by omega, by omega⟩ ⟨by omega, by omega⟩]; omega
  · have : componentBytes (newarray.typeOf .int) ≤ 8 := by decide
    exact Nat.le_trans (Nat.mul_le_mul_left _ this) (by omega)
  have hcA : cA = Z.2.2 2 := Option.some.inj (g5.symm.trans (hK.2 0 _ rfl).2)
  subst hcA
  rw [e1, e2]
  have had : Z.1 + G.2.1 = sx_ad Z G.2.1 := by unfold sx_ad; rw [if_pos (by omega)]
  have g := h H1 locs lsA (sx_rel_new hR h9 ⟨Nat.le_of_ble_eq_true rfl, Nat.le_of_ble_eq_true rfl⟩ (fun q => by cases q) (fun _ => by show n.toNat ≤ 5000; omega) (by rw [g2, hz0]) (fun i hi => g3 i (by omega)) ?_) (sx_S_new hS (by rw [g2, hz0]) (fun i hi => g3 i (by omega))) hl (by show n0 ≤ G.2.1 + 1; omega) (by rw [sx_sl_push _ hR.1.1]; omega)
  · rw [had]
    exact g
  · have hEn : sx_E Z (kx_new G (2, n.toNat)) (kx_zero μ G.2.1) G.2.1 = .inl (Z.2.2 2, n.toNat, .inl (fun j => Int32.ofInt 0)) := by simp only [sx_E, sx_new_sh, sx_new_mu]
    rw [hEn]
    show H1[Z.1 + G.2.1]? = some (vp_cell _ _)
    rw [g1]
    rfl
theorem si_newa3 {n : Int} (C : sx_C p s m args c cc nL own Z D L μ0) (hd : decode cc pc = .ok (.newarray .long, 2)) (hw : Jvm.Cond.arrayClass .long ∈ sx_tb) (h0 : 0 ≤ n) (h1 : n ≤ 5000) (h9 : G.2.1 + 1 ≤ 91) (hc : G.2.1 + 1 - n0 ≤ R.cells) (hsl : sx_sl (kx_new G (3, n.toNat)) - s0 ≤ R.slots) (h : sx_at p l e R s m args below meth c nL Z D L μ0 n0 s0 Qf (pc + 2) ls (kR G.2.1 :: st) (kx_new G (3, n.toNat)) (kx_zero μ G.2.1)) : sx_at p l e R s m args below meth c nL Z D L μ0 n0 s0 Qf pc ls (kI n :: st) G μ := by
  intro H locs lsA hR hS hl hn hs
  obtain ⟨hx, hb, hml, hown, hts, hE⟩ := C
  have hK := hE.1
  change W p l e R s m args below meth c H locs _ _ Qf (F0 m pc lsA (.int (Int32.ofInt n) :: st.map (sx_c Z)))
  have hz0 := hR.2.1 (by omega)
  have e1 : G.2.1 - n0 + 1 = (kx_new G (3, n.toNat)).2.1 - n0 := by show _ = G.2.1 + 1 - n0; omega
  have e2 : sx_sl G - s0 + n.toNat = sx_sl (kx_new G (3, n.toNat)) - s0 := by rw [sx_sl_push _ hR.1.1]; show _ = sx_sl G + n.toNat - s0; omega
  refine va_newaK (atype := .long) (N := n.toNat) (h := Z.1 + G.2.1) hx hb (hts _ hw) (g := F0 m pc lsA (.int (Int32.ofInt n) :: st.map (sx_c Z))) rfl hd rfl ?_ (sx_cl h0 (by omega)) ?_ (by rw [e1]; exact hc) (by rw [e2]; exact hsl) hz0 (fun H1 cA g1 g2 g3 g4 g5 => ?_)
  · rw [← sx_zero, sx_lt ⟨by omega, by omega⟩ ⟨by omega, by omega⟩]; omega
  · have : componentBytes (newarray.typeOf .long) ≤ 8 := by decide
    exact Nat.le_trans (Nat.mul_le_mul_left _ this) (by omega)
  have hcA : cA = Z.2.2 3 := Option.some.inj (g5.symm.trans (hK.2 1 _ rfl).2)
  subst hcA
  rw [e1, e2]
  have had : Z.1 + G.2.1 = sx_ad Z G.2.1 := by unfold sx_ad; rw [if_pos (by omega)]
  have g := h H1 locs lsA (sx_rel_new hR h9 ⟨Nat.le_of_ble_eq_true rfl, Nat.le_of_ble_eq_true rfl⟩ (fun q => by cases q) (fun _ => by show n.toNat ≤ 5000; omega) (by rw [g2, hz0]) (fun i hi => g3 i (by omega)) ?_) (sx_S_new hS (by rw [g2, hz0]) (fun i hi => g3 i (by omega))) hl (by show n0 ≤ G.2.1 + 1; omega) (by rw [sx_sl_push _ hR.1.1]; omega)
  · rw [had]
    exact g
  · have hEn : sx_E Z (kx_new G (3, n.toNat)) (kx_zero μ G.2.1) G.2.1 = .inl (Z.2.2 3, n.toNat, .inr (.inl (fun j => Int64.ofInt 0))) := by simp only [sx_E, sx_new_sh, sx_new_mu]
    rw [hEn]
    show H1[Z.1 + G.2.1]? = some (vp_cell _ _)
    rw [g1]
    rfl
theorem si_newa4 {n : Int} (C : sx_C p s m args c cc nL own Z D L μ0) (hd : decode cc pc = .ok (.newarray .boolean, 2)) (hw : Jvm.Cond.arrayClass .boolean ∈ sx_tb) (h0 : 0 ≤ n) (h1 : n ≤ 5000) (h9 : G.2.1 + 1 ≤ 91) (hc : G.2.1 + 1 - n0 ≤ R.cells) (hsl : sx_sl (kx_new G (4, n.toNat)) - s0 ≤ R.slots) (h : sx_at p l e R s m args below meth c nL Z D L μ0 n0 s0 Qf (pc + 2) ls (kR G.2.1 :: st) (kx_new G (4, n.toNat)) (kx_zero μ G.2.1)) : sx_at p l e R s m args below meth c nL Z D L μ0 n0 s0 Qf pc ls (kI n :: st) G μ := by
  intro H locs lsA hR hS hl hn hs
  obtain ⟨hx, hb, hml, hown, hts, hE⟩ := C
  have hK := hE.1
  change W p l e R s m args below meth c H locs _ _ Qf (F0 m pc lsA (.int (Int32.ofInt n) :: st.map (sx_c Z)))
  have hz0 := hR.2.1 (by omega)
  have e1 : G.2.1 - n0 + 1 = (kx_new G (4, n.toNat)).2.1 - n0 := by show _ = G.2.1 + 1 - n0; omega
  have e2 : sx_sl G - s0 + n.toNat = sx_sl (kx_new G (4, n.toNat)) - s0 := by rw [sx_sl_push _ hR.1.1]; show _ = sx_sl G + n.toNat - s0; omega
  refine va_newaK (atype := .boolean) (N := n.toNat) (h := Z.1 + G.2.1) hx hb (hts _ hw) (g := F0 m pc lsA (.int (Int32.ofInt n) :: st.map (sx_c Z))) rfl hd rfl ?_ (sx_cl h0 (by omega)) ?_ (by rw [e1]; exact hc) (by rw [e2]; exact hsl) hz0 (fun H1 cA g1 g2 g3 g4 g5 => ?_)
  · rw [← sx_zero, sx_lt ⟨by omega, by omega⟩ ⟨by omega, by omega⟩]; omega
  · have : componentBytes (newarray.typeOf .boolean) ≤ 8 := by decide
    exact Nat.le_trans (Nat.mul_le_mul_left _ this) (by omega)
  have hcA : cA = Z.2.2 4 := Option.some.inj (g5.symm.trans (hK.2 2 _ rfl).2)
  subst hcA
  rw [e1, e2]
  have had : Z.1 + G.2.1 = sx_ad Z G.2.1 := by unfold sx_ad; rw [if_pos (by omega)]
  have g := h H1 locs lsA (sx_rel_new hR h9 ⟨Nat.le_of_ble_eq_true rfl, Nat.le_of_ble_eq_true rfl⟩ (fun q => by cases q) (fun _ => by show n.toNat ≤ 5000; omega) (by rw [g2, hz0]) (fun i hi => g3 i (by omega)) ?_) (sx_S_new hS (by rw [g2, hz0]) (fun i hi => g3 i (by omega))) hl (by show n0 ≤ G.2.1 + 1; omega) (by rw [sx_sl_push _ hR.1.1]; omega)
  · rw [had]
    exact g
  · have hEn : sx_E Z (kx_new G (4, n.toNat)) (kx_zero μ G.2.1) G.2.1 = .inl (Z.2.2 4, n.toNat, .inl (fun j => Int32.ofInt 0)) := by simp only [sx_E, sx_new_sh, sx_new_mu]
    rw [hEn]
    show H1[Z.1 + G.2.1]? = some (vp_cell _ _)
    rw [g1]
    rfl
theorem si_anewa5 {n : Int} {i : Nat} (C : sx_C p s m args c cc nL own Z D L μ0) (hd : decode cc pc = .ok (.anewarray i, 3)) (hw : Jvm.Cond.classLink own i "HatOrders$Row" ∈ sx_tb) (h0 : 0 ≤ n) (h1 : n ≤ 5000) (h9 : G.2.1 + 1 ≤ 91) (hc : G.2.1 + 1 - n0 ≤ R.cells) (hsl : sx_sl (kx_new G (5, n.toNat)) - s0 ≤ R.slots) (h : sx_at p l e R s m args below meth c nL Z D L μ0 n0 s0 Qf (pc + 3) ls (kR G.2.1 :: st) (kx_new G (5, n.toNat)) (kx_zero μ G.2.1)) : sx_at p l e R s m args below meth c nL Z D L μ0 n0 s0 Qf pc ls (kI n :: st) G μ := by
  intro H locs lsA hR hS hl hn hs
  obtain ⟨hx, hb, hml, hown, hts, hE⟩ := C
  have hK := hE.1
  change W p l e R s m args below meth c H locs _ _ Qf (F0 m pc lsA (.int (Int32.ofInt n) :: st.map (sx_c Z)))
  have hz0 := hR.2.1 (by omega)
  have e1 : G.2.1 - n0 + 1 = (kx_new G (5, n.toNat)).2.1 - n0 := by show _ = G.2.1 + 1 - n0; omega
  have e2 : sx_sl G - s0 + n.toNat = sx_sl (kx_new G (5, n.toNat)) - s0 := by rw [sx_sl_push _ hR.1.1]; show _ = sx_sl G + n.toNat - s0; omega
  have hao : va_AO "HatOrders$Row" s := hE.2.2.2.2.2.2.1
  have hcl := sx_cl h0 (show n < 2147483648 by omega)
  refine W.anew hx hb hown (hts _ hw) (va_AO.use hao) (g := F0 m pc lsA (.int (Int32.ofInt n) :: st.map (sx_c Z))) rfl hd rfl ?_ (by rw [hcl]; omega) (by rw [e1]; exact hc) (by rw [hcl, e2]; exact hsl) (fun cA kA comp f1 f2 f3 f4 => ?_)
  · rw [← sx_zero, sx_lt ⟨by omega, by omega⟩ ⟨by omega, by omega⟩]; omega
  have hcA : cA = Z.2.2 5 := by
    obtain ⟨_, _, _, _, _, g5⟩ := (hK.2 3 _ rfl).2
    exact Option.some.inj (f1.symm.trans g5)
  subst hcA
  rw [hcl, e1, e2]
  have had : H.size = sx_ad Z G.2.1 := by unfold sx_ad; rw [if_pos (by omega), hz0]
  generalize hH1 : H.push ({ cls := Z.2.2 5, slots := Array.replicate n.toNat .null, vm := .none } : Cell) = H1
  have z1 : H1.size = H.size + 1 := by rw [← hH1, Array.size_push]
  have g1 : H1[H.size]? = some (arrV (Z.2.2 5) n.toNat (fun _ => .null)) := by rw [← hH1, Array.getElem?_push_size, ← arrV_new]
  have o1 : ∀ q : Nat, q < H.size → H1[q]? = H[q]? := fun q hq => by rw [← hH1, Array.getElem?_push, if_neg (Nat.ne_of_lt hq)]
  have g := h H1 locs lsA (sx_rel_new hR h9 ⟨Nat.le_of_ble_eq_true rfl, Nat.le_of_ble_eq_true rfl⟩ (fun q => by cases q) (fun _ => by show n.toNat ≤ 5000; omega) z1 o1 ?_) (sx_S_new hS z1 o1) hl (by show n0 ≤ G.2.1 + 1; omega) (by rw [sx_sl_push _ hR.1.1]; omega)
  · rw [had]
    exact g
  · have hEn : sx_E Z (kx_new G (5, n.toNat)) (kx_zero μ G.2.1) G.2.1 = .inl (Z.2.2 5, n.toNat, .inr (.inr (.inr (.inr (fun j => sx_rv Z 0))))) := by simp only [sx_E, sx_new_sh, sx_new_rf]
    rw [hEn]
    show H1[Z.1 + G.2.1]? = some (vp_cell _ _)
    rw [← hz0, g1]
    rfl
theorem si_anewa6 {n : Int} {i : Nat} (C : sx_C p s m args c cc nL own Z D L μ0) (hd : decode cc pc = .ok (.anewarray i, 3)) (hw : Jvm.Cond.classLink own i "HatOrders$Town" ∈ sx_tb) (h0 : 0 ≤ n) (h1 : n ≤ 5000) (h9 : G.2.1 + 1 ≤ 91) (hc : G.2.1 + 1 - n0 ≤ R.cells) (hsl : sx_sl (kx_new G (6, n.toNat)) - s0 ≤ R.slots) (h : sx_at p l e R s m args below meth c nL Z D L μ0 n0 s0 Qf (pc + 3) ls (kR G.2.1 :: st) (kx_new G (6, n.toNat)) (kx_zero μ G.2.1)) : sx_at p l e R s m args below meth c nL Z D L μ0 n0 s0 Qf pc ls (kI n :: st) G μ := by
  intro H locs lsA hR hS hl hn hs
  obtain ⟨hx, hb, hml, hown, hts, hE⟩ := C
  have hK := hE.1
  change W p l e R s m args below meth c H locs _ _ Qf (F0 m pc lsA (.int (Int32.ofInt n) :: st.map (sx_c Z)))
  have hz0 := hR.2.1 (by omega)
  have e1 : G.2.1 - n0 + 1 = (kx_new G (6, n.toNat)).2.1 - n0 := by show _ = G.2.1 + 1 - n0; omega
  have e2 : sx_sl G - s0 + n.toNat = sx_sl (kx_new G (6, n.toNat)) - s0 := by rw [sx_sl_push _ hR.1.1]; show _ = sx_sl G + n.toNat - s0; omega
  have hao : va_AO "HatOrders$Town" s := hE.2.2.2.2.2.2.2.1
  have hcl := sx_cl h0 (show n < 2147483648 by omega)
  refine W.anew hx hb hown (hts _ hw) (va_AO.use hao) (g := F0 m pc lsA (.int (Int32.ofInt n) :: st.map (sx_c Z))) rfl hd rfl ?_ (by rw [hcl]; omega) (by rw [e1]; exact hc) (by rw [hcl, e2]; exact hsl) (fun cA kA comp f1 f2 f3 f4 => ?_)
  · rw [← sx_zero, sx_lt ⟨by omega, by omega⟩ ⟨by omega, by omega⟩]; omega
  have hcA : cA = Z.2.2 6 := by
    obtain ⟨_, _, _, _, _, g5⟩ := (hK.2 4 _ rfl).2
    exact Option.some.inj (f1.symm.trans g5)
  subst hcA
  rw [hcl, e1, e2]
  have had : H.size = sx_ad Z G.2.1 := by unfold sx_ad; rw [if_pos (by omega), hz0]
  generalize hH1 : H.push ({ cls := Z.2.2 6, slots := Array.replicate n.toNat .null, vm := .none } : Cell) = H1
  have z1 : H1.size = H.size + 1 := by rw [← hH1, Array.size_push]
  have g1 : H1[H.size]? = some (arrV (Z.2.2 6) n.toNat (fun _ => .null)) := by rw [← hH1, Array.getElem?_push_size, ← arrV_new]
  have o1 : ∀ q : Nat, q < H.size → H1[q]? = H[q]? := fun q hq => by rw [← hH1, Array.getElem?_push, if_neg (Nat.ne_of_lt hq)]
  have g := h H1 locs lsA (sx_rel_new hR h9 ⟨Nat.le_of_ble_eq_true rfl, Nat.le_of_ble_eq_true rfl⟩ (fun q => by cases q) (fun _ => by show n.toNat ≤ 5000; omega) z1 o1 ?_) (sx_S_new hS z1 o1) hl (by show n0 ≤ G.2.1 + 1; omega) (by rw [sx_sl_push _ hR.1.1]; omega)
  · rw [had]
    exact g
  · have hEn : sx_E Z (kx_new G (6, n.toNat)) (kx_zero μ G.2.1) G.2.1 = .inl (Z.2.2 6, n.toNat, .inr (.inr (.inr (.inr (fun j => sx_rv Z 0))))) := by simp only [sx_E, sx_new_sh, sx_new_rf]
    rw [hEn]
    show H1[Z.1 + G.2.1]? = some (vp_cell _ _)
    rw [← hz0, g1]
    rfl
theorem si_new {i ci : Nat} (C : sx_C p s m args c cc nL own Z D L μ0) (hd : decode cc pc = .ok (.new i, 3)) (hci : ci < 8) (hw : Jvm.Cond.classLink own i (sx_cn ci) ∈ sx_tb) (hw2 : Jvm.Cond.instantiable (sx_cn ci) (sx_nf ci) ∈ sx_tb) (hw3 : Jvm.Cond.initialized (sx_cn ci) ∈ sx_tb) (h9 : G.2.1 + 1 ≤ 91) (hc : G.2.1 + 1 - n0 ≤ R.cells) (hsl : sx_sl (kx_new G (1, ci)) - s0 ≤ R.slots) (h : sx_at p l e R s m args below meth c nL Z D L μ0 n0 s0 Qf (pc + 3) ls (kR G.2.1 :: st) (kx_new G (1, ci)) (kx_zero μ G.2.1)) : sx_at p l e R s m args below meth c nL Z D L μ0 n0 s0 Qf pc ls st G μ := by
  intro H locs lsA hR hS hl hn hs
  obtain ⟨hx, hb, hml, hown, hts, hE⟩ := C
  have hK := hE.1
  have hz0 := hR.2.1 (by omega)
  have e1 : G.2.1 - n0 + 1 = (kx_new G (1, ci)).2.1 - n0 := by show _ = G.2.1 + 1 - n0; omega
  have e2 : sx_sl G - s0 + sx_nf ci = sx_sl (kx_new G (1, ci)) - s0 := by rw [sx_sl_push _ hR.1.1]; show _ = sx_sl G + sx_nf ci - s0; omega
  have hKn := hK.1 ci _ (sx_cls_at hci)
  refine W.newcK (h := Z.1 + G.2.1) hx hb hown (hts _ hw) (hts _ hw2) (hts _ hw3) (g := F0 m pc lsA (st.map (sx_c Z))) rfl hd (by rw [e1]; exact hc) (by rw [e2]; exact hsl) hKn.2.1 hz0 (fun H1 kC hkC g1 z1 o1 => ?_)
  rw [e1, e2]
  have had : Z.1 + G.2.1 = sx_ad Z G.2.1 := by unfold sx_ad; rw [if_pos (by omega)]
  have g := h H1 locs lsA (sx_rel_new hR h9 ⟨Nat.le_of_ble_eq_true rfl, Nat.le_of_ble_eq_true rfl⟩ (fun _ => hci) (fun q => absurd q (by show ¬ 2 ≤ 1; omega)) (by rw [z1, hz0]) (fun i hi => o1 i (by omega)) ?_) (sx_S_new hS (by rw [z1, hz0]) (fun i hi => o1 i (by omega))) hl (by show n0 ≤ G.2.1 + 1; omega) (by rw [sx_sl_push _ hR.1.1]; omega)
  · rw [had]
    exact g
  · have hEn : sx_E Z (kx_new G (1, ci)) (kx_zero μ G.2.1) G.2.1 = .inr (ci, (List.range (sx_nf ci)).map (fun j => if sx_tag ci j = 1 then va_rf (sx_rv Z 0) else .int (Int32.ofInt 0))) := by simp only [sx_E, sx_fv, sx_new_sh, sx_new_rf, sx_new_mu]
    rw [hEn]
    refine ⟨_, sx_cls_at hci, (u_born (sx_y ci) hts (sx_in ci hci) hKn hkC g1 (sx_ty hci)).to (fun j hj => ?_)⟩
    have ht := sx_tag_ok ci hci j hj
    unfold vp_V
    rw [List.getD_eq_getElem?_getD, List.getElem?_map, List.getElem?_range hj]
    show defaultValue (sx_y ci j) = (if sx_tag ci j = 1 then va_rf (sx_rv Z 0) else .int (Int32.ofInt 0))
    by_cases h1 : sx_tag ci j = 1
    · rw [if_pos h1]
      have := ht.2.2.1 h1
      cases hq : sx_y ci j <;> rw [hq] at this <;> first | rfl | cases this
    · rw [if_neg h1]
      have h3 : sx_tag ci j = 0 ∨ sx_tag ci j = 2 := by omega
      rcases h3 with h3 | h3
      · rw [ht.1 h3]; rfl
      · rw [ht.2.1 h3]; rfl
theorem si_acopy {i s0' d n0' n1 : Nat} {sp dp n : Int} (C : sx_C p s m args c cc nL own Z D L μ0) (hd : decode cc pc = .ok (.invokestatic i, 3)) (hw1 : Jvm.Cond.methodLink own i arraycopyName ∈ sx_tb) (hw2 : Jvm.Cond.native arraycopyName ∈ sx_tb) (hw3 : Jvm.Cond.static arraycopyName ∈ sx_tb) (hw4 : Jvm.Cond.initialized "java/lang/System" ∈ sx_tb) (h9 : 91 ≤ G.2.1) (ho : G.1 s0' = (2, n0')) (ho1 : G.1 d = (2, n1)) (h1 : 0 ≤ sp) (h2 : 0 ≤ dp) (h3 : 0 ≤ n) (h4 : sp + n ≤ n0') (h5 : dp + n ≤ n1) (hcat : kx_cats st ≤ 8) (hf : 1 ≤ R.frames) (hlo : 60 ≤ R.locals) (h : sx_at p l e R s m args below meth c nL Z D L μ0 n0 s0 Qf (pc + 3) ls st G (kx_cpy μ s0' sp d dp n)) : sx_at p l e R s m args below meth c nL Z D L μ0 n0 s0 Qf pc ls (kI n :: kI dp :: kR d :: kI sp :: kR s0' :: st) G μ := by
  intro H locs lsA hR hS hl hn hs
  obtain ⟨hx, hb, hml, hown, hts, hE⟩ := C
  have hK := hE.1
  obtain ⟨c1, c2, c3, c4⟩ := sx_cell hR (a := s0') (by rw [ho]; exact Nat.le_of_ble_eq_true rfl) (by rw [ho]; exact Nat.le_of_ble_eq_true rfl)
  have hEa : sx_E Z G μ s0' = .inl (Z.2.2 2, n0', .inl (fun j => Int32.ofInt (μ s0' j))) := by simp only [sx_E, ho]
  rw [hEa] at c4
  obtain ⟨d1, d2, d3, d4⟩ := sx_cell hR (a := d) (by rw [ho1]; exact Nat.le_of_ble_eq_true rfl) (by rw [ho1]; exact Nat.le_of_ble_eq_true rfl)
  have hEd : sx_E Z G μ d = .inl (Z.2.2 2, n1, .inl (fun j => Int32.ofInt (μ d j))) := by simp only [sx_E, ho1]
  rw [hEd] at d4
  have m1 : n0' ≤ 5000 := by have := hR.1.2.2.2.2.2.2.2.2.2 s0' (by rw [ho]; exact Nat.le_of_ble_eq_true rfl) (by rw [ho]; exact Nat.le_of_ble_eq_true rfl); rw [ho] at this; exact this
  have m2 : n1 ≤ 5000 := by have := hR.1.2.2.2.2.2.2.2.2.2 d (by rw [ho1]; exact Nat.le_of_ble_eq_true rfl) (by rw [ho1]; exact Nat.le_of_ble_eq_true rfl); rw [ho1] at this; exact this
  have k0 : kx_in 0 := by decide
  have pos : ∀ x : Int, 0 ≤ x → x ≤ 5000 → ¬ Int32.ofInt x < 0 := fun x q1 q2 => by rw [← sx_zero, sx_lt ⟨by omega, by omega⟩ k0]; omega
  change W p l e R s m args below meth c H locs _ _ Qf (F0 m pc lsA (.int (Int32.ofInt n) :: .int (Int32.ofInt dp) :: .ref (sx_ad Z d) :: .int (Int32.ofInt sp) :: .ref (sx_ad Z s0') :: st.map (sx_c Z)))
  refine va_copyi (ty := .int) hx hb (by rw [hml, hl.2.1]) hown (hts _ hw1) (hts _ hw2) (hts _ hw3) (hts _ hw4) hK hR.2.2.1 (sx_D Z G μ) hS (s0' - 1) (d - 1) 0 0 c4 d4 rfl rfl rfl (pos sp h1 (by omega)) (pos dp h2 (by omega)) (pos n h3 (by omega)) ?_ ?_ (fun _ _ => rfl) hf ?_ hd (fun H1 locs1 hP hDD hS1 => ?_)
  · rw [sx_cl h1 (by omega), sx_cl h3 (by omega)]; omega
  · rw [sx_cl h2 (by omega), sx_cl h3 (by omega)]; omega
  · rw [sx_cats]
    have : nativeFrameWords "java/lang/System" "arraycopy" 5 + 11 ≤ 52 := by decide +kernel
    omega
  · rw [d3, sx_cl h1 (by omega), sx_cl h2 (by omega), sx_cl h3 (by omega)] at hP
    refine h H1 locs1 lsA (sx_rel_put hR ⟨rfl, rfl⟩ d1 d2 ?_ (fun b hb => ⟨fun j => rfl, fun j => ?_⟩) hP (fun q => by omega)) hS1 hl hn hs
    · simp only [sx_E, ho1]
      congr 4
      funext j
      simp only [kx_cpy, va_cpy]
      by_cases e : dp.toNat ≤ j ∧ j < dp.toNat + n.toNat
      · rw [if_pos ⟨trivial, by omega, by omega⟩, if_pos e]
        congr 2
        omega
      · rw [if_neg (fun q => e ⟨by omega, by omega⟩), if_neg e]
    · simp only [kx_cpy]
      rw [if_neg (fun q => hb q.1)]
theorem si_objinit {i a : Nat} (C : sx_C p s m args c cc nL own Z D L μ0) (hd : decode cc pc = .ok (.invokespecial i, 3)) (hw1 : Jvm.Cond.methodLink own i objectInit ∈ sx_tb) (hw2 : Jvm.Cond.instanceMethod objectInit ∈ sx_tb) (hw3 : Jvm.Cond.code objectInit ⟨#[0xb1]⟩ 1 none ∈ sx_tb) (hcat : kx_cats st ≤ 8) (hf : 1 ≤ R.frames) (hlo : 60 ≤ R.locals) (h : sx_at p l e R s m args below meth c nL Z D L μ0 n0 s0 Qf (pc + 3) ls st G μ) : sx_at p l e R s m args below meth c nL Z D L μ0 n0 s0 Qf pc ls (kR a :: st) G μ := by
  intro H locs lsA hR hS hl hn hs
  obtain ⟨hx, hb, hml, hown, hts, hE⟩ := C
  have hK := hE.1
  change W p l e R s m args below meth c H locs _ _ Qf (F0 m pc lsA (.ref (sx_ad Z a) :: st.map (sx_c Z)))
  refine W.objInit hx hb hown (hts _ hw1) (hts _ hw2) (hts _ hw3) (g := F0 m pc lsA (.ref (sx_ad Z a) :: st.map (sx_c Z))) rfl (by rw [hml]; exact hl.2.1) rfl hd hf ?_ (h H locs lsA hR hS hl hn hs)
  show 2 * 0 + _ + 12 ≤ _
  rw [sx_cats]
  omega
theorem sx_ltL {a b : Int} (ha : kx_inL a) (hb : kx_inL b) : Int64.ofInt a < Int64.ofInt b ↔ a < b := by
  rw [Int64.lt_iff_toInt_lt, sx_toL ha, sx_toL hb]
theorem si_lcmp {a b : Int} (C : sx_C p s m args c cc nL own Z D L μ0) (hd : decode cc pc = .ok (.lcmp, 1)) (ha : kx_inL a) (hbb : kx_inL b) (h : if a < b then sx_at p l e R s m args below meth c nL Z D L μ0 n0 s0 Qf (pc + 1) ls (kI (-1) :: st) G μ else if a = b then sx_at p l e R s m args below meth c nL Z D L μ0 n0 s0 Qf (pc + 1) ls (kI 0 :: st) G μ else sx_at p l e R s m args below meth c nL Z D L μ0 n0 s0 Qf (pc + 1) ls (kI 1 :: st) G μ) : sx_at p l e R s m args below meth c nL Z D L μ0 n0 s0 Qf pc ls (kL b :: kL a :: st) G μ := by
  intro H locs lsA hR hS hl hn hs
  obtain ⟨hx, hb, hml, hown, hts, hE⟩ := C
  have hK := hE.1
  change W p l e R s m args below meth c H locs _ _ Qf (F0 m pc lsA (.long (Int64.ofInt b) :: .long (Int64.ofInt a) :: st.map (sx_c Z)))
  refine W.lcmp hx hb hd ?_
  unfold lg_cmp
  by_cases h1 : a < b
  · rw [if_pos h1] at h
    rw [if_neg (show ¬ Int64.ofInt b < Int64.ofInt a by rw [sx_ltL hbb ha]; omega), if_neg (fun q => by have := congrArg Int64.toInt q; rw [sx_toL ha, sx_toL hbb] at this; omega)]
    exact h H locs lsA hR hS hl hn hs
  · rw [if_neg h1] at h
    by_cases h2 : a = b
    · rw [if_pos h2] at h
      rw [if_neg (show ¬ Int64.ofInt b < Int64.ofInt a by rw [sx_ltL hbb ha]; omega), if_pos (by rw [h2])]
      exact h H locs lsA hR hS hl hn hs
    · rw [if_neg h2] at h
      rw [if_pos (show Int64.ofInt b < Int64.ofInt a from (sx_ltL hbb ha).mpr (by omega))]
      exact h H locs lsA hR hS hl hn hs
end SO
end
section
def sx_on : Nat → String
  | 0 => "HatOrders$Acts"
  | 1 => "HatOrders$Asker"
  | 2 => "HatOrders$Foresight"
  | 3 => "HatOrders$Row"
  | 4 => "HatOrders$Tape"
  | 5 => "HatOrders$Town"
  | 6 => "HatOrders"
  | 7 => "HatOrdersModel"
  | 8 => "HatOrders$Kinds"
  | 9 => "HatOrdersLaw"
  | 10 => "java/lang/Math"
  | 11 => "java/lang/Integer"
  | 12 => "java/util/Arrays"
  | 13 => "java/lang/String"
  | _ => "java/lang/StringLatin1"
def sx_tk : Nat → List Jvm.Cond
  | 0 => k2_sels lw_privs
  | 1 => tables_1_1
  | 2 => tables_1_2
  | 3 => tables_1_3
  | 4 => tables_1_4
  | _ => tables_1_5
theorem sx_tk_in (k : Nat) : ∀ w ∈ sx_tk k, w ∈ lw_tbl := by
  intro w hw
  unfold lw_tbl tables_1
  match k, hw with
  | 0, hw => exact List.mem_append_left _ hw
  | 1, hw => exact List.mem_append_right _ (List.mem_append_left _ hw)
  | 2, hw => exact List.mem_append_right _ (List.mem_append_right _ (List.mem_append_left _ hw))
  | 3, hw => exact List.mem_append_right _ (List.mem_append_right _ (List.mem_append_right _ (List.mem_append_left _ hw)))
  | 4, hw => exact List.mem_append_right _ (List.mem_append_right _ (List.mem_append_right _ (List.mem_append_right _ (List.mem_append_left _ hw))))
  | _ + 5, hw => exact List.mem_append_right _ (List.mem_append_right _ (List.mem_append_right _ (List.mem_append_right _ (List.mem_append_right _ hw))))
/-- the words ws stand at these places of the tables, and are good -/
def sx_chk : List (Nat × Nat) → List Jvm.Cond → Bool
  | [], [] => true
  | h :: hs, w :: ws => decide ((sx_tk h.1)[h.2]? = some w) && goodWord w && sx_chk hs ws
  | _, _ => false
theorem sx_chk_in : ∀ (hs : List (Nat × Nat)) (ws : List Jvm.Cond), sx_chk hs ws = true → ∀ w ∈ ws, w ∈ sx_tb := by
  intro hs
  induction hs with
  | nil => intro ws h w hw; cases ws with
    | nil => cases hw
    | cons => simp [sx_chk] at h
  | cons q hs ih => intro ws h w hw; cases ws with
    | nil => cases hw
    | cons v ws =>
      simp only [sx_chk, Bool.and_eq_true, decide_eq_true_eq] at h
      rcases List.mem_cons.mp hw with rfl | hw
      · exact List.mem_filter.mpr ⟨sx_tk_in _ _ (List.mem_of_getElem? h.1.1), h.1.2⟩
      · exact ih ws h.2 w hw
def sx_flh : List ((Nat × Nat × Nat × Nat) × List (Nat × Nat)) := [((0, 9, 0, 0), [(1, 165)]), ((0, 13, 0, 1), [(1, 166)]), ((0, 16, 0, 2), [(1, 167)]), ((0, 19, 0, 3), [(1, 168)]), ((0, 22, 0, 5), [(1, 170)]), ((0, 26, 0, 4), [(1, 169)]), ((0, 41, 5, 10), [(1, 116)]), ((0, 44, 5, 11), [(1, 122)]), ((0, 47, 5, 12), [(1, 125)]), ((0, 50, 5, 9), [(1, 111)]), ((0, 53, 5, 6), [(1, 101)]), ((1, 11, 1, 0), [(1, 210)]), ((1, 15, 1, 1), [(1, 211)]), ((1, 28, 5, 1), [(1, 86)]), ((1, 36, 5, 3), [(1, 92)]), ((1, 39, 5, 0), [(1, 83)]), ((2, 14, 2, 1), [(1, 194)]), ((2, 18, 2, 2), [(1, 195)]), ((2, 22, 2, 0), [(1, 193)]), ((2, 33, 5, 11), [(1, 121)]), ((2, 50, 5, 6), [(1, 102)]), ((2, 58, 5, 7), [(1, 105)]), ((2, 61, 5, 3), [(1, 93)]), ((2, 64, 5, 8), [(1, 109)]), ((2, 70, 5, 10), [(1, 119)]), ((2, 77, 5, 1), [(1, 87)]), ((2, 80, 3, 0), [(1, 36)]), ((2, 85, 5, 12), [(1, 127)]), ((2, 88, 5, 9), [(1, 114)]), ((2, 91, 5, 5), [(1, 99)]), ((3, 9, 3, 0), [(1, 34)]), ((3, 13, 3, 1), [(1, 37)]), ((3, 17, 3, 2), [(1, 39)]), ((4, 9, 4, 0), [(1, 54)]), ((4, 13, 4, 1), [(1, 55)]), ((4, 22, 4, 4), [(1, 61)]), ((4, 43, 4, 5), [(1, 62)]), ((4, 46, 5, 10), [(1, 117)]), ((4, 66, 5, 8), [(1, 108)]), ((4, 76, 5, 9), [(1, 112)]), ((4, 85, 4, 2), [(1, 58)]), ((4, 88, 4, 3), [(1, 60)]), ((5, 11, 5, 0), [(1, 82)]), ((5, 15, 5, 1), [(1, 85)]), ((5, 18, 5, 2), [(1, 89)]), ((5, 21, 5, 3), [(1, 91)]), ((5, 24, 5, 4), [(1, 95)]), ((5, 27, 5, 5), [(1, 97)]), ((5, 30, 5, 6), [(1, 100)]), ((5, 33, 5, 7), [(1, 104)]), ((5, 36, 5, 8), [(1, 106)]), ((5, 40, 5, 9), [(1, 110)]), ((5, 43, 5, 10), [(1, 115)]), ((5, 46, 5, 11), [(1, 120)]), ((5, 49, 5, 12), [(1, 124)]), ((5, 52, 5, 13), [(1, 128)]), ((6, 11, 6, 0), [(1, 218)]), ((6, 19, 6, 1), [(1, 219)]), ((6, 26, 6, 2), [(1, 220)]), ((6, 30, 6, 3), [(1, 221)]), ((6, 36, 6, 4), [(1, 222)]), ((6, 45, 6, 5), [(1, 223)]), ((6, 52, 6, 6), [(1, 224)]), ((6, 56, 6, 7), [(1, 225)]), ((6, 60, 6, 8), [(1, 226)]), ((6, 64, 6, 9), [(1, 227)]), ((6, 68, 6, 10), [(1, 228)]), ((6, 103, 3, 1), [(1, 38)]), ((6, 110, 3, 0), [(1, 35)]), ((6, 138, 4, 2), [(1, 57)]), ((6, 140, 4, 3), [(1, 59)]), ((6, 149, 5, 8), [(1, 107)]), ((6, 156, 5, 13), [(1, 129)]), ((6, 159, 5, 11), [(1, 123)]), ((6, 162, 5, 12), [(1, 126)]), ((6, 172, 5, 10), [(1, 118)]), ((6, 182, 5, 9), [(1, 113)]), ((6, 191, 5, 6), [(1, 103)]), ((6, 194, 5, 5), [(1, 98)]), ((6, 197, 0, 5), [(1, 171)]), ((6, 203, 5, 1), [(1, 88)]), ((6, 206, 5, 2), [(1, 90)]), ((6, 209, 5, 3), [(1, 94)]), ((6, 212, 5, 4), [(1, 96)]), ((6, 264, 5, 0), [(1, 84)]), ((6, 285, 4, 1), [(1, 56)]), ((7, 7, 7, 0), [(4, 88)]), ((7, 13, 7, 1), [(4, 89)]), ((7, 16, 7, 2), [(4, 90)]), ((7, 19, 7, 5), [(4, 93)]), ((7, 22, 7, 6), [(4, 94)]), ((7, 25, 7, 7), [(4, 95)]), ((7, 28, 7, 15), [(4, 103)]), ((7, 31, 7, 16), [(4, 104)]), ((7, 34, 7, 18), [(4, 106)]), ((7, 37, 7, 19), [(4, 107)]), ((7, 40, 7, 20), [(4, 108)]), ((7, 44, 7, 21), [(4, 109)]), ((7, 47, 7, 22), [(4, 110)]), ((7, 50, 7, 3), [(4, 91)]), ((7, 81, 7, 8), [(4, 96)]), ((7, 85, 7, 10), [(4, 98)]), ((7, 88, 7, 13), [(4, 101)]), ((7, 91, 7, 11), [(4, 99)]), ((7, 94, 7, 12), [(4, 100)]), ((7, 105, 7, 14), [(4, 102)]), ((7, 134, 7, 9), [(4, 97)]), ((7, 138, 7, 4), [(4, 92)]), ((7, 142, 7, 17), [(4, 105)]), ((7, 215, 7, 23), [(4, 111)])]
def sx_fl : List (Nat × Nat × Nat × Nat) := sx_flh.map (fun q => q.1)
def sx_csth : List ((Nat × Nat × Int) × List (Nat × Nat)) := [((1, 19, (-1000000)), [(4, 68)]), ((2, 41, (-1000000)), [(3, 146)]), ((5, 61, (-1000000)), [(3, 2)]), ((6, 79, (-1000001)), [(2, 23)]), ((6, 127, (-1000003)), [(2, 87)]), ((6, 139, (-1000100)), [(3, 7)]), ((6, 155, (-1000002)), [(3, 30)]), ((6, 288, (-1000010)), [(2, 28)]), ((7, 54, (-1000010)), [(4, 178)]), ((7, 67, (-1000001)), [(4, 173)]), ((7, 84, (-1000003)), [(4, 203)]), ((7, 137, (-1000100)), [(5, 4)]), ((7, 157, (-1000002)), [(5, 13)]), ((7, 193, (-1000000)), [(5, 104)]), ((11, 265, 1431655765), [(3, 223)]), ((11, 266, 858993459), [(3, 224)]), ((11, 267, 252645135), [(3, 225)])]
def sx_cst : List (Nat × Nat × Int) := sx_csth.map (fun q => q.1)
def sx_cstLh : List ((Nat × Nat × Int) × List (Nat × Nat)) := [((7, 55, 7), [(4, 168)]), ((7, 65, 2), [(4, 172)]), ((7, 79, 255), [(4, 202)]), ((7, 97, 48), [(4, 216)]), ((7, 99, 57), [(4, 217)]), ((7, 101, 97), [(4, 218)]), ((7, 103, 122), [(4, 219)]), ((7, 158, 20), [(5, 14)]), ((7, 166, 5), [(5, 38)]), ((7, 174, 40), [(5, 55)]), ((7, 179, 60), [(5, 87)]), ((7, 203, 16), [(5, 153)])]
def sx_cstL : List (Nat × Nat × Int) := sx_cstLh.map (fun q => q.1)
def sx_clah : List ((Nat × Nat × Nat) × List (Nat × Nat)) := [((2, 11, 5), [(1, 191), (1, 77), (1, 4)]), ((6, 9, 3), [(1, 27), (1, 29), (1, 2)]), ((6, 16, 4), [(1, 48), (1, 49), (1, 3)]), ((6, 23, 5), [(1, 76), (1, 77), (1, 4)]), ((6, 33, 0), [(1, 159), (1, 160), (1, 5)]), ((6, 40, 2), [(1, 185), (1, 186), (1, 6)]), ((6, 49, 1), [(1, 204), (1, 205), (1, 7)]), ((9, 7, 6), [(1, 19), (1, 20), (1, 1)]), ((9, 10, 7), [(4, 82), (4, 83), (1, 8)])]
def sx_cla : List (Nat × Nat × Nat) := sx_clah.map (fun q => q.1)
def sx_clqh : List ((Nat × Nat × Nat) × List (Nat × Nat)) := [((6, 9, 5), [(1, 27)]), ((6, 23, 6), [(1, 76)])]
def sx_clq : List (Nat × Nat × Nat) := sx_clqh.map (fun q => q.1)
def sx_cvsh : List ((Nat × Nat × Nat × Nat × Nat) × List (Nat × Nat)) := [((0, 35, 62, 4, 5), [(3, 105), (3, 106), (3, 107), (1, 4)]), ((1, 20, 8, 5, 1), [(4, 41), (4, 43), (0, 25), (1, 7)]), ((1, 24, 9, 2, 1), [(4, 56), (4, 58), (0, 27), (1, 7)]), ((1, 33, 7, 5, 1), [(4, 52), (4, 54), (0, 26), (1, 7)]), ((2, 25, 54, 2, 5), [(3, 132), (3, 9), (3, 10), (1, 4)]), ((2, 29, 22, 2, 2), [(3, 133), (3, 135), (0, 20), (1, 6)]), ((2, 37, 61, 1, 5), [(3, 137), (3, 32), (3, 33), (1, 4)]), ((2, 42, 25, 1, 2), [(3, 163), (3, 165), (0, 21), (1, 6)]), ((2, 46, 26, 2, 2), [(3, 167), (3, 169), (0, 22), (1, 6)]), ((2, 54, 23, 3, 2), [(3, 179), (3, 181), (0, 23), (1, 6)]), ((2, 67, 60, 2, 5), [(3, 207), (3, 63), (3, 64), (1, 4)]), ((2, 73, 24, 4, 2), [(3, 237), (3, 239), (0, 24), (1, 6)]), ((3, 26, 36, 2, 3), [(2, 60), (2, 62), (0, 3), (1, 2)]), ((4, 17, 53, 1, 5), [(2, 100), (2, 101), (2, 102), (1, 4)]), ((4, 25, 42, 2, 4), [(2, 104), (2, 106), (0, 4), (1, 3)]), ((4, 29, 43, 2, 4), [(2, 128), (2, 130), (0, 10), (1, 3)]), ((4, 32, 45, 2, 4), [(2, 230), (2, 232), (0, 12), (1, 3)]), ((4, 35, 47, 2, 4), [(2, 108), (2, 110), (0, 5), (1, 3)]), ((4, 39, 48, 3, 4), [(2, 120), (2, 122), (0, 8), (1, 3)]), ((4, 49, 50, 1, 4), [(2, 112), (2, 114), (0, 6), (1, 3)]), ((4, 59, 51, 2, 4), [(2, 116), (2, 118), (0, 7), (1, 3)]), ((4, 62, 44, 3, 4), [(2, 222), (2, 224), (0, 11), (1, 3)]), ((4, 69, 55, 4, 5), [(2, 226), (2, 227), (2, 228), (1, 4)]), ((4, 73, 46, 2, 4), [(2, 234), (2, 236), (0, 13), (1, 3)]), ((4, 79, 56, 2, 5), [(2, 238), (2, 239), (3, 0), (1, 4)]), ((4, 82, 49, 1, 4), [(2, 124), (2, 126), (0, 9), (1, 3)]), ((5, 62, 63, 1, 5), [(3, 35), (3, 37), (0, 15), (1, 4)]), ((5, 66, 64, 2, 5), [(3, 39), (3, 41), (0, 16), (1, 4)]), ((5, 70, 65, 1, 5), [(3, 43), (3, 45), (0, 17), (1, 4)]), ((5, 73, 66, 1, 5), [(3, 51), (3, 53), (0, 18), (1, 4)]), ((5, 76, 67, 2, 5), [(3, 55), (3, 57), (0, 19), (1, 4)]), ((5, 80, 60, 2, 5), [(3, 62), (3, 63), (3, 64), (1, 4)]), ((5, 85, 59, 2, 5), [(3, 47), (3, 48), (3, 49), (1, 4)]), ((6, 80, 105, 2, 6), [(2, 24), (2, 26), (0, 0), (1, 1)]), ((6, 84, 32, 3, 3), [(2, 29), (2, 30), (2, 31), (1, 2)]), ((6, 88, 106, 2, 6), [(2, 36), (2, 38), (0, 1), (1, 1)]), ((6, 91, 107, 4, 6), [(2, 44), (2, 46), (0, 2), (1, 1)]), ((6, 95, 35, 3, 3), [(2, 56), (2, 57), (2, 58), (1, 2)]), ((6, 99, 31, 1, 3), [(2, 48), (2, 49), (2, 50), (1, 2)]), ((6, 106, 34, 3, 3), [(2, 52), (2, 53), (2, 54), (1, 2)]), ((6, 120, 33, 1, 3), [(2, 75), (2, 76), (2, 77), (1, 2)]), ((6, 124, 38, 1, 4), [(2, 83), (2, 84), (2, 85), (1, 3)]), ((6, 128, 39, 2, 4), [(2, 88), (2, 89), (2, 90), (1, 3)]), ((6, 131, 41, 2, 4), [(2, 96), (2, 97), (2, 98), (1, 3)]), ((6, 135, 40, 1, 4), [(3, 3), (3, 4), (3, 5), (1, 3)]), ((6, 143, 54, 2, 5), [(3, 8), (3, 9), (3, 10), (1, 4)]), ((6, 146, 1, 1, 0), [(3, 13), (3, 14), (3, 15), (1, 5)]), ((6, 152, 109, 1, 6), [(3, 26), (3, 28), (0, 14), (1, 1)]), ((6, 165, 61, 1, 5), [(3, 31), (3, 32), (3, 33), (1, 4)]), ((6, 168, 2, 5, 0), [(3, 66), (3, 67), (3, 68), (1, 5)]), ((6, 175, 57, 2, 5), [(3, 79), (3, 80), (3, 81), (1, 4)]), ((6, 178, 60, 2, 5), [(3, 83), (3, 63), (3, 64), (1, 4)]), ((6, 185, 56, 2, 5), [(3, 88), (2, 239), (3, 0), (1, 4)]), ((6, 188, 58, 2, 5), [(3, 93), (3, 94), (3, 95), (1, 4)]), ((6, 200, 3, 2, 0), [(3, 101), (3, 102), (3, 103), (1, 5)]), ((6, 218, 11, 2, 2), [(3, 128), (3, 129), (3, 130), (1, 6)]), ((6, 221, 12, 2, 2), [(3, 142), (3, 143), (3, 144), (1, 6)]), ((6, 224, 13, 2, 2), [(3, 151), (3, 152), (3, 153), (1, 6)]), ((6, 227, 14, 2, 2), [(3, 159), (3, 160), (3, 161), (1, 6)]), ((6, 230, 15, 2, 2), [(3, 175), (3, 176), (3, 177), (1, 6)]), ((6, 233, 16, 1, 2), [(3, 187), (3, 188), (3, 189), (1, 6)]), ((6, 236, 17, 3, 2), [(3, 195), (3, 196), (3, 197), (1, 6)]), ((6, 239, 18, 3, 2), [(3, 203), (3, 204), (3, 205), (1, 6)]), ((6, 242, 19, 3, 2), [(3, 212), (3, 213), (3, 214), (1, 6)]), ((6, 253, 20, 5, 2), [(3, 233), (3, 234), (3, 235), (1, 6)]), ((6, 257, 21, 5, 2), [(4, 5), (4, 6), (4, 7), (1, 6)]), ((6, 272, 6, 4, 1), [(4, 37), (4, 38), (4, 39), (1, 7)]), ((6, 276, 5, 2, 1), [(4, 64), (4, 65), (4, 66), (1, 7)]), ((6, 279, 108, 1, 6), [(4, 73), (4, 75), (0, 28), (1, 1)]), ((6, 282, 59, 2, 5), [(4, 77), (3, 48), (3, 49), (1, 4)]), ((7, 68, 118, 2, 7), [(4, 174), (4, 176), (0, 29), (1, 8)]), ((7, 72, 119, 2, 7), [(4, 179), (4, 181), (0, 30), (1, 8)]), ((7, 108, 129, 2, 7), [(4, 224), (4, 226), (0, 34), (1, 8)]), ((7, 111, 128, 2, 7), [(4, 228), (4, 230), (0, 35), (1, 8)]), ((7, 114, 127, 1, 7), [(4, 212), (4, 214), (0, 32), (1, 8)]), ((7, 117, 130, 2, 7), [(4, 220), (4, 222), (0, 33), (1, 8)]), ((7, 120, 131, 5, 7), [(4, 232), (4, 234), (0, 36), (1, 8)]), ((7, 124, 132, 2, 7), [(4, 236), (4, 238), (0, 37), (1, 8)]), ((7, 127, 133, 1, 7), [(5, 0), (5, 2), (0, 38), (1, 8)]), ((7, 131, 134, 1, 7), [(4, 208), (4, 210), (0, 31), (1, 8)]), ((7, 149, 140, 2, 7), [(5, 23), (5, 25), (0, 41), (1, 8)]), ((7, 153, 139, 1, 7), [(5, 30), (5, 32), (0, 42), (1, 8)]), ((7, 160, 142, 1, 7), [(5, 15), (5, 17), (0, 39), (1, 8)]), ((7, 163, 141, 1, 7), [(5, 19), (5, 21), (0, 40), (1, 8)]), ((7, 168, 137, 2, 7), [(5, 43), (5, 45), (0, 43), (1, 8)]), ((7, 171, 145, 2, 7), [(5, 47), (5, 49), (0, 44), (1, 8)]), ((7, 176, 138, 2, 7), [(5, 60), (5, 62), (0, 45), (1, 8)]), ((7, 184, 153, 1, 7), [(5, 88), (5, 90), (0, 46), (1, 8)]), ((7, 187, 155, 2, 7), [(5, 92), (5, 94), (0, 47), (1, 8)]), ((7, 190, 154, 1, 7), [(5, 96), (5, 98), (0, 48), (1, 8)]), ((7, 194, 160, 3, 7), [(5, 113), (5, 115), (0, 49), (1, 8)]), ((7, 197, 162, 2, 7), [(5, 121), (5, 123), (0, 50), (1, 8)]), ((7, 200, 167, 3, 7), [(5, 141), (5, 143), (0, 51), (1, 8)]), ((7, 205, 170, 4, 7), [(5, 154), (5, 156), (0, 52), (1, 8)]), ((7, 209, 171, 3, 7), [(5, 158), (5, 160), (0, 53), (1, 8)]), ((7, 218, 179, 2, 7), [(5, 193), (5, 195), (0, 55), (1, 8)]), ((7, 221, 180, 3, 7), [(5, 201), (5, 203), (0, 57), (1, 8)]), ((7, 224, 182, 2, 7), [(5, 217), (5, 219), (0, 61), (1, 8)]), ((7, 227, 181, 2, 7), [(5, 209), (5, 211), (0, 59), (1, 8)]), ((7, 230, 183, 2, 7), [(5, 213), (5, 215), (0, 60), (1, 8)]), ((7, 233, 184, 2, 7), [(5, 205), (5, 207), (0, 58), (1, 8)]), ((7, 236, 185, 2, 7), [(5, 197), (5, 199), (0, 56), (1, 8)]), ((7, 239, 186, 2, 7), [(5, 189), (5, 191), (0, 54), (1, 8)]), ((9, 13, 69, 4, 6), [(2, 13), (2, 14), (2, 15), (1, 1)]), ((9, 17, 121, 4, 7), [(4, 161), (4, 162), (4, 163), (1, 8)]), ((9, 18, 70, 4, 6), [(2, 40), (2, 41), (2, 42), (1, 1)]), ((9, 21, 123, 4, 7), [(4, 183), (4, 184), (4, 185), (1, 8)]), ((9, 22, 71, 6, 6), [(2, 64), (2, 65), (2, 66), (1, 1)]), ((9, 26, 124, 6, 7), [(4, 190), (4, 191), (4, 192), (1, 8)]), ((9, 27, 72, 2, 6), [(2, 71), (2, 72), (2, 73), (1, 1)]), ((9, 31, 125, 2, 7), [(4, 194), (4, 195), (4, 196), (1, 8)]), ((9, 32, 73, 2, 6), [(2, 79), (2, 80), (2, 81), (1, 1)]), ((9, 35, 126, 2, 7), [(4, 198), (4, 199), (4, 200), (1, 8)]), ((9, 36, 74, 1, 6), [(2, 92), (2, 93), (2, 94), (1, 1)]), ((9, 40, 135, 1, 7), [(4, 204), (4, 205), (4, 206), (1, 8)]), ((9, 41, 75, 1, 6), [(3, 18), (3, 19), (3, 20), (1, 1)]), ((9, 44, 136, 1, 7), [(5, 5), (5, 6), (5, 7), (1, 8)]), ((9, 45, 76, 2, 6), [(3, 22), (3, 23), (3, 24), (1, 1)]), ((9, 48, 143, 2, 7), [(5, 9), (5, 10), (5, 11), (1, 8)]), ((9, 49, 77, 2, 6), [(3, 71), (3, 72), (3, 73), (1, 1)]), ((9, 52, 144, 2, 7), [(5, 34), (5, 35), (5, 36), (1, 8)]), ((9, 53, 78, 2, 6), [(3, 75), (3, 76), (3, 77), (1, 1)]), ((9, 56, 146, 2, 7), [(5, 39), (5, 40), (5, 41), (1, 8)]), ((9, 57, 79, 2, 6), [(3, 84), (3, 85), (3, 86), (1, 1)]), ((9, 60, 147, 2, 7), [(5, 51), (5, 52), (5, 53), (1, 8)]), ((9, 61, 80, 2, 6), [(3, 89), (3, 90), (3, 91), (1, 1)]), ((9, 64, 148, 2, 7), [(5, 56), (5, 57), (5, 58), (1, 8)]), ((9, 65, 81, 1, 6), [(3, 97), (3, 98), (3, 99), (1, 1)]), ((9, 68, 149, 1, 7), [(5, 64), (5, 65), (5, 66), (1, 8)]), ((9, 69, 82, 3, 6), [(3, 109), (3, 110), (3, 111), (1, 1)]), ((9, 73, 150, 3, 7), [(5, 68), (5, 69), (5, 70), (1, 8)]), ((9, 74, 83, 3, 6), [(3, 113), (3, 114), (3, 115), (1, 1)]), ((9, 77, 151, 3, 7), [(5, 72), (5, 73), (5, 74), (1, 8)]), ((9, 78, 84, 2, 6), [(3, 117), (3, 118), (3, 119), (1, 1)]), ((9, 81, 152, 2, 7), [(5, 76), (5, 77), (5, 78), (1, 8)]), ((9, 82, 85, 2, 6), [(3, 121), (3, 122), (3, 123), (1, 1)]), ((9, 85, 157, 2, 7), [(5, 80), (5, 81), (5, 82), (1, 8)]), ((9, 86, 86, 2, 6), [(3, 138), (3, 139), (3, 140), (1, 1)]), ((9, 89, 158, 2, 7), [(5, 100), (5, 101), (5, 102), (1, 8)]), ((9, 90, 87, 2, 6), [(3, 147), (3, 148), (3, 149), (1, 1)]), ((9, 93, 159, 2, 7), [(5, 105), (5, 106), (5, 107), (1, 8)]), ((9, 94, 88, 2, 6), [(3, 155), (3, 156), (3, 157), (1, 1)]), ((9, 97, 161, 2, 7), [(5, 109), (5, 110), (5, 111), (1, 8)]), ((9, 98, 89, 2, 6), [(3, 171), (3, 172), (3, 173), (1, 1)]), ((9, 101, 163, 2, 7), [(5, 117), (5, 118), (5, 119), (1, 8)]), ((9, 102, 90, 1, 6), [(3, 183), (3, 184), (3, 185), (1, 1)]), ((9, 105, 164, 1, 7), [(5, 125), (5, 126), (5, 127), (1, 8)]), ((9, 106, 91, 3, 6), [(3, 191), (3, 192), (3, 193), (1, 1)]), ((9, 109, 165, 3, 7), [(5, 129), (5, 130), (5, 131), (1, 8)]), ((9, 110, 92, 3, 6), [(3, 199), (3, 200), (3, 201), (1, 1)]), ((9, 113, 166, 3, 7), [(5, 133), (5, 134), (5, 135), (1, 8)]), ((9, 114, 93, 3, 6), [(3, 208), (3, 209), (3, 210), (1, 1)]), ((9, 117, 168, 3, 7), [(5, 137), (5, 138), (5, 139), (1, 8)]), ((9, 118, 94, 4, 6), [(3, 216), (3, 217), (3, 218), (1, 1)]), ((9, 121, 169, 4, 7), [(5, 145), (5, 146), (5, 147), (1, 8)]), ((9, 122, 95, 5, 6), [(3, 229), (3, 230), (3, 231), (1, 1)]), ((9, 126, 172, 5, 7), [(5, 149), (5, 150), (5, 151), (1, 8)]), ((9, 127, 96, 5, 6), [(4, 1), (4, 2), (4, 3), (1, 1)]), ((9, 130, 173, 5, 7), [(5, 162), (5, 163), (5, 164), (1, 8)]), ((9, 131, 97, 2, 6), [(4, 9), (4, 10), (4, 11), (1, 1)]), ((9, 134, 174, 2, 7), [(5, 166), (5, 167), (5, 168), (1, 8)]), ((9, 135, 98, 2, 6), [(4, 16), (4, 17), (4, 18), (1, 1)]), ((9, 138, 175, 2, 7), [(5, 170), (5, 171), (5, 172), (1, 8)]), ((9, 139, 99, 2, 6), [(4, 20), (4, 21), (4, 22), (1, 1)]), ((9, 142, 176, 2, 7), [(5, 174), (5, 175), (5, 176), (1, 8)]), ((9, 143, 100, 3, 6), [(4, 24), (4, 25), (4, 26), (1, 1)]), ((9, 146, 178, 3, 7), [(5, 178), (5, 179), (5, 180), (1, 8)]), ((9, 147, 101, 3, 6), [(4, 33), (4, 34), (4, 35), (1, 1)]), ((9, 150, 187, 3, 7), [(5, 185), (5, 186), (5, 187), (1, 8)]), ((9, 151, 102, 2, 6), [(4, 60), (4, 61), (4, 62), (1, 1)]), ((9, 154, 188, 2, 7), [(5, 221), (5, 222), (5, 223), (1, 8)]), ((9, 155, 103, 2, 6), [(4, 69), (4, 70), (4, 71), (1, 1)]), ((9, 158, 189, 2, 7), [(5, 225), (5, 226), (5, 227), (1, 8)]), ((9, 159, 104, 1, 6), [(4, 78), (4, 79), (4, 80), (1, 1)]), ((9, 162, 190, 1, 7), [(5, 229), (5, 230), (5, 231), (1, 8)])]
def sx_cvs : List (Nat × Nat × Nat × Nat × Nat) := sx_cvsh.map (fun q => q.1)
def sx_cssh : List ((Nat × Nat × Nat × Nat) × List (Nat × Nat)) := [((0, 29, 193, 2), [(3, 70), (2, 168), (1, 14)]), ((1, 42, 29, 2), [(4, 45), (4, 46), (1, 11)]), ((3, 20, 194, 2), [(2, 33), (2, 34), (1, 9)]), ((4, 53, 27, 1), [(2, 132), (2, 133), (1, 11)]), ((5, 88, 192, 2), [(3, 59), (3, 60), (1, 14)]), ((6, 71, 110, 1), [(2, 17), (2, 18), (1, 1)]), ((6, 75, 113, 3), [(2, 20), (2, 21), (1, 1)]), ((6, 215, 112, 1), [(3, 125), (3, 126), (1, 1)]), ((6, 245, 191, 1), [(3, 220), (3, 221), (1, 18)]), ((6, 250, 114, 3), [(3, 226), (3, 227), (1, 1)]), ((6, 261, 111, 1), [(4, 13), (4, 14), (1, 1)]), ((6, 269, 28, 2), [(4, 28), (4, 29), (1, 11)]), ((7, 57, 116, 3), [(4, 169), (4, 170), (1, 8)]), ((7, 61, 120, 1), [(4, 165), (4, 166), (1, 8)]), ((7, 75, 122, 2), [(4, 187), (4, 188), (1, 8)]), ((7, 145, 117, 2), [(5, 27), (5, 28), (1, 8)]), ((7, 181, 156, 1), [(5, 84), (5, 85), (1, 8)]), ((7, 212, 177, 2), [(5, 182), (5, 183), (1, 8)]), ((13, 637, 202, 4), [(2, 158), (2, 159), (1, 13)]), ((14, 38, 193, 2), [(2, 167), (2, 168), (1, 14)]), ((14, 88, 201, 1), [(2, 161), (2, 162), (1, 13)]), ((14, 92, 195, 2), [(2, 164), (2, 165), (1, 14)]), ((14, 95, 203, 4), [(2, 170), (2, 171), (1, 13)])]
def sx_css : List (Nat × Nat × Nat × Nat) := sx_cssh.map (fun q => q.1)
def sx_cish : List ((Nat × Nat × Nat × Nat) × List (Nat × Nat)) := [((6, 42, 10, 2), [(1, 187), (1, 188), (1, 6)]), ((9, 9, 68, 1), [(1, 21), (1, 22), (1, 1)]), ((9, 12, 115, 1), [(4, 84), (4, 85), (1, 8)])]
def sx_cis : List (Nat × Nat × Nat × Nat) := sx_cish.map (fun q => q.1)
def sx_cnsh : List ((Nat × Nat × Nat × Nat) × List (Nat × Nat)) := [((2, 13, 52, 1), [(1, 79), (1, 4)]), ((6, 15, 30, 1), [(1, 31), (1, 2)]), ((6, 18, 37, 1), [(1, 51), (1, 3)]), ((6, 25, 52, 1), [(1, 79), (1, 4)]), ((6, 35, 0, 1), [(1, 162), (1, 5)]), ((6, 51, 4, 1), [(1, 207), (1, 7)])]
def sx_cns : List (Nat × Nat × Nat × Nat) := sx_cnsh.map (fun q => q.1)
def sx_cnh : List (Nat × Nat) := [(1, 192), (1, 30), (1, 50), (1, 78), (1, 161), (1, 206)]
def sx_coh : List (List (Nat × Nat)) := [[(1, 163)], [(3, 16)], [(3, 69)], [(3, 104)], [(1, 208)], [(4, 67)], [(4, 40)], [(4, 55)], [(4, 44)], [(4, 59)], [(1, 189)], [(3, 131)], [(3, 145)], [(3, 154)], [(3, 162)], [(3, 178)], [(3, 190)], [(3, 198)], [(3, 206)], [(3, 215)], [(3, 236)], [(4, 8)], [(3, 136)], [(3, 182)], [(4, 0)], [(3, 166)], [(3, 170)], [(2, 134)], [(4, 30)], [(4, 47)], [(1, 32)], [(2, 51)], [(2, 32)], [(2, 78)], [(2, 55)], [(2, 59)], [(2, 63)], [(1, 52)], [(2, 86)], [(2, 91)], [(3, 6)], [(2, 99)], [(2, 107)], [(2, 131)], [(2, 225)], [(2, 233)], [(2, 237)], [(2, 111)], [(2, 123)], [(2, 127)], [(2, 115)], [(2, 119)], [(1, 80)], [(2, 103)], [(3, 11)], [(2, 229)], [(3, 1)], [(3, 82)], [(3, 96)], [(3, 50)], [(3, 65)], [(3, 34)], [(3, 108)], [(3, 38)], [(3, 42)], [(3, 46)], [(3, 54)], [(3, 58)], [(1, 23)], [(2, 16)], [(2, 43)], [(2, 67)], [(2, 74)], [(2, 82)], [(2, 95)], [(3, 21)], [(3, 25)], [(3, 74)], [(3, 78)], [(3, 87)], [(3, 92)], [(3, 100)], [(3, 112)], [(3, 116)], [(3, 120)], [(3, 124)], [(3, 141)], [(3, 150)], [(3, 158)], [(3, 174)], [(3, 186)], [(3, 194)], [(3, 202)], [(3, 211)], [(3, 219)], [(3, 232)], [(4, 4)], [(4, 12)], [(4, 19)], [(4, 23)], [(4, 27)], [(4, 36)], [(4, 63)], [(4, 72)], [(4, 81)], [(2, 27)], [(2, 39)], [(2, 47)], [(4, 76)], [(3, 29)], [(2, 19)], [(4, 15)], [(3, 127)], [(2, 22)], [(3, 228)], [(4, 86)], [(4, 171)], [(5, 29)], [(4, 177)], [(4, 182)], [(4, 167)], [(4, 164)], [(4, 189)], [(4, 186)], [(4, 193)], [(4, 197)], [(4, 201)], [(4, 215)], [(4, 231)], [(4, 227)], [(4, 223)], [(4, 235)], [(4, 239)], [(5, 3)], [(4, 211)], [(4, 207)], [(5, 8)], [(5, 46)], [(5, 63)], [(5, 33)], [(5, 26)], [(5, 22)], [(5, 18)], [(5, 12)], [(5, 37)], [(5, 50)], [(5, 42)], [(5, 54)], [(5, 59)], [(5, 67)], [(5, 71)], [(5, 75)], [(5, 79)], [(5, 91)], [(5, 99)], [(5, 95)], [(5, 86)], [(5, 83)], [(5, 103)], [(5, 108)], [(5, 116)], [(5, 112)], [(5, 124)], [(5, 120)], [(5, 128)], [(5, 132)], [(5, 136)], [(5, 144)], [(5, 140)], [(5, 148)], [(5, 157)], [(5, 161)], [(5, 152)], [(5, 165)], [(5, 169)], [(5, 173)], [(5, 177)], [(5, 184)], [(5, 181)], [(5, 196)], [(5, 204)], [(5, 212)], [(5, 220)], [(5, 216)], [(5, 208)], [(5, 200)], [(5, 192)], [(5, 188)], [(5, 224)], [(5, 228)], [(5, 232)], [(3, 222)], [(3, 61)], [(2, 169)], [(2, 35)], [(2, 166)], [(2, 153)], [(2, 139)], [(2, 143)], [(2, 157)], [(2, 147)], [(2, 163)], [(2, 160)], [(2, 172)]]
def sx_obih : List ((Nat × Nat) × List (Nat × Nat)) := [((0, 1), [(1, 164)]), ((1, 3), [(1, 209)]), ((2, 5), [(1, 190)]), ((3, 1), [(1, 33)]), ((4, 1), [(1, 53)]), ((5, 3), [(1, 81)]), ((6, 1), [(1, 24)]), ((7, 1), [(4, 87)])]
def sx_obi : List (Nat × Nat) := sx_obih.map (fun q => q.1)
def sx_acoh : List ((Nat × Nat) × List (Nat × Nat)) := [((5, 55), [(3, 12)]), ((6, 114), [(2, 68)])]
def sx_aco : List (Nat × Nat) := sx_acoh.map (fun q => q.1)
def sx_gszh : List ((Nat × Nat) × List (Nat × Nat)) := [((13, 38), [(2, 148)])]
def sx_gsz : List (Nat × Nat) := sx_gszh.map (fun q => q.1)
def sx_sflh : List ((Nat × Nat × Nat) × List (Nat × Nat)) := [((13, 9, 1), [(5, 234)]), ((13, 15, 0), [(5, 233)])]
def sx_sfl : List (Nat × Nat × Nat) := sx_sflh.map (fun q => q.1)
def sx_cvth : List ((Nat × Nat × Nat × Nat) × List (Nat × Nat)) := [((8, 11, 197, 2), [(2, 136), (2, 137), (2, 138), (1, 12)]), ((13, 335, 199, 1), [(2, 154), (2, 155), (2, 156), (1, 12)]), ((13, 492, 200, 1), [(2, 144), (2, 145), (2, 146), (1, 12)]), ((13, 505, 196, 1), [(2, 150), (2, 151), (2, 152), (1, 12)]), ((13, 633, 198, 3), [(2, 140), (2, 141), (2, 142), (1, 12)])]
def sx_cvt : List (Nat × Nat × Nat × Nat) := sx_cvth.map (fun q => q.1)
def sx_gsth : List ((Nat × Nat × Nat) × List (Nat × Nat)) := [((8, 17, 101), [(4, 31)]), ((8, 21, 102), [(4, 48)]), ((8, 24, 103), [(4, 50)])]
def sx_gst : List (Nat × Nat × Nat) := sx_gsth.map (fun q => q.1)
def sx_mys : List MethodName := [⟨"HatOrders$Acts", "<init>", "()V"⟩, ⟨"HatOrders$Acts", "forgetAll", "()V"⟩, ⟨"HatOrders$Acts", "keep", "(IIII)V"⟩, ⟨"HatOrders$Acts", "revertLatest", "(LHatOrders$Town;)V"⟩, ⟨"HatOrders$Asker", "<init>", "()V"⟩, ⟨"HatOrders$Asker", "numberAt", "(I)I"⟩, ⟨"HatOrders$Asker", "answer", "(LHatOrders$Town;II)I"⟩, ⟨"HatOrders$Asker", "runBody", "(ILHatOrders$Town;II)I"⟩, ⟨"HatOrders$Asker", "askAnew", "(ILHatOrders$Town;II)I"⟩, ⟨"HatOrders$Asker", "leaveNumber", "(I)V"⟩, ⟨"HatOrders$Foresight", "<init>", "(LHatOrders$Town;)V"⟩, ⟨"HatOrders$Foresight", "holderBehind", "(I)I"⟩, ⟨"HatOrders$Foresight", "stepsUntilHolder", "(I)I"⟩, ⟨"HatOrders$Foresight", "holdersWithin", "(I)I"⟩, ⟨"HatOrders$Foresight", "repetition", "(I)I"⟩, ⟨"HatOrders$Foresight", "stepOfDone", "(I)I"⟩, ⟨"HatOrders$Foresight", "orderDoneFirst", "()I"⟩, ⟨"HatOrders$Foresight", "workWithin", "(II)I"⟩, ⟨"HatOrders$Foresight", "bestGift", "(II)I"⟩, ⟨"HatOrders$Foresight", "windsThatBring", "(II)I"⟩, ⟨"HatOrders$Foresight", "giftsThatGoAs", "(LHatOrders$Row;III)I"⟩, ⟨"HatOrders$Foresight", "keepsThatGoAs", "(ILHatOrders$Row;II)I"⟩, ⟨"HatOrders$Foresight", "go", "(I)V"⟩, ⟨"HatOrders$Foresight", "stepsUntilDone", "(II)I"⟩, ⟨"HatOrders$Foresight", "goesAs", "(LHatOrders$Row;II)Z"⟩, ⟨"HatOrders$Foresight", "markOfTrial", "()J"⟩, ⟨"HatOrders$Foresight", "earliestWithMarkOf", "(I)I"⟩, ⟨"HatOrders$Kinds", "told", "(I)I"⟩, ⟨"HatOrders$Kinds", "isOne", "(II)Z"⟩, ⟨"HatOrders$Kinds", "bodyOf", "(II)I"⟩, ⟨"HatOrders$Row", "<init>", "()V"⟩, ⟨"HatOrders$Row", "isMissing", "()Z"⟩, ⟨"HatOrders$Row", "lay", "(II)V"⟩, ⟨"HatOrders$Row", "remove", "()I"⟩, ⟨"HatOrders$Row", "hasPlaces", "(II)Z"⟩, ⟨"HatOrders$Row", "put", "(II)I"⟩, ⟨"HatOrders$Row", "cutToLane", "(I)I"⟩, ⟨"HatOrders$Tape", "<init>", "()V"⟩, ⟨"HatOrders$Tape", "isFull", "()Z"⟩, ⟨"HatOrders$Tape", "add", "(I)I"⟩, ⟨"HatOrders$Tape", "empty", "()V"⟩, ⟨"HatOrders$Tape", "readInto", "(LHatOrders$Town;)Z"⟩, ⟨"HatOrders$Tape", "readLaw", "(LHatOrders$Town;)Z"⟩, ⟨"HatOrders$Tape", "readHeads", "(LHatOrders$Town;)Z"⟩, ⟨"HatOrders$Tape", "readHead", "(LHatOrders$Town;I)Z"⟩, ⟨"HatOrders$Tape", "readOrders", "(LHatOrders$Town;)Z"⟩, ⟨"HatOrders$Tape", "readOrder", "(LHatOrders$Town;)Z"⟩, ⟨"HatOrders$Tape", "take", "(I)Z"⟩, ⟨"HatOrders$Tape", "takeNumber", "(II)Z"⟩, ⟨"HatOrders$Tape", "figuresAhead", "()I"⟩, ⟨"HatOrders$Tape", "next", "()I"⟩, ⟨"HatOrders$Tape", "refuse", "(I)Z"⟩, ⟨"HatOrders$Town", "<init>", "()V"⟩, ⟨"HatOrders$Town", "clear", "()V"⟩, ⟨"HatOrders$Town", "becomeLike", "(LHatOrders$Town;)V"⟩, ⟨"HatOrders$Town", "addHead", "(III)V"⟩, ⟨"HatOrders$Town", "addOrder", "(I)I"⟩, ⟨"HatOrders$Town", "hasHead", "(I)Z"⟩, ⟨"HatOrders$Town", "hasOrder", "(I)Z"⟩, ⟨"HatOrders$Town", "ordersThatAre", "(I)I"⟩, ⟨"HatOrders$Town", "handTo", "(I)V"⟩, ⟨"HatOrders$Town", "takeStep", "()I"⟩, ⟨"HatOrders$Town", "revertStep", "(III)V"⟩, ⟨"HatOrders$Town", "orderToWorkOn", "()I"⟩, ⟨"HatOrders$Town", "workOn", "(I)V"⟩, ⟨"HatOrders$Town", "patience", "()I"⟩, ⟨"HatOrders$Town", "stride", "()I"⟩, ⟨"HatOrders$Town", "seat", "(I)I"⟩, ⟨"HatOrders", "<init>", "()V"⟩, ⟨"HatOrders", "row", "(III)I"⟩, ⟨"HatOrders", "set", "(III)I"⟩, ⟨"HatOrders", "copy", "(IIIII)I"⟩, ⟨"HatOrders", "drop", "(I)I"⟩, ⟨"HatOrders", "feed", "(I)I"⟩, ⟨"HatOrders", "town", "()I"⟩, ⟨"HatOrders", "fault", "()I"⟩, ⟨"HatOrders", "steps", "(I)I"⟩, ⟨"HatOrders", "wind", "(I)I"⟩, ⟨"HatOrders", "give", "(I)I"⟩, ⟨"HatOrders", "order", "(I)I"⟩, ⟨"HatOrders", "back", "(I)I"⟩, ⟨"HatOrders", "undo", "()I"⟩, ⟨"HatOrders", "head", "(II)I"⟩, ⟨"HatOrders", "orderHas", "(II)I"⟩, ⟨"HatOrders", "hat", "(I)I"⟩, ⟨"HatOrders", "who", "(I)I"⟩, ⟨"HatOrders", "gets", "(I)I"⟩, ⟨"HatOrders", "ever", "(I)I"⟩, ⟨"HatOrders", "round", "(I)I"⟩, ⟨"HatOrders", "done", "(I)I"⟩, ⟨"HatOrders", "first", "()I"⟩, ⟨"HatOrders", "by", "(II)I"⟩, ⟨"HatOrders", "toGive", "(II)I"⟩, ⟨"HatOrders", "winds", "(II)I"⟩, ⟨"HatOrders", "lot", "(III)I"⟩, ⟨"HatOrders", "seen", "(IIII)I"⟩, ⟨"HatOrders", "keeps", "(IIII)I"⟩, ⟨"HatOrders", "image", "(I)I"⟩, ⟨"HatOrders", "restore", "(I)I"⟩, ⟨"HatOrders", "kind", "(I)I"⟩, ⟨"HatOrders", "as", "(II)I"⟩, ⟨"HatOrders", "ask", "(II)I"⟩, ⟨"HatOrders", "trace", "(I)I"⟩, ⟨"HatOrders", "count", "(I)I"⟩, ⟨"HatOrders", "status", "()I"⟩, ⟨"HatOrders", "finding", "(I)I"⟩, ⟨"HatOrders", "noFinding", "(I)I"⟩, ⟨"HatOrders", "findingOf", "(III)I"⟩, ⟨"HatOrders", "rowsThere", "()I"⟩, ⟨"HatOrders", "isNoTown", "()Z"⟩, ⟨"HatOrders", "isRow", "(I)Z"⟩, ⟨"HatOrders", "isImage", "(I)Z"⟩, ⟨"HatOrders", "isSpan", "(I)Z"⟩, ⟨"HatOrders", "isBetween", "(III)Z"⟩, ⟨"HatOrders", "inLowestTerms", "(III)I"⟩, ⟨"HatOrdersModel", "<init>", "()V"⟩, ⟨"HatOrdersModel", "in", "(JJJ)Z"⟩, ⟨"HatOrdersModel", "has", "(II)Z"⟩, ⟨"HatOrdersModel", "find", "(I)I"⟩, ⟨"HatOrdersModel", "well", "(I)I"⟩, ⟨"HatOrdersModel", "isRow", "(I)Z"⟩, ⟨"HatOrdersModel", "row", "(III)I"⟩, ⟨"HatOrdersModel", "asLane", "(II)I"⟩, ⟨"HatOrdersModel", "set", "(III)I"⟩, ⟨"HatOrdersModel", "copy", "(IIIII)I"⟩, ⟨"HatOrdersModel", "drop", "(I)I"⟩, ⟨"HatOrdersModel", "feed", "(I)I"⟩, ⟨"HatOrdersModel", "nextToken", "()V"⟩, ⟨"HatOrdersModel", "faults", "(I)Z"⟩, ⟨"HatOrdersModel", "isLetter", "(I)Z"⟩, ⟨"HatOrdersModel", "takes", "(I)Z"⟩, ⟨"HatOrdersModel", "takesNumber", "(IIII)Z"⟩, ⟨"HatOrdersModel", "readHead", "(I)Z"⟩, ⟨"HatOrdersModel", "readOrder", "()Z"⟩, ⟨"HatOrdersModel", "readTown", "()Z"⟩, ⟨"HatOrdersModel", "town", "()I"⟩, ⟨"HatOrdersModel", "fault", "()I"⟩, ⟨"HatOrdersModel", "isHead", "(I)Z"⟩, ⟨"HatOrdersModel", "isOrder", "(I)Z"⟩, ⟨"HatOrdersModel", "outMany", "()I"⟩, ⟨"HatOrdersModel", "work", "(I)V"⟩, ⟨"HatOrdersModel", "oneStep", "()V"⟩, ⟨"HatOrdersModel", "note", "()V"⟩, ⟨"HatOrdersModel", "steps", "(I)I"⟩, ⟨"HatOrdersModel", "wind", "(I)I"⟩, ⟨"HatOrdersModel", "giveTo", "(I)V"⟩, ⟨"HatOrdersModel", "give", "(I)I"⟩, ⟨"HatOrdersModel", "order", "(I)I"⟩, ⟨"HatOrdersModel", "back", "(I)I"⟩, ⟨"HatOrdersModel", "undo", "()I"⟩, ⟨"HatOrdersModel", "head", "(II)I"⟩, ⟨"HatOrdersModel", "orderHas", "(II)I"⟩, ⟨"HatOrdersModel", "hat", "(I)I"⟩, ⟨"HatOrdersModel", "putAside", "()V"⟩, ⟨"HatOrdersModel", "takeBack", "()V"⟩, ⟨"HatOrdersModel", "goOn", "(I)V"⟩, ⟨"HatOrdersModel", "isFar", "(I)Z"⟩, ⟨"HatOrdersModel", "who", "(I)I"⟩, ⟨"HatOrdersModel", "gets", "(I)I"⟩, ⟨"HatOrdersModel", "ever", "(I)I"⟩, ⟨"HatOrdersModel", "isAlike", "(II)Z"⟩, ⟨"HatOrdersModel", "round", "(I)I"⟩, ⟨"HatOrdersModel", "doneIn", "(I)I"⟩, ⟨"HatOrdersModel", "done", "(I)I"⟩, ⟨"HatOrdersModel", "first", "()I"⟩, ⟨"HatOrdersModel", "by", "(II)I"⟩, ⟨"HatOrdersModel", "toGive", "(II)I"⟩, ⟨"HatOrdersModel", "windsBy", "(II)I"⟩, ⟨"HatOrdersModel", "winds", "(II)I"⟩, ⟨"HatOrdersModel", "lot", "(III)I"⟩, ⟨"HatOrdersModel", "lacks", "(III)I"⟩, ⟨"HatOrdersModel", "goesSo", "(II)Z"⟩, ⟨"HatOrdersModel", "seen", "(IIII)I"⟩, ⟨"HatOrdersModel", "keeps", "(IIII)I"⟩, ⟨"HatOrdersModel", "image", "(I)I"⟩, ⟨"HatOrdersModel", "restore", "(I)I"⟩, ⟨"HatOrdersModel", "kind", "(I)I"⟩, ⟨"HatOrdersModel", "isKind", "(II)Z"⟩, ⟨"HatOrdersModel", "as", "(II)I"⟩, ⟨"HatOrdersModel", "begin", "(I)V"⟩, ⟨"HatOrdersModel", "lent", "(II)I"⟩, ⟨"HatOrdersModel", "firmMark", "(I)I"⟩, ⟨"HatOrdersModel", "windySize", "(I)I"⟩, ⟨"HatOrdersModel", "sizeOfWindy", "(I)I"⟩, ⟨"HatOrdersModel", "markOf", "(I)I"⟩, ⟨"HatOrdersModel", "firmSize", "(I)I"⟩, ⟨"HatOrdersModel", "sizeOf", "(I)I"⟩, ⟨"HatOrdersModel", "ask", "(II)I"⟩, ⟨"HatOrdersModel", "trace", "(I)I"⟩, ⟨"HatOrdersModel", "count", "(I)I"⟩, ⟨"HatOrdersModel", "status", "()I"⟩, ⟨"java/lang/Integer", "bitCount", "(I)I"⟩, ⟨"java/lang/Math", "floorMod", "(II)I"⟩, ⟨"java/lang/Math", "min", "(II)I"⟩, ⟨"java/util/Arrays", "fill", "([II)V"⟩, ⟨"java/lang/Math", "max", "(II)I"⟩, ⟨"java/lang/String", "length", "()I"⟩, ⟨"java/lang/String", "indexOf", "(I)I"⟩, ⟨"java/lang/String", "indexOf", "(II)I"⟩, ⟨"java/lang/String", "coder", "()B"⟩, ⟨"java/lang/String", "isLatin1", "()Z"⟩, ⟨"java/lang/StringLatin1", "canEncode", "(I)Z"⟩, ⟨"java/lang/StringLatin1", "indexOf", "([BIII)I"⟩, ⟨"java/lang/StringLatin1", "indexOfChar", "([BIII)I"⟩, ⟨"HatOrdersLaw", "law", "([I)Z"⟩]
def sx_my (m : Nat) : MethodName := sx_mys.getD m ⟨"", "", ""⟩
def sx_mcs : List ByteArray := [prog_2_method_1_code, prog_2_method_2_code, prog_2_method_3_code, prog_2_method_4_code, prog_3_method_1_code, prog_3_method_2_code, prog_3_method_3_code, prog_3_method_4_code, prog_3_method_5_code, prog_3_method_6_code, prog_4_method_1_code, prog_4_method_2_code, prog_4_method_3_code, prog_4_method_4_code, prog_4_method_5_code, prog_4_method_6_code, prog_4_method_7_code, prog_4_method_8_code, prog_4_method_9_code, prog_4_method_10_code, prog_4_method_11_code, prog_4_method_12_code, prog_4_method_13_code, prog_4_method_14_code, prog_4_method_15_code, prog_4_method_16_code, prog_4_method_17_code, prog_5_method_2_code, prog_5_method_3_code, prog_5_method_4_code, prog_6_method_1_code, prog_6_method_2_code, prog_6_method_3_code, prog_6_method_4_code, prog_6_method_5_code, prog_6_method_6_code, prog_6_method_7_code, prog_7_method_1_code, prog_7_method_2_code, prog_7_method_3_code, prog_7_method_4_code, prog_7_method_5_code, prog_7_method_6_code, prog_7_method_7_code, prog_7_method_8_code, prog_7_method_9_code, prog_7_method_10_code, prog_7_method_11_code, prog_7_method_12_code, prog_7_method_13_code, prog_7_method_14_code, prog_7_method_15_code, prog_8_method_1_code, prog_8_method_2_code, prog_8_method_3_code, prog_8_method_4_code, prog_8_method_5_code, prog_8_method_6_code, prog_8_method_7_code, prog_8_method_8_code, prog_8_method_9_code, prog_8_method_10_code, prog_8_method_11_code, prog_8_method_12_code, prog_8_method_13_code, prog_8_method_14_code, prog_8_method_15_code, prog_8_method_16_code, prog_1_method_1_code, prog_1_method_2_code, prog_1_method_3_code, prog_1_method_4_code, prog_1_method_5_code, prog_1_method_6_code, prog_1_method_7_code, prog_1_method_8_code, prog_1_method_9_code, prog_1_method_10_code, prog_1_method_11_code, prog_1_method_12_code, prog_1_method_13_code, prog_1_method_14_code, prog_1_method_15_code, prog_1_method_16_code, prog_1_method_17_code, prog_1_method_18_code, prog_1_method_19_code, prog_1_method_20_code, prog_1_method_21_code, prog_1_method_22_code, prog_1_method_23_code, prog_1_method_24_code, prog_1_method_25_code, prog_1_method_26_code, prog_1_method_27_code, prog_1_method_28_code, prog_1_method_29_code, prog_1_method_30_code, prog_1_method_31_code, prog_1_method_32_code, prog_1_method_33_code, prog_1_method_34_code, prog_1_method_35_code, prog_1_method_36_code, prog_1_method_37_code, prog_1_method_38_code, prog_1_method_39_code, prog_1_method_40_code, prog_1_method_41_code, prog_1_method_42_code, prog_1_method_43_code, prog_1_method_44_code, prog_1_method_45_code, prog_1_method_46_code, prog_1_method_47_code, prog_10_method_1_code, prog_10_method_2_code, prog_10_method_3_code, prog_10_method_4_code, prog_10_method_5_code, prog_10_method_6_code, prog_10_method_7_code, prog_10_method_8_code, prog_10_method_9_code, prog_10_method_10_code, prog_10_method_11_code, prog_10_method_12_code, prog_10_method_13_code, prog_10_method_14_code, prog_10_method_15_code, prog_10_method_16_code, prog_10_method_17_code, prog_10_method_18_code, prog_10_method_19_code, prog_10_method_20_code, prog_10_method_21_code, prog_10_method_22_code, prog_10_method_23_code, prog_10_method_24_code, prog_10_method_25_code, prog_10_method_26_code, prog_10_method_27_code, prog_10_method_28_code, prog_10_method_29_code, prog_10_method_30_code, prog_10_method_31_code, prog_10_method_32_code, prog_10_method_33_code, prog_10_method_34_code, prog_10_method_35_code, prog_10_method_36_code, prog_10_method_37_code, prog_10_method_38_code, prog_10_method_39_code, prog_10_method_40_code, prog_10_method_41_code, prog_10_method_42_code, prog_10_method_43_code, prog_10_method_44_code, prog_10_method_45_code, prog_10_method_46_code, prog_10_method_47_code, prog_10_method_48_code, prog_10_method_49_code, prog_10_method_50_code, prog_10_method_51_code, prog_10_method_52_code, prog_10_method_53_code, prog_10_method_54_code, prog_10_method_55_code, prog_10_method_56_code, prog_10_method_57_code, prog_10_method_58_code, prog_10_method_59_code, prog_10_method_60_code, prog_10_method_61_code, prog_10_method_62_code, prog_10_method_63_code, prog_10_method_64_code, prog_10_method_65_code, prog_10_method_66_code, prog_10_method_67_code, prog_10_method_68_code, prog_10_method_69_code, prog_10_method_70_code, prog_10_method_71_code, prog_10_method_72_code, prog_10_method_73_code, prog_10_method_74_code, prog_10_method_75_code, prog_10_method_76_code, prog_12_method_49_code, prog_13_method_50_code, prog_13_method_69_code, prog_18_method_103_code, prog_13_method_65_code, prog_14_method_54_code, prog_14_method_79_code, prog_14_method_80_code, prog_14_method_152_code, prog_14_method_154_code, prog_15_method_4_code, prog_15_method_22_code, prog_15_method_23_code, code]
def sx_mc (m : Nat) : ByteArray := sx_mcs.getD m ⟨#[]⟩
def sx_mrs : List (Option FieldType) := [none, none, none, none, none, some .int, some .int, some .int, some .int, none, none, some .int, some .int, some .int, some .int, some .int, some .int, some .int, some .int, some .int, some .int, some .int, none, some .int, some .boolean, some .long, some .int, some .int, some .boolean, some .int, none, some .boolean, none, some .int, some .boolean, some .int, some .int, none, some .boolean, some .int, none, some .boolean, some .boolean, some .boolean, some .boolean, some .boolean, some .boolean, some .boolean, some .boolean, some .int, some .int, some .boolean, none, none, none, none, some .int, some .boolean, some .boolean, some .int, none, some .int, none, some .int, none, some .int, some .int, some .int, none, some .int, some .int, some .int, some .int, some .int, some .int, some .int, some .int, some .int, some .int, some .int, some .int, some .int, some .int, some .int, some .int, some .int, some .int, some .int, some .int, some .int, some .int, some .int, some .int, some .int, some .int, some .int, some .int, some .int, some .int, some .int, some .int, some .int, some .int, some .int, some .int, some .int, some .int, some .int, some .int, some .boolean, some .boolean, some .boolean, some .boolean, some .boolean, some .int, none, some .boolean, some .boolean, some .int, some .int, some .boolean, some .int, some .int, some .int, some .int, some .int, some .int, none, some .boolean, some .boolean, some .boolean, some .boolean, some .boolean, some .boolean, some .boolean, some .int, some .int, some .boolean, some .boolean, some .int, none, none, none, some .int, some .int, none, some .int, some .int, some .int, some .int, some .int, some .int, some .int, none, none, none, some .boolean, some .int, some .int, some .int, some .boolean, some .int, some .int, some .int, some .int, some .int, some .int, some .int, some .int, some .int, some .int, some .boolean, some .int, some .int, some .int, some .int, some .int, some .boolean, some .int, none, some .int, some .int, some .int, some .int, some .int, some .int, some .int, some .int, some .int, some .int, some .int, some .int, some .int, some .int, none, some .int, some .int, some .int, some .int, some .byte, some .boolean, some .boolean, some .int, some .int, some .boolean]
def sx_mr (m : Nat) : Option FieldType := sx_mrs.getD m none
def sx_mos : List Nat := [0, 0, 0, 0, 1, 1, 1, 1, 1, 1, 2, 2, 2, 2, 2, 2, 2, 2, 2, 2, 2, 2, 2, 2, 2, 2, 2, 8, 8, 8, 3, 3, 3, 3, 3, 3, 3, 4, 4, 4, 4, 4, 4, 4, 4, 4, 4, 4, 4, 4, 4, 4, 5, 5, 5, 5, 5, 5, 5, 5, 5, 5, 5, 5, 5, 5, 5, 5, 6, 6, 6, 6, 6, 6, 6, 6, 6, 6, 6, 6, 6, 6, 6, 6, 6, 6, 6, 6, 6, 6, 6, 6, 6, 6, 6, 6, 6, 6, 6, 6, 6, 6, 6, 6, 6, 6, 6, 6, 6, 6, 6, 6, 6, 6, 6, 7, 7, 7, 7, 7, 7, 7, 7, 7, 7, 7, 7, 7, 7, 7, 7, 7, 7, 7, 7, 7, 7, 7, 7, 7, 7, 7, 7, 7, 7, 7, 7, 7, 7, 7, 7, 7, 7, 7, 7, 7, 7, 7, 7, 7, 7, 7, 7, 7, 7, 7, 7, 7, 7, 7, 7, 7, 7, 7, 7, 7, 7, 7, 7, 7, 7, 7, 7, 7, 7, 7, 7, 7, 7, 7, 7, 11, 10, 10, 12, 10, 13, 13, 13, 13, 13, 14, 14, 14, 9]
def sx_mo (m : Nat) : Nat := sx_mos.getD m 0
theorem sx_fl_ck : ∀ q ∈ sx_flh, sx_chk q.2 ([Jvm.Cond.fieldLink (sx_on q.1.1) q.1.2.1 (sx_T q.1.2.2.1 q.1.2.2.2).1 (sx_T q.1.2.2.1 q.1.2.2.2).2.1 (sx_T q.1.2.2.1 q.1.2.2.2).2.2.1]) = true ∧ (q.1.2.2.1 < 8 ∧ q.1.2.2.2 < sx_nf q.1.2.2.1) := by decide +kernel
theorem sx_fl_ok : ∀ q ∈ sx_fl, (∀ w ∈ ([Jvm.Cond.fieldLink (sx_on q.1) q.2.1 (sx_T q.2.2.1 q.2.2.2).1 (sx_T q.2.2.1 q.2.2.2).2.1 (sx_T q.2.2.1 q.2.2.2).2.2.1] : List Jvm.Cond), w ∈ sx_tb) ∧ (q.2.2.1 < 8 ∧ q.2.2.2 < sx_nf q.2.2.1) := by
  intro q hq
  obtain ⟨x, hx, rfl⟩ := List.mem_map.mp hq
  exact ⟨sx_chk_in _ _ (sx_fl_ck x hx).1, (sx_fl_ck x hx).2⟩
theorem sx_cst_ck : ∀ q ∈ sx_csth, sx_chk q.2 ([Jvm.Cond.constant (sx_on q.1.1) q.1.2.1 (Int32.ofInt q.1.2.2)]) = true ∧ (True) := by decide +kernel
theorem sx_cst_ok : ∀ q ∈ sx_cst, (∀ w ∈ ([Jvm.Cond.constant (sx_on q.1) q.2.1 (Int32.ofInt q.2.2)] : List Jvm.Cond), w ∈ sx_tb) ∧ (True) := by
  intro q hq
  obtain ⟨x, hx, rfl⟩ := List.mem_map.mp hq
  exact ⟨sx_chk_in _ _ (sx_cst_ck x hx).1, (sx_cst_ck x hx).2⟩
theorem sx_cstL_ck : ∀ q ∈ sx_cstLh, sx_chk q.2 ([Jvm.Cond.constantLong (sx_on q.1.1) q.1.2.1 (Int64.ofInt q.1.2.2)]) = true ∧ (True) := by decide +kernel
theorem sx_cstL_ok : ∀ q ∈ sx_cstL, (∀ w ∈ ([Jvm.Cond.constantLong (sx_on q.1) q.2.1 (Int64.ofInt q.2.2)] : List Jvm.Cond), w ∈ sx_tb) ∧ (True) := by
  intro q hq
  obtain ⟨x, hx, rfl⟩ := List.mem_map.mp hq
  exact ⟨sx_chk_in _ _ (sx_cstL_ck x hx).1, (sx_cstL_ck x hx).2⟩
theorem sx_cla_ck : ∀ q ∈ sx_clah, sx_chk q.2 ([Jvm.Cond.classLink (sx_on q.1.1) q.1.2.1 (sx_cn q.1.2.2), Jvm.Cond.instantiable (sx_cn q.1.2.2) (sx_nf q.1.2.2), Jvm.Cond.initialized (sx_cn q.1.2.2)]) = true ∧ (q.1.2.2 < 8) := by decide +kernel
theorem sx_cla_ok : ∀ q ∈ sx_cla, (∀ w ∈ ([Jvm.Cond.classLink (sx_on q.1) q.2.1 (sx_cn q.2.2), Jvm.Cond.instantiable (sx_cn q.2.2) (sx_nf q.2.2), Jvm.Cond.initialized (sx_cn q.2.2)] : List Jvm.Cond), w ∈ sx_tb) ∧ (q.2.2 < 8) := by
  intro q hq
  obtain ⟨x, hx, rfl⟩ := List.mem_map.mp hq
  exact ⟨sx_chk_in _ _ (sx_cla_ck x hx).1, (sx_cla_ck x hx).2⟩
theorem sx_clq_ck : ∀ q ∈ sx_clqh, sx_chk q.2 ([Jvm.Cond.classLink (sx_on q.1.1) q.1.2.1 (if q.1.2.2 = 5 then "HatOrders$Row" else "HatOrders$Town")]) = true ∧ (q.1.2.2 = 5 ∨ q.1.2.2 = 6) := by decide +kernel
theorem sx_clq_ok : ∀ q ∈ sx_clq, (∀ w ∈ ([Jvm.Cond.classLink (sx_on q.1) q.2.1 (if q.2.2 = 5 then "HatOrders$Row" else "HatOrders$Town")] : List Jvm.Cond), w ∈ sx_tb) ∧ (q.2.2 = 5 ∨ q.2.2 = 6) := by
  intro q hq
  obtain ⟨x, hx, rfl⟩ := List.mem_map.mp hq
  exact ⟨sx_chk_in _ _ (sx_clq_ck x hx).1, (sx_clq_ck x hx).2⟩
theorem sx_cvs_ck : ∀ q ∈ sx_cvsh, sx_chk q.2 ([Jvm.Cond.methodLink (sx_on q.1.1) q.1.2.1 (sx_my q.1.2.2.1), Jvm.Cond.instanceMethod (sx_my q.1.2.2.1), Jvm.Cond.selects (sx_cn q.1.2.2.2.2) (sx_my q.1.2.2.1) (sx_my q.1.2.2.1), Jvm.Cond.initialized (sx_cn q.1.2.2.2.2)]) = true ∧ ((sx_my q.1.2.2.1).cls = sx_cn q.1.2.2.2.2 ∧ q.1.2.2.2.2 < 8 ∧ (parseMethodDescriptor (sx_my q.1.2.2.1).desc).map (fun d => d.parameters.length + 1) = some q.1.2.2.2.1 ∧ q.1.2.2.1 < 204) := by decide +kernel
theorem sx_cvs_ok : ∀ q ∈ sx_cvs, (∀ w ∈ ([Jvm.Cond.methodLink (sx_on q.1) q.2.1 (sx_my q.2.2.1), Jvm.Cond.instanceMethod (sx_my q.2.2.1), Jvm.Cond.selects (sx_cn q.2.2.2.2) (sx_my q.2.2.1) (sx_my q.2.2.1), Jvm.Cond.initialized (sx_cn q.2.2.2.2)] : List Jvm.Cond), w ∈ sx_tb) ∧ ((sx_my q.2.2.1).cls = sx_cn q.2.2.2.2 ∧ q.2.2.2.2 < 8 ∧ (parseMethodDescriptor (sx_my q.2.2.1).desc).map (fun d => d.parameters.length + 1) = some q.2.2.2.1 ∧ q.2.2.1 < 204) := by
  intro q hq
  obtain ⟨x, hx, rfl⟩ := List.mem_map.mp hq
  exact ⟨sx_chk_in _ _ (sx_cvs_ck x hx).1, (sx_cvs_ck x hx).2⟩
theorem sx_css_ck : ∀ q ∈ sx_cssh, sx_chk q.2 ([Jvm.Cond.methodLink (sx_on q.1.1) q.1.2.1 (sx_my q.1.2.2.1), Jvm.Cond.static (sx_my q.1.2.2.1), Jvm.Cond.initialized (sx_my q.1.2.2.1).cls]) = true ∧ ((parseMethodDescriptor (sx_my q.1.2.2.1).desc).map (fun d => d.parameters.length) = some q.1.2.2.2 ∧ q.1.2.2.1 < 204) := by decide +kernel
theorem sx_css_ok : ∀ q ∈ sx_css, (∀ w ∈ ([Jvm.Cond.methodLink (sx_on q.1) q.2.1 (sx_my q.2.2.1), Jvm.Cond.static (sx_my q.2.2.1), Jvm.Cond.initialized (sx_my q.2.2.1).cls] : List Jvm.Cond), w ∈ sx_tb) ∧ ((parseMethodDescriptor (sx_my q.2.2.1).desc).map (fun d => d.parameters.length) = some q.2.2.2 ∧ q.2.2.1 < 204) := by
  intro q hq
  obtain ⟨x, hx, rfl⟩ := List.mem_map.mp hq
  exact ⟨sx_chk_in _ _ (sx_css_ck x hx).1, (sx_css_ck x hx).2⟩
theorem sx_cis_ck : ∀ q ∈ sx_cish, sx_chk q.2 ([Jvm.Cond.methodLink (sx_on q.1.1) q.1.2.1 (sx_my q.1.2.2.1), Jvm.Cond.instanceMethod (sx_my q.1.2.2.1), Jvm.Cond.initialized (sx_my q.1.2.2.1).cls]) = true ∧ ((sx_my q.1.2.2.1).name = "<init>" ∧ sx_mr q.1.2.2.1 = none ∧ (parseMethodDescriptor (sx_my q.1.2.2.1).desc).map (fun d => d.parameters.length + 1) = some q.1.2.2.2 ∧ q.1.2.2.1 < 204) := by decide +kernel
theorem sx_cis_ok : ∀ q ∈ sx_cis, (∀ w ∈ ([Jvm.Cond.methodLink (sx_on q.1) q.2.1 (sx_my q.2.2.1), Jvm.Cond.instanceMethod (sx_my q.2.2.1), Jvm.Cond.initialized (sx_my q.2.2.1).cls] : List Jvm.Cond), w ∈ sx_tb) ∧ ((sx_my q.2.2.1).name = "<init>" ∧ sx_mr q.2.2.1 = none ∧ (parseMethodDescriptor (sx_my q.2.2.1).desc).map (fun d => d.parameters.length + 1) = some q.2.2.2 ∧ q.2.2.1 < 204) := by
  intro q hq
  obtain ⟨x, hx, rfl⟩ := List.mem_map.mp hq
  exact ⟨sx_chk_in _ _ (sx_cis_ck x hx).1, (sx_cis_ck x hx).2⟩
theorem sx_cns_ck : ∀ q ∈ sx_cnsh, sx_chk q.2 ([Jvm.Cond.instanceMethod (sx_my q.1.2.2.1), Jvm.Cond.initialized (sx_my q.1.2.2.1).cls]) = true ∧ ((sx_my q.1.2.2.1).name = "<init>" ∧ sx_mr q.1.2.2.1 = none ∧ (parseMethodDescriptor (sx_my q.1.2.2.1).desc).map (fun d => d.parameters.length + 1) = some q.1.2.2.2 ∧ q.1.2.2.1 < 204) := by decide +kernel
theorem sx_cns_ok : ∀ q ∈ sx_cns, (∀ w ∈ ([Jvm.Cond.instanceMethod (sx_my q.2.2.1), Jvm.Cond.initialized (sx_my q.2.2.1).cls] : List Jvm.Cond), w ∈ sx_tb) ∧ ((sx_my q.2.2.1).name = "<init>" ∧ sx_mr q.2.2.1 = none ∧ (parseMethodDescriptor (sx_my q.2.2.1).desc).map (fun d => d.parameters.length + 1) = some q.2.2.2 ∧ q.2.2.1 < 204) := by
  intro q hq
  obtain ⟨x, hx, rfl⟩ := List.mem_map.mp hq
  exact ⟨sx_chk_in _ _ (sx_cns_ck x hx).1, (sx_cns_ck x hx).2⟩
theorem sx_gsz_ck : ∀ q ∈ sx_gszh, sx_chk q.2 ([Jvm.Cond.fieldLink (sx_on q.1.1) q.1.2 "java/lang/String" "COMPACT_STRINGS" "Z"]) = true ∧ (True) := by decide +kernel
theorem sx_gsz_ok : ∀ q ∈ sx_gsz, (∀ w ∈ ([Jvm.Cond.fieldLink (sx_on q.1) q.2 "java/lang/String" "COMPACT_STRINGS" "Z"] : List Jvm.Cond), w ∈ sx_tb) ∧ (True) := by
  intro q hq
  obtain ⟨x, hx, rfl⟩ := List.mem_map.mp hq
  exact ⟨sx_chk_in _ _ (sx_gsz_ck x hx).1, (sx_gsz_ck x hx).2⟩
theorem sx_sfl_ck : ∀ q ∈ sx_sflh, sx_chk q.2 ([Jvm.Cond.fieldLink (sx_on q.1.1) q.1.2.1 "java/lang/String" (if q.1.2.2 = 1 then "value" else "coder") (if q.1.2.2 = 1 then "[B" else "B")]) = true ∧ (True) := by decide +kernel
theorem sx_sfl_ok : ∀ q ∈ sx_sfl, (∀ w ∈ ([Jvm.Cond.fieldLink (sx_on q.1) q.2.1 "java/lang/String" (if q.2.2 = 1 then "value" else "coder") (if q.2.2 = 1 then "[B" else "B")] : List Jvm.Cond), w ∈ sx_tb) ∧ (True) := by
  intro q hq
  obtain ⟨x, hx, rfl⟩ := List.mem_map.mp hq
  exact ⟨sx_chk_in _ _ (sx_sfl_ck x hx).1, (sx_sfl_ck x hx).2⟩
theorem sx_cvt_ck : ∀ q ∈ sx_cvth, sx_chk q.2 ([Jvm.Cond.methodLink (sx_on q.1.1) q.1.2.1 (sx_my q.1.2.2.1), Jvm.Cond.instanceMethod (sx_my q.1.2.2.1), Jvm.Cond.selects "java/lang/String" (sx_my q.1.2.2.1) (sx_my q.1.2.2.1), Jvm.Cond.initialized "java/lang/String"]) = true ∧ ((sx_my q.1.2.2.1).cls = "java/lang/String" ∧ (parseMethodDescriptor (sx_my q.1.2.2.1).desc).map (fun d => d.parameters.length + 1) = some q.1.2.2.2 ∧ q.1.2.2.1 < 204) := by decide +kernel
theorem sx_cvt_ok : ∀ q ∈ sx_cvt, (∀ w ∈ ([Jvm.Cond.methodLink (sx_on q.1) q.2.1 (sx_my q.2.2.1), Jvm.Cond.instanceMethod (sx_my q.2.2.1), Jvm.Cond.selects "java/lang/String" (sx_my q.2.2.1) (sx_my q.2.2.1), Jvm.Cond.initialized "java/lang/String"] : List Jvm.Cond), w ∈ sx_tb) ∧ ((sx_my q.2.2.1).cls = "java/lang/String" ∧ (parseMethodDescriptor (sx_my q.2.2.1).desc).map (fun d => d.parameters.length + 1) = some q.2.2.2 ∧ q.2.2.1 < 204) := by
  intro q hq
  obtain ⟨x, hx, rfl⟩ := List.mem_map.mp hq
  exact ⟨sx_chk_in _ _ (sx_cvt_ck x hx).1, (sx_cvt_ck x hx).2⟩
theorem sx_obi_ck : ∀ q ∈ sx_obih, sx_chk q.2 ([Jvm.Cond.methodLink (sx_on q.1.1) q.1.2 objectInit]) = true ∧ (True) := by decide +kernel
theorem sx_obi_ok : ∀ q ∈ sx_obi, (∀ w ∈ ([Jvm.Cond.methodLink (sx_on q.1) q.2 objectInit] : List Jvm.Cond), w ∈ sx_tb) ∧ (True) := by
  intro q hq
  obtain ⟨x, hx, rfl⟩ := List.mem_map.mp hq
  exact ⟨sx_chk_in _ _ (sx_obi_ck x hx).1, (sx_obi_ck x hx).2⟩
theorem sx_aco_ck : ∀ q ∈ sx_acoh, sx_chk q.2 ([Jvm.Cond.methodLink (sx_on q.1.1) q.1.2 arraycopyName]) = true ∧ (True) := by decide +kernel
theorem sx_aco_ok : ∀ q ∈ sx_aco, (∀ w ∈ ([Jvm.Cond.methodLink (sx_on q.1) q.2 arraycopyName] : List Jvm.Cond), w ∈ sx_tb) ∧ (True) := by
  intro q hq
  obtain ⟨x, hx, rfl⟩ := List.mem_map.mp hq
  exact ⟨sx_chk_in _ _ (sx_aco_ck x hx).1, (sx_aco_ck x hx).2⟩
theorem sx_gst_ck : ∀ q ∈ sx_gsth, sx_chk q.2 ([Jvm.Cond.fieldLink (sx_on q.1.1) q.1.2.1 "HatOrders$Kinds" (sx_stn q.1.2.2) "[I"]) = true ∧ (q.1.2.2 = 101 ∨ q.1.2.2 = 102 ∨ q.1.2.2 = 103) := by decide +kernel
theorem sx_gst_ok : ∀ q ∈ sx_gst, (∀ w ∈ ([Jvm.Cond.fieldLink (sx_on q.1) q.2.1 "HatOrders$Kinds" (sx_stn q.2.2) "[I"] : List Jvm.Cond), w ∈ sx_tb) ∧ (q.2.2 = 101 ∨ q.2.2 = 102 ∨ q.2.2 = 103) := by
  intro q hq
  obtain ⟨x, hx, rfl⟩ := List.mem_map.mp hq
  exact ⟨sx_chk_in _ _ (sx_gst_ck x hx).1, (sx_gst_ck x hx).2⟩
def sx_cn2 : List ((Nat × Nat × Nat × Nat) × (Nat × Nat)) := sx_cns.zip sx_cnh
theorem sx_cn2_ck : ∀ q ∈ sx_cn2, (sx_tk q.2.1)[q.2.2]? = some (Jvm.Cond.methodLinkNest (sx_on q.1.1) q.1.2.1 (sx_my q.1.2.2.1) "HatOrders") := by decide +kernel
theorem sx_cn2_map : sx_cn2.map (fun q => q.1) = sx_cns := by decide +kernel
theorem sx_cns_nest : ∀ q ∈ sx_cns, Jvm.Cond.methodLinkNest (sx_on q.1) q.2.1 (sx_my q.2.2.1) "HatOrders" ∈ sx_nests := by
  intro q hq
  rw [← sx_cn2_map] at hq
  obtain ⟨x, hx, rfl⟩ := List.mem_map.mp hq
  exact List.mem_filter.mpr ⟨sx_tk_in _ _ (List.mem_of_getElem? (sx_cn2_ck x hx)), rfl⟩
theorem sx_obj_ok : ∀ w ∈ ([Jvm.Cond.instanceMethod objectInit, Jvm.Cond.code objectInit ⟨#[0xb1]⟩ 1 none] : List Jvm.Cond), w ∈ sx_tb := sx_chk_in [(1, 25), (1, 26)] _ (by decide +kernel)
theorem sx_cpy_ok : ∀ w ∈ ([Jvm.Cond.native arraycopyName, Jvm.Cond.static arraycopyName, Jvm.Cond.initialized "java/lang/System"] : List Jvm.Cond), w ∈ sx_tb := sx_chk_in [(2, 70), (2, 69), (1, 10)] _ (by decide +kernel)
theorem sx_arr_ok : ∀ w ∈ ([Jvm.Cond.arrayClass .int, Jvm.Cond.arrayClass .long, Jvm.Cond.arrayClass .boolean] : List Jvm.Cond), w ∈ sx_tb := sx_chk_in [(1, 47), (1, 203), (2, 12)] _ (by decide +kernel)
theorem sx_code_0 : ∀ m, m < 40 → sx_chk (sx_coh.getD (0 + m) []) [Jvm.Cond.code (sx_my (0 + m)) (sx_mc (0 + m)) (kt_ml (0 + m)) (sx_mr (0 + m))] = true := by decide +kernel
theorem sx_code_40 : ∀ m, m < 40 → sx_chk (sx_coh.getD (40 + m) []) [Jvm.Cond.code (sx_my (40 + m)) (sx_mc (40 + m)) (kt_ml (40 + m)) (sx_mr (40 + m))] = true := by decide +kernel
theorem sx_code_80 : ∀ m, m < 40 → sx_chk (sx_coh.getD (80 + m) []) [Jvm.Cond.code (sx_my (80 + m)) (sx_mc (80 + m)) (kt_ml (80 + m)) (sx_mr (80 + m))] = true := by decide +kernel
theorem sx_code_120 : ∀ m, m < 40 → sx_chk (sx_coh.getD (120 + m) []) [Jvm.Cond.code (sx_my (120 + m)) (sx_mc (120 + m)) (kt_ml (120 + m)) (sx_mr (120 + m))] = true := by decide +kernel
theorem sx_code_160 : ∀ m, m < 40 → sx_chk (sx_coh.getD (160 + m) []) [Jvm.Cond.code (sx_my (160 + m)) (sx_mc (160 + m)) (kt_ml (160 + m)) (sx_mr (160 + m))] = true := by decide +kernel
theorem sx_code_200 : ∀ m, m < 4 → sx_chk (sx_coh.getD (200 + m) []) [Jvm.Cond.code (sx_my (200 + m)) (sx_mc (200 + m)) (kt_ml (200 + m)) (sx_mr (200 + m))] = true := by decide +kernel
theorem sx_code_in : ∀ m, m < 204 → Jvm.Cond.code (sx_my m) (sx_mc m) (kt_ml m) (sx_mr m) ∈ sx_tb := by
  intro m h
  rcases Nat.lt_or_ge m 40 with q | q
  · have := sx_code_0 (m - 0) (by omega)
    rw [Nat.add_sub_cancel' (by omega)] at this
    exact sx_chk_in _ _ this _ List.mem_cons_self
  rcases Nat.lt_or_ge m 80 with q | q
  · have := sx_code_40 (m - 40) (by omega)
    rw [Nat.add_sub_cancel' (by omega)] at this
    exact sx_chk_in _ _ this _ List.mem_cons_self
  rcases Nat.lt_or_ge m 120 with q | q
  · have := sx_code_80 (m - 80) (by omega)
    rw [Nat.add_sub_cancel' (by omega)] at this
    exact sx_chk_in _ _ this _ List.mem_cons_self
  rcases Nat.lt_or_ge m 160 with q | q
  · have := sx_code_120 (m - 120) (by omega)
    rw [Nat.add_sub_cancel' (by omega)] at this
    exact sx_chk_in _ _ this _ List.mem_cons_self
  rcases Nat.lt_or_ge m 200 with q | q
  · have := sx_code_160 (m - 160) (by omega)
    rw [Nat.add_sub_cancel' (by omega)] at this
    exact sx_chk_in _ _ this _ List.mem_cons_self
  have := sx_code_200 (m - 200) (by omega)
  rw [Nat.add_sub_cancel' (by omega)] at this
  exact sx_chk_in _ _ this _ List.mem_cons_self
end
section
theorem sx_code_ok1 : ∀ m, m < 204 → plainFor (sx_my m) = true := by decide +kernel
theorem sx_code_ok2 : ∀ m, m < 204 → ((sx_my m).cls ≠ "java/lang/invoke/MethodHandle" ∧ (sx_my m).cls ≠ "java/lang/invoke/VarHandle") := by decide +kernel
theorem sx_code_ok3 : ∀ m, m < 204 → kt_ml m ≤ 40 := by decide +kernel
theorem sx_code_ok4 : ∀ m, m < 204 → (sx_my m).cls = sx_on (sx_mo m) := by decide +kernel
/-- an instruction of the table is the method's own: oc its class, nL its locals, ini whether it is a constructor, rz whether it answers a boolean -/
def sx_okb (oc : Nat) (cc : ByteArray) (nL : Nat) (ini : Bool) (rt : Option FieldType) (pc : Nat) (i : Instr) (nx r1 r2 : Nat) (r3 : Int) (tg : List Nat) : Bool :=
  match i with
  | .nop => true
  | _ => decide (decode cc pc = .ok (i, nx - pc)) && decide (pc < nx) && (match i with
    | .iload_n n => decide (n.val = r1) && decide (nx = pc + 1)
    | .lload_n n => decide (n.val = r1) && decide (nx = pc + 1)
    | .aload_n n => decide (n.val = r1) && decide (nx = pc + 1)
    | .iload n => decide (n = r1) && decide (nx = pc + 2)
    | .lload n => decide (n = r1) && decide (nx = pc + 2)
    | .aload n => decide (n = r1) && decide (nx = pc + 2)
    | .istore_n n => decide (n.val = r1) && decide (r1 < nL) && decide (nx = pc + 1)
    | .astore_n n => decide (n.val = r1) && decide (r1 < nL) && decide (nx = pc + 1)
    | .lstore_n n => decide (n.val = r1) && decide (r1 + 1 < nL) && decide (nx = pc + 1)
    | .istore n => decide (n = r1) && decide (r1 < nL) && decide (nx = pc + 2)
    | .astore n => decide (n = r1) && decide (r1 < nL) && decide (nx = pc + 2)
    | .iinc n q => decide (n = r1) && decide (q = r3) && decide (r1 < nL) && decide (nx = pc + 3)
    | .iconst n => decide (n = r3) && decide (nx = pc + 1)
    | .bipush n => decide ((Int8.ofInt n).toInt32 = Int32.ofInt r3) && decide (nx = pc + 2)
    | .sipush n => decide ((Int16.ofInt n).toInt32 = Int32.ofInt r3) && decide (nx = pc + 3)
    | .lconst n => decide (Int64.ofNat n.val = Int64.ofInt r3) && decide (nx = pc + 1)
    | .ldc n => decide (nx = pc + 2) && (if r1 = 0 then decide ((oc, n, r3) ∈ sx_cst) else decide (r1 = 1) && decide (r2 = 105) && decide (oc = 8) && decide (n = 9))
    | .ldc_w n => decide (nx = pc + 3) && decide ((oc, n, r3) ∈ sx_cst)
    | .ldc2_w n => decide (nx = pc + 3) && decide ((oc, n, r3) ∈ sx_cstL)
    | .getstatic n => decide (nx = pc + 3) && (if r1 = 0 then decide ((oc, n, r2) ∈ sx_gst) else decide (r3 = 1) && decide ((oc, n) ∈ sx_gsz))
    | .getfield n => decide (nx = pc + 3) && (if r1 = 8 then decide ((oc, n, r2) ∈ sx_sfl) else decide (0 ≤ r3) && decide ((oc, n, r1, r3.toNat) ∈ sx_fl) && decide (r2 = sx_tag r1 r3.toNat))
    | .putfield n => decide (nx = pc + 3) && decide (0 ≤ r3) && decide ((oc, n, r1, r3.toNat) ∈ sx_fl) && decide (r2 = sx_tag r1 r3.toNat) && ((! (sx_T r1 r3.toNat).2.2.2) || (ini && decide (r1 = oc)))
    | .newarray t => decide (nx = pc + 2) && decide (t = .int ∧ r1 = 2 ∨ t = .long ∧ r1 = 3 ∨ t = .boolean ∧ r1 = 4)
    | .anewarray n => decide (nx = pc + 3) && decide ((oc, n, r1) ∈ sx_clq)
    | .new n => decide (nx = pc + 3) && decide ((oc, n, r1) ∈ sx_cla)
    | .ifCond _ q => decide (nx = pc + 3) && decide ((pc : Int) + q = (r1 : Int))
    | .if_icmp _ q => decide (nx = pc + 3) && decide ((pc : Int) + q = (r1 : Int))
    | .goto q => decide (nx = pc + 3) && decide ((pc : Int) + q = (r1 : Int))
    | .tableswitch df lo hi offs => decide ((pc : Int) + df = (r1 : Int)) && decide (lo = r3) && decide (hi + 1 = lo + tg.length) && decide (offs.toList.map (fun q => (pc : Int) + q) = tg.map (fun t : Nat => (t : Int)))
    | .lookupswitch df ps => decide ((pc : Int) + df = (r1 : Int)) && decide (r3 = 0) && (match ps.toList, tg with
      | [(a, x), (b, y)], [t, u] => decide (a = 0) && decide (b = 1) && decide ((pc : Int) + x = (t : Int)) && decide ((pc : Int) + y = (u : Int))
      | _, _ => false)
    | .ireturn => decide (nx = pc + 1) && (decide (r1 = 0 ∧ rt = some .int) || decide (r1 = 1 ∧ (rt = some .boolean ∨ rt = some .byte)))
    | .lreturn => decide (nx = pc + 1) && decide (rt = some .long)
    | .return_ => decide (nx = pc + 1) && decide (rt = none)
    | .invokestatic n => decide (nx = pc + 3) && (if r3 = 2 then decide ((oc, n) ∈ sx_aco) else decide (r3 = 0) && decide ((oc, n, r1, r2) ∈ sx_css))
    | .invokespecial n => decide (nx = pc + 3) && (if r3 = 1 then decide ((oc, n) ∈ sx_obi) else decide (r3 = 0) && (decide ((oc, n, r1, r2) ∈ sx_cis) || decide ((oc, n, r1, r2) ∈ sx_cns)))
    | .invokevirtual n => decide (nx = pc + 3) && (if tg.headD 0 = 8 then decide ((oc, n, r1, r2) ∈ sx_cvt) else decide ((oc, n, r1, r2, tg.headD 0) ∈ sx_cvs))
    | .iaload => decide (nx = pc + 1)
    | .laload => decide (nx = pc + 1)
    | .baload => decide (nx = pc + 1)
    | .aaload => decide (nx = pc + 1)
    | .iastore => decide (nx = pc + 1)
    | .lastore => decide (nx = pc + 1)
    | .bastore => decide (nx = pc + 1)
    | .aastore => decide (nx = pc + 1)
    | .arraylength => decide (nx = pc + 1)
    | .dup => decide (nx = pc + 1)
    | .dup2 => decide (nx = pc + 1)
    | .pop => decide (nx = pc + 1)
    | .iadd => decide (nx = pc + 1)
    | .isub => decide (nx = pc + 1)
    | .imul => decide (nx = pc + 1)
    | .idiv => decide (nx = pc + 1)
    | .irem => decide (nx = pc + 1)
    | .ineg => decide (nx = pc + 1)
    | .iand => decide (nx = pc + 1)
    | .ior => decide (nx = pc + 1)
    | .ixor => decide (nx = pc + 1)
    | .ishl => decide (nx = pc + 1)
    | .ishr => decide (nx = pc + 1)
    | .iushr => decide (nx = pc + 1)
    | .ladd => decide (nx = pc + 1)
    | .lsub => decide (nx = pc + 1)
    | .lor => decide (nx = pc + 1)
    | .lshl => decide (nx = pc + 1)
    | .lcmp => decide (nx = pc + 1)
    | .i2l => decide (nx = pc + 1)
    | .i2b => decide (nx = pc + 1)
    | .i2s => decide (nx = pc + 1)
    | .i2c => decide (nx = pc + 1)
    | _ => false)
def sx_okE (oc : Nat) (cc : ByteArray) (nL : Nat) (ini : Bool) (rt : Option FieldType) (pc : Nat) (q : kx_E) : Bool := sx_okb oc cc nL ini rt pc q.1 q.2.1 q.2.2.1 q.2.2.2.1 q.2.2.2.2.1 q.2.2.2.2.2
end
section
/-! shapes only grow -/
def sx_gq (G G' : kx_G) : Prop := (G'.1 = G.1 ∧ G'.2.1 = G.2.1) ∨ ∃ q, G' = kx_new G q
def sx_lq (G G' : kx_G) : Prop := G.2.1 ≤ G'.2.1 ∧ sx_sl G ≤ sx_sl G'
theorem sx_gq_lq {G G' : kx_G} (h : sx_gq G G') (h1 : 1 ≤ G.2.1) : sx_lq G G' := by
  rcases h with ⟨e1, e2⟩ | ⟨q, rfl⟩
  · refine ⟨by omega, ?_⟩
    unfold sx_sl
    rw [e1, e2]
    exact Nat.le_refl _
  · refine ⟨by show G.2.1 ≤ G.2.1 + 1; omega, ?_⟩
    rw [sx_sl_push q h1]
    omega
theorem sx_lq_rf (G : kx_G) : sx_lq G G := ⟨Nat.le_refl _, Nat.le_refl _⟩
theorem sx_lq_tr {A B C : kx_G} (h : sx_lq A B) (k : sx_lq B C) : sx_lq A C := ⟨Nat.le_trans h.1 k.1, Nat.le_trans h.2 k.2⟩
theorem kx_sw_all {x : Int} {f : Nat → Prop} {d : Nat} (h : ∀ t, f t) : ∀ (ts : List Nat) (lo : Int), kx_sw x lo f d ts := by
  intro ts
  induction ts with
  | nil => intro lo; exact h d
  | cons t ts ih => intro lo; simp only [kx_sw]; split; exact h t; exact ih _
theorem kx_br_all {c : Jvm.ClassFile.Cond} {a b : Int} {t f : Prop} (h1 : t) (h2 : f) : kx_br c a b t f := by
  cases c <;> simp only [kx_br] <;> split <;> assumption
set_option maxHeartbeats 4000000 in
theorem kx_do_ge (i : Instr) (nx r1 r2 : Nat) (r3 : Int) (tg : List Nat) (ls : kx_L) (st : List kx_V) (G : kx_G) (μ : kx_M) : @kx_do Prop i nx r1 r2 r3 tg True (fun _ _ _ G' _ => sx_gq G G') (fun _ G' _ => G' = G) (fun _ _ G' _ _ _ _ => G' = G) ls st G μ := by
  have h0 : sx_gq G G := Or.inl ⟨rfl, rfl⟩
  cases i <;> simp only [kx_do, kx_load] <;> (repeat' (first | trivial | exact h0 | exact Or.inr ⟨_, rfl⟩ | exact Or.inl ⟨rfl, rfl⟩ | exact kx_br_all h0 h0 | exact kx_sw_all (fun _ => h0) _ _ | rfl | split))
theorem kx_lf_ge (tb : Nat → kx_E) (pc : Nat) (ls : kx_L) (st : List kx_V) (G : kx_G) (μ : kx_M) : (match kx_lf tb pc ls st G μ with
      | some (.inl (_, _, _, G', _)) => sx_gq G G'
      | some (.inr (.inl (_, G', _))) => G' = G
      | some (.inr (.inr (_, _, G', _, _, _, _))) => G' = G
      | none => True) := by
  have key := kx_st_nat (fun o : Option kx_Lf => (match o with
      | some (.inl (_, _, _, G', _)) => sx_gq G G'
      | some (.inr (.inl (_, G', _))) => G' = G
      | some (.inr (.inr (_, _, G', _, _, _, _))) => G' = G
      | none => True : Prop)) tb none (fun pc ls st G μ => some (.inl (pc, ls, st, G, μ))) (fun v G μ => some (.inr (.inl (v, G, μ)))) (fun m as G μ pc ls rest => some (.inr (.inr (m, as, G, μ, pc, ls, rest)))) pc ls st G μ
  unfold kx_lf
  refine key.mpr ?_
  unfold kx_st
  exact kx_do_ge _ _ _ _ _ _ _ _ _ _
theorem kx_run_ge {E : Nat → List kx_V → kx_G → kx_M → Option kx_V → kx_G → kx_M → Prop} (hE : ∀ m as G μ v G2 μ2, E m as G μ v G2 μ2 → 1 ≤ G.2.1 → sx_lq G G2) (tb : Nat → kx_E) (v : Option kx_V) (GF : kx_G) (μF : kx_M) : ∀ n pc ls st G μ, kx_run E tb v GF μF n pc ls st G μ → 1 ≤ G.2.1 → sx_lq G GF := by
  intro n
  induction n with
  | zero => intro pc ls st G μ h; exact h.elim
  | succ n ih =>
    intro pc ls st G μ h h1
    have hl := kx_lf_ge tb pc ls st G μ
    unfold kx_run at h
    rw [kx_st_lf] at h
    cases hx : kx_lf tb pc ls st G μ with
    | none => rw [hx] at h; exact h.elim
    | some x =>
      rw [hx] at h hl
      match x, h, hl with
      | .inl (pc1, ls1, st1, G1, μ1), h, hl =>
        have := sx_gq_lq hl h1
        exact sx_lq_tr this (ih _ _ _ _ _ h (Nat.le_trans h1 this.1))
      | .inr (.inl (v1, G1, μ1)), h, hl =>
        obtain ⟨-, e, -⟩ := h
        have hl : G1 = G := hl
        rw [← e, hl]
        exact sx_lq_rf G
      | .inr (.inr (m1, as1, G1, μ1, pc1, ls1, rest)), h, hl =>
        obtain ⟨v1, G2, μ2, h2, h3⟩ := h
        have hl : G1 = G := hl
        subst hl
        have := hE _ _ _ _ _ _ _ h2 h1
        exact sx_lq_tr this (ih _ _ _ _ _ h3 (Nat.le_trans h1 this.1))
theorem kx_ev_ge (tbs : Nat → Nat → kx_E) (mls : Nat → Nat) : ∀ d m as G μ v G2 μ2, kx_ev tbs mls d m as G μ v G2 μ2 → 1 ≤ G.2.1 → sx_lq G G2 := by
  intro d
  induction d with
  | zero => intro m as G μ v G2 μ2 h; exact h.elim
  | succ d ih =>
    intro m as G μ v G2 μ2 h h1
    obtain ⟨-, n, h⟩ := h
    exact kx_run_ge ih _ _ _ _ n _ _ _ _ _ h h1
/-! switches -/
theorem kx_sw_in {x : Int} {f : Nat → Prop} {d : Nat} : ∀ (ts : List Nat) (lo : Int), kx_sw x lo f d ts → (∃ k : Nat, k < ts.length ∧ x = lo + k ∧ f (ts.getD k d)) ∨ ((x < lo ∨ lo + ts.length ≤ x) ∧ f d) := by
  intro ts
  induction ts with
  | nil => intro lo h; exact Or.inr ⟨by simp; omega, h⟩
  | cons t ts ih =>
    intro lo h
    simp only [kx_sw] at h
    by_cases e : x = lo
    · rw [if_pos e] at h
      exact Or.inl ⟨0, by simp, by simp [e], h⟩
    · rw [if_neg e] at h
      rcases ih _ h with ⟨k, h1, h2, h3⟩ | ⟨h1, h2⟩
      · exact Or.inl ⟨k + 1, by simp; omega, by rw [h2]; push_cast; omega, h3⟩
      · exact Or.inr ⟨by simp; omega, h2⟩
section SC
variable {p : Program} {l : Launch} {e : Env} {R : Room} {s : State} {m : MethodId} {args : Array Value} {below : List Frame} {meth : Method} {c : Code} {cc : ByteArray} {nL L n0 s0 : Nat} {own : String} {Z : sx_Z} {D : va_G} {μ0 : kx_M} {Qf : State → Prop} {pc : Nat} {ls : kx_L} {st : List kx_V} {G : kx_G} {μ : kx_M}
theorem si_tsw {x df lo hi : Int} {offs : Array Int} {len t0 : Nat} {tg : List Nat} (C : sx_C p s m args c cc nL own Z D L μ0) (hd : decode cc pc = .ok (.tableswitch df lo hi offs, len)) (hdf : (pc : Int) + df = (t0 : Int)) (hlen : hi + 1 = lo + tg.length) (hoff : offs.toList.map (fun q => (pc : Int) + q) = tg.map (fun t : Nat => (t : Int))) (hx0 : kx_in x) (h : kx_sw x lo (fun t => sx_at p l e R s m args below meth c nL Z D L μ0 n0 s0 Qf t ls st G μ) t0 tg) : sx_at p l e R s m args below meth c nL Z D L μ0 n0 s0 Qf pc ls (kI x :: st) G μ := by
  intro H locs lsA hR hS hl hn hs
  obtain ⟨hx, hb, hml, hown, hts, hE⟩ := C
  change W p l e R s m args below meth c H locs _ _ Qf (F0 m pc lsA (.int (Int32.ofInt x) :: st.map (sx_c Z)))
  rcases kx_sw_in tg lo h with ⟨k, h1, h2, h3⟩ | ⟨h1, h2⟩
  · have hk : (offs.toList.map (fun q => (pc : Int) + q))[k]? = some ((tg.getD k t0 : Nat) : Int) := by
      rw [hoff, List.getElem?_map, List.getElem?_eq_getElem h1]
      simp [List.getD_eq_getElem?_getD, h1]
    rw [List.getElem?_map] at hk
    cases ho : offs.toList[k]? with
    | none => rw [ho] at hk; cases hk
    | some off =>
      rw [ho] at hk
      have hk' : (pc : Int) + off = ((tg.getD k t0 : Nat) : Int) := Option.some.inj hk
      refine lv_tableIn hx hb hd (by rw [sx_toI hx0]; omega) (by rw [sx_toI hx0]; omega) (off := off) ?_ hk' (h3 H locs lsA hR hS hl hn hs)
      rw [sx_toI hx0, h2, show (lo + (k : Int) - lo).toNat = k by omega, ← Array.getElem?_toList]
      exact ho
  · refine lv_tableOut hx hb hd (by rw [sx_toI hx0]; omega) hdf (h2 H locs lsA hR hS hl hn hs)
theorem si_lsw {x df a b q1 q2 : Int} {ps : Array (Int × Int)} {len t0 t1 t2 : Nat} (C : sx_C p s m args c cc nL own Z D L μ0) (hd : decode cc pc = .ok (.lookupswitch df ps, len)) (hps : ps.toList = [(a, q1), (b, q2)]) (ha : a = 0) (hbb : b = 1) (hdf : (pc : Int) + df = (t0 : Int)) (h1 : (pc : Int) + q1 = (t1 : Int)) (h2 : (pc : Int) + q2 = (t2 : Int)) (hx0 : kx_in x) (h : kx_sw x 0 (fun t => sx_at p l e R s m args below meth c nL Z D L μ0 n0 s0 Qf t ls st G μ) t0 [t1, t2]) : sx_at p l e R s m args below meth c nL Z D L μ0 n0 s0 Qf pc ls (kI x :: st) G μ := by
  intro H locs lsA hR hS hl hn hs
  obtain ⟨hx, hb, hml, hown, hts, hE⟩ := C
  subst ha; subst hbb
  change W p l e R s m args below meth c H locs _ _ Qf (F0 m pc lsA (.int (Int32.ofInt x) :: st.map (sx_c Z)))
  have hso : (ps.toList.zip (ps.toList.drop 1)).all (fun (a, next) => a.1 < next.1) = true := by rw [hps]; rfl
  simp only [kx_sw] at h
  by_cases e0 : x = 0
  · rw [if_pos e0] at h
    refine lv_lookup hx hb hd hso (off := q1) ?_ h1 (h H locs lsA hR hS hl hn hs)
    rw [hps, sx_toI hx0, Op.lookupswitch.offset_cons, if_pos (by omega)]
  · rw [if_neg e0] at h
    by_cases e1 : x = 0 + 1
    · rw [if_pos e1] at h
      refine lv_lookup hx hb hd hso (off := q2) ?_ h2 (h H locs lsA hR hS hl hn hs)
      rw [hps, sx_toI hx0, Op.lookupswitch.offset_cons, if_neg (by omega), Op.lookupswitch.offset_cons, if_pos (by omega)]
    · rw [if_neg e1] at h
      refine lv_lookup hx hb hd hso (off := df) ?_ hdf (h H locs lsA hR hS hl hn hs)
      rw [hps, sx_toI hx0, Op.lookupswitch.offset_cons, if_neg (by omega), Op.lookupswitch.offset_cons, if_neg (by omega)]
      rfl
end SC
end
section
/-! calls, and a whole method -/
def sx_Pc (Z : sx_Z) (D : va_G) (L : Nat) (μ0 : kx_M) (as : List kx_V) (G : kx_G) (μ : kx_M) : Array Value → State → Prop := fun av U => av = (as.map (sx_c Z)).toArray ∧ sx_rel Z D L μ0 G μ U.heap ∧ sx_ext Z D L μ0 U
def sx_Qc (Z : sx_Z) (D : va_G) (L : Nat) (μ0 : kx_M) (v : Option kx_V) (G2 : kx_G) (μ2 : kx_M) : Array Value → State → Outcome → State → Prop := fun _ st oc t => oc = .returned (v.map (sx_c Z)) ∧ sx_rel Z D L μ0 G2 μ2 t.heap ∧ va_F (fun q => Z.1 < q) st t
def sx_rm (d : Nat) (G G2 : kx_G) : Room := { frames := d + 1, cells := G2.2.1 - G.2.1, slots := sx_sl G2 - sx_sl G, locals := 60 * d }
def sx_ww (k : Nat) : List Jvm.Cond := Jvm.Cond.code (sx_my k) (sx_mc k) (kt_ml k) (sx_mr k) :: sx_tb
def sx_Mt (l : Launch) (Z : sx_Z) (D : va_G) (L : Nat) (μ0 : kx_M) (d k : Nat) (as : List kx_V) (G : kx_G) (μ : kx_M) (v : Option kx_V) (G2 : kx_G) (μ2 : kx_M) : Prop :=
  Met l (sx_my k) (sx_ww k) (sx_rm d G G2) (sx_Pc Z D L μ0 as G μ) (sx_Qc Z D L μ0 v G2 μ2) (G2.2.1 - G.2.1) (sx_sl G2 - sx_sl G) (fun q => Z.1 < q)
theorem sx_nest_tab {w : Jvm.Cond} (hw : w ∈ sx_nests) : w.onTables = true := by
  have h1 := (List.mem_filter.mp hw).2
  cases w <;> first | (simp at h1; done) | rfl
theorem sx_ext_same {Z : sx_Z} {D : va_G} {L : Nat} {μ0 : kx_M} {u U : State} (h : sx_ext Z D L μ0 u) (hv : u.vm = U.vm) (hh : u.heap = U.heap) : sx_ext Z D L μ0 U := by
  obtain ⟨h1, h2, h3, ⟨h4, h5⟩, h6, h7, h8, h9, t1, t2, t3, t4, t5, t6⟩ := h
  have ha : u.vm.Alike U.vm := by rw [hv]; exact Vm.Alike.refl _
  refine ⟨h1.moved ha, by rw [← hh]; exact h2, fun k hk => ?_, ⟨?_, h5⟩, h6, fun w hw => (h7 w hw).same (sx_nest_tab hw) hv, h8.moved ha, h9.moved ha, t1.same hv.symm, by rw [← hh]; exact t2.moved ha, by rw [← hh]; exact t3.moved ha, by rw [← hh]; exact t4.moved ha, by rw [← hh]; exact t5.moved ha, by rw [← hh]; exact t6.moved ha⟩
  · obtain ⟨g1, g2⟩ := h3 k hk
    rw [← hh]
    exact ⟨g1.moved ha, g2.moved ha⟩
  · rw [← hh]
    exact h4.moved ha
theorem sx_blind (Z : sx_Z) (D : va_G) (L : Nat) (μ0 : kx_M) (as : List kx_V) (G : kx_G) (μ : kx_M) : FrameBlind (sx_Pc Z D L μ0 as G μ) := fun _ _ _ _ h => ⟨h.1, h.2.1, sx_ext_same h.2.2 rfl rfl⟩
theorem sx_goodIn (k : Nat) (hk : k < 204) : GoodIn sx_tb (sx_ww k) := by
  intro w hw
  rcases List.mem_cons.mp hw with rfl | hw
  · exact ⟨sx_code_in k hk, good_of_word (sx_good _ (sx_code_in k hk)).2⟩
  · exact ⟨hw, good_of_word (sx_good _ hw).2⟩
theorem sx_goodL_app {a b : List Jvm.Cond} (ha : GoodIn sx_tb a) (hb : GoodIn sx_tb b) : GoodIn sx_tb (a ++ b) := fun w h => (List.mem_append.mp h).elim (ha w) (hb w)
theorem sx_goodL {ws : List Jvm.Cond} (h : ∀ w ∈ ws, w ∈ sx_tb) : GoodIn sx_tb ws := fun w hw => ⟨h w hw, good_of_word (sx_good _ (h w hw)).2⟩
section SD
variable {p : Program} {l : Launch} {e : Env} {R : Room} {s : State} {m : MethodId} {args : Array Value} {below : List Frame} {meth : Method} {c : Code} {cc : ByteArray} {nL L n0 s0 : Nat} {own : String} {Z : sx_Z} {D : va_G} {μ0 : kx_M} {Qf : State → Prop} {pc : Nat} {ls : kx_L} {st : List kx_V} {G : kx_G} {μ : kx_M}
theorem sx_go {H : Heap} {locs : List Loc} {cells slots mc ms : Nat} {lsA : Array Slot} {st0 rest : List Value} {Qa : State → Outcome → State → Prop} {vv : Option Value} {G2 : kx_G} {μ2 : kx_M} (hr : va_Run p l e R s m args below meth c H locs cells slots mc ms (F0 m pc lsA st0) rest Qa (fun q => Z.1 < q)) (hS : va_S (fun q => Z.1 < q) s.heap H locs) (hQ : ∀ st1 oc t, Qa st1 oc t → oc = .returned vv ∧ sx_rel Z D L μ0 G2 μ2 t.heap ∧ va_F (fun q => Z.1 < q) st1 t) (kk : ∀ H1 locs1, sx_rel Z D L μ0 G2 μ2 H1 → va_S (fun q => Z.1 < q) s.heap H1 locs1 → W p l e R s m args below meth c H1 locs1 (cells + mc) (slots + ms) Qf (F0 m (pc + 3) lsA (vv.toList ++ rest))) : W p l e R s m args below meth c H locs cells slots Qf (F0 m pc lsA st0) := by
  intro T hT X
  obtain ⟨v, st₀, t, T', L', h0, X', hL, e1, e2, hq, stp⟩ := hr T hT X
  obtain ⟨hv, hrel, hz, hk⟩ := hQ _ _ _ hq
  cases hv
  rw [h0] at hz hk
  obtain ⟨t2, a1, b1⟩ := kk T'.heap (locs ++ L') (by rw [e1]; exact hrel)
    ⟨Nat.le_trans hS.1 (by rw [e1]; exact hz), fun q h1 h2 => by rw [e1, hk q (Nat.lt_of_lt_of_le h1 hS.1) h2]; exact hS.2.1 q h1 h2, fun q hq => by
      rcases List.mem_append.mp hq with h | h
      · exact hS.2.2 q h
      · exact hL q h⟩ T' rfl X'
  exact ⟨t2, stp t2 a1, b1⟩
/-- what a callee finds -/
theorem sx_found {H : Heap} {locs : List Loc} (hE : sx_ext Z D L μ0 s) (hR : sx_rel Z D L μ0 G μ H) (hS : va_S (fun q => Z.1 < q) s.heap H locs) (as : List kx_V) : ∀ U : State, U.heap = H → s.WarmedH U.vm → sx_Pc Z D L μ0 as G μ (as.map (sx_c Z)).toArray U := fun U hU hW =>
  ⟨rfl, by rw [hU]; exact hR, sx_ext_moved hE hW (by rw [hU]; exact hS.1) (fun q h1 h2 => by rw [hU]; exact hS.2.1 q h1 h2)⟩
theorem sx_len {y : MethodName} {n : Nat} (h : (parseMethodDescriptor y.desc).map (fun d => d.parameters.length + 1) = some n) : (parseMethodDescriptor y.desc).map (fun d => d.parameters.length) = some (n - 1) ∧ 1 ≤ n := by
  cases hp : parseMethodDescriptor y.desc with
  | none => rw [hp] at h; cases h
  | some q => rw [hp] at h; have := Option.some.inj h; subst this; exact ⟨rfl, Nat.le_add_left 1 _⟩
theorem sx_next {H1 : Heap} {locs1 : List Loc} {lsA : Array Slot} {v : Option kx_V} {rest : List kx_V} {G2 : kx_G} {μ2 : kx_M} (hle : sx_lq G G2) (hn : n0 ≤ G.2.1) (hs : s0 ≤ sx_sl G) (h : sx_at p l e R s m args below meth c nL Z D L μ0 n0 s0 Qf (pc + 3) ls (v.toList ++ rest) G2 μ2) (hl : sx_lv Z lsA nL ls) (h1 : sx_rel Z D L μ0 G2 μ2 H1) (h2 : va_S (fun q => Z.1 < q) s.heap H1 locs1) : W p l e R s m args below meth c H1 locs1 (G.2.1 - n0 + (G2.2.1 - G.2.1)) (sx_sl G - s0 + (sx_sl G2 - sx_sl G)) Qf (F0 m (pc + 3) lsA ((v.map (sx_c Z)).toList ++ rest.map (sx_c Z))) := by
  have e1 : G.2.1 - n0 + (G2.2.1 - G.2.1) = G2.2.1 - n0 := by have := hle.1; omega
  have e2 : sx_sl G - s0 + (sx_sl G2 - sx_sl G) = sx_sl G2 - s0 := by have := hle.2; omega
  rw [e1, e2]
  have e3 : (v.map (sx_c Z)).toList ++ rest.map (sx_c Z) = (v.toList ++ rest).map (sx_c Z) := by cases v <;> rfl
  rw [e3]
  exact h H1 locs1 lsA h1 h2 hl (Nat.le_trans hn hle.1) (Nat.le_trans hs hle.2)
theorem sx_stk {n : Nat} {st : List kx_V} (h : n ≤ st.length) : st.map (sx_c Z) = ((st.take n).reverse.map (sx_c Z)).reverse ++ (st.drop n).map (sx_c Z) := by
  rw [List.map_reverse, List.reverse_reverse, ← List.map_append, List.take_append_drop]
theorem si_callS {i k n d : Nat} {v : Option kx_V} {G2 : kx_G} {μ2 : kx_M} {oc : Nat} (C : sx_C p s m args c cc nL (sx_on oc) Z D L μ0) (hd : decode cc pc = .ok (.invokestatic i, 3)) (hq : (oc, i, k, n) ∈ sx_css) (hlen : n ≤ st.length) (hcat : kx_cats (st.drop n) ≤ 8) (hM : sx_Mt l Z D L μ0 d k (st.take n).reverse G μ v G2 μ2) (hle : sx_lq G G2) (hRf : d + 2 ≤ R.frames) (hRl : 60 * d + 60 ≤ R.locals) (hRc : G2.2.1 - n0 ≤ R.cells) (hRs : sx_sl G2 - s0 ≤ R.slots) (h : sx_at p l e R s m args below meth c nL Z D L μ0 n0 s0 Qf (pc + 3) ls (v.toList ++ st.drop n) G2 μ2) : sx_at p l e R s m args below meth c nL Z D L μ0 n0 s0 Qf pc ls st G μ := by
  intro H locs lsA hR hS hl hn hs
  obtain ⟨hx, hb, hml, hown, hts, hE⟩ := C
  obtain ⟨w, h5, h6⟩ := sx_css_ok _ hq
  have hml2 := sx_code_ok3 k h6
  refine sx_go (va_runS (As := (st.take n).reverse.map (sx_c Z)) (rest := (st.drop n).map (sx_c Z)) ⟨hx, hb, hml, hown, hts⟩ hM
    (va_cwS n hts (sx_goodL_app (sx_goodL w) (sx_goodIn k h6)) rfl rfl rfl ⟨(sx_code_ok2 k h6).1, (sx_code_ok2 k h6).2, h5⟩ ⟨hRf, by show 8 + (kt_ml k + 11) + 60 * d ≤ R.locals; omega⟩)
    ⟨sx_blind Z D L μ0 _ G μ, sx_found hE hR hS _⟩ rfl (by simp; omega) hl.2.1 (sx_stk hlen) (by show 2 * 0 + _ ≤ 8; rw [sx_cats]; omega) hd ⟨by have := hle.1; omega, by have := hle.2; omega⟩) hS (fun _ _ _ q => q) (fun H1 locs1 h1 h2 => sx_next hle hn hs h hl h1 h2)
theorem si_callV {i k n d o ci : Nat} {as : List kx_V} {v : Option kx_V} {G2 : kx_G} {μ2 : kx_M} {oc : Nat} (C : sx_C p s m args c cc nL (sx_on oc) Z D L μ0) (hd : decode cc pc = .ok (.invokevirtual i, 3)) (hq : (oc, i, k, n, ci) ∈ sx_cvs) (hst : (st.take n).reverse = kR o :: as) (ho : G.1 o = (1, ci)) (hlen0 : n ≤ st.length) (hcat : kx_cats (st.drop n) ≤ 8) (hM : sx_Mt l Z D L μ0 d k (kR o :: as) G μ v G2 μ2) (hle : sx_lq G G2) (hRf : d + 2 ≤ R.frames) (hRl : 60 * d + 60 ≤ R.locals) (hRc : G2.2.1 - n0 ≤ R.cells) (hRs : sx_sl G2 - s0 ≤ R.slots) (h : sx_at p l e R s m args below meth c nL Z D L μ0 n0 s0 Qf (pc + 3) ls (v.toList ++ st.drop n) G2 μ2) : sx_at p l e R s m args below meth c nL Z D L μ0 n0 s0 Qf pc ls st G μ := by
  intro H locs lsA hR hS hl hn hs
  obtain ⟨hx, hb, hml, hown, hts, hE⟩ := C
  obtain ⟨w, h4, h7, h5, h6⟩ := sx_cvs_ok _ hq
  obtain ⟨h5, h8⟩ := sx_len h5
  have hml2 := sx_code_ok3 k h6
  obtain ⟨c1, c2, c3, c4⟩ := sx_cell hR (a := o) (by rw [ho]; exact Nat.le_refl 1) (by rw [ho]; exact Nat.le_of_ble_eq_true rfl)
  have hEa : sx_E Z G μ o = .inr (ci, (List.range (sx_nf ci)).map (fun j => sx_fv Z G μ ci o j)) := by simp only [sx_E, ho]
  rw [hEa] at c4
  have hlen : (st.take n).length = as.length + 1 := by rw [← List.length_reverse, hst]; rfl
  have hlen2 : n ≤ st.length ∧ as.length = n - 1 := by rw [List.length_take] at hlen; omega
  have hstk : st.map (sx_c Z) = (as.map (sx_c Z)).reverse ++ Value.ref (sx_ad Z o) :: (st.drop n).map (sx_c Z) := by
    rw [sx_stk (Z := Z) hlen2.1, hst]
    simp [sx_c]
  refine sx_go (va_runV (b := sx_ad Z o) (As := as.map (sx_c Z)) (rest := (st.drop n).map (sx_c Z)) ⟨hx, hb, hml, hown, hts⟩ hM
    (cwV (n - 1) hts (sx_goodL_app (sx_goodL w) (sx_goodIn k h6)) rfl rfl rfl ⟨h4, (sx_code_ok2 k h6).1, (sx_code_ok2 k h6).2, h5⟩ ⟨hRf, by show 8 + (kt_ml k + 11) + 60 * d ≤ R.locals; omega⟩)
    ⟨sx_blind Z D L μ0 _ G μ, va_recv hE.1 hR.2.2.1 (sx_cls_at h7) c4, sx_found hE hR hS (kR o :: as)⟩ rfl (by simp; omega) hl.2.1 hstk (by show 2 * 0 + _ ≤ 8; rw [sx_cats]; omega) hd ⟨by have := hle.1; omega, by have := hle.2; omega⟩) hS (fun _ _ _ q => q) (fun H1 locs1 h1 h2 => sx_next hle hn hs h hl h1 h2)
theorem si_callVS {i k n d : Nat} {as : List kx_V} {v : Option kx_V} {G2 : kx_G} {μ2 : kx_M} {oc : Nat} (C : sx_C p s m args c cc nL (sx_on oc) Z D L μ0) (hd : decode cc pc = .ok (.invokevirtual i, 3)) (hq : (oc, i, k, n) ∈ sx_cvt) (hst : (st.take n).reverse = kR 105 :: as) (hlen0 : n ≤ st.length) (hcat : kx_cats (st.drop n) ≤ 8) (hM : sx_Mt l Z D L μ0 d k (kR 105 :: as) G μ v G2 μ2) (hle : sx_lq G G2) (hRf : d + 2 ≤ R.frames) (hRl : 60 * d + 60 ≤ R.locals) (hRc : G2.2.1 - n0 ≤ R.cells) (hRs : sx_sl G2 - s0 ≤ R.slots) (h : sx_at p l e R s m args below meth c nL Z D L μ0 n0 s0 Qf (pc + 3) ls (v.toList ++ st.drop n) G2 μ2) : sx_at p l e R s m args below meth c nL Z D L μ0 n0 s0 Qf pc ls st G μ := by
  intro H locs lsA hR hS hl hn hs
  obtain ⟨hx, hb, hml, hown, hts, hE⟩ := C
  obtain ⟨w, h4, h5, h6⟩ := sx_cvt_ok _ hq
  obtain ⟨h5, h8⟩ := sx_len h5
  have hml2 := sx_code_ok3 k h6
  have hlen : (st.take n).length = as.length + 1 := by rw [← List.length_reverse, hst]; rfl
  have hlen2 : as.length = n - 1 := by rw [List.length_take] at hlen; omega
  have hstk : st.map (sx_c Z) = (as.map (sx_c Z)).reverse ++ Value.ref (sx_ad Z 105) :: (st.drop n).map (sx_c Z) := by
    rw [sx_stk (Z := Z) hlen0, hst]
    simp [sx_c]
  have hrc : ∃ cell : Cell, H[sx_ad Z 105]? = some cell ∧ cell.vm.isStatics = false ∧ s.vm.findClass "java/lang/String" = some cell.cls := by
    obtain ⟨cell, g1, g2, g3, -⟩ := hE.2.2.2.2.2.2.2.2.2.1.kept hS.2.1
    exact ⟨cell, g1, g2, g3⟩
  refine sx_go (va_runV (C := "java/lang/String") (b := sx_ad Z 105) (As := as.map (sx_c Z)) (rest := (st.drop n).map (sx_c Z)) ⟨hx, hb, hml, hown, hts⟩ hM
    (cwV (n - 1) hts (sx_goodL_app (sx_goodL w) (sx_goodIn k h6)) rfl rfl rfl ⟨h4, (sx_code_ok2 k h6).1, (sx_code_ok2 k h6).2, h5⟩ ⟨hRf, by show 8 + (kt_ml k + 11) + 60 * d ≤ R.locals; omega⟩)
    ⟨sx_blind Z D L μ0 _ G μ, hrc, sx_found hE hR hS (kR 105 :: as)⟩ rfl (by simp; omega) hl.2.1 hstk (by show 2 * 0 + _ ≤ 8; rw [sx_cats]; omega) hd ⟨by have := hle.1; omega, by have := hle.2; omega⟩) hS (fun _ _ _ q => q) (fun H1 locs1 h1 h2 => sx_next hle hn hs h hl h1 h2)
theorem si_callI {i k n d o : Nat} {as : List kx_V} {v : Option kx_V} {G2 : kx_G} {μ2 : kx_M} {oc : Nat} (C : sx_C p s m args c cc nL (sx_on oc) Z D L μ0) (hd : decode cc pc = .ok (.invokespecial i, 3)) (hq : (oc, i, k, n) ∈ sx_cis ∨ (oc, i, k, n) ∈ sx_cns) (hst : (st.take n).reverse = kR o :: as) (hlen0 : n ≤ st.length) (hcat : kx_cats (st.drop n) ≤ 8) (hM : sx_Mt l Z D L μ0 d k (kR o :: as) G μ v G2 μ2) (hle : sx_lq G G2) (hRf : d + 2 ≤ R.frames) (hRl : 60 * d + 60 ≤ R.locals) (hRc : G2.2.1 - n0 ≤ R.cells) (hRs : sx_sl G2 - s0 ≤ R.slots) (h : sx_at p l e R s m args below meth c nL Z D L μ0 n0 s0 Qf (pc + 3) ls (v.toList ++ st.drop n) G2 μ2) : sx_at p l e R s m args below meth c nL Z D L μ0 n0 s0 Qf pc ls st G μ := by
  intro H locs lsA hR hS hl hn hs
  obtain ⟨hx, hb, hml, hown, hts, hE⟩ := C
  have hlen : (st.take n).length = as.length + 1 := by rw [← List.length_reverse, hst]; rfl
  have hlen2 : as.length = n - 1 := by rw [List.length_take] at hlen; omega
  have hstk : st.map (sx_c Z) = (as.map (sx_c Z)).reverse ++ Value.ref (sx_ad Z o) :: (st.drop n).map (sx_c Z) := by
    rw [sx_stk (Z := Z) hlen0, hst]
    simp [sx_c]
  have hgo : ∀ {Qa : State → Outcome → State → Prop}, va_Run p l e R s m args below meth c H locs (G.2.1 - n0) (sx_sl G - s0) (G2.2.1 - G.2.1) (sx_sl G2 - sx_sl G) (F0 m pc lsA (st.map (sx_c Z))) ((st.drop n).map (sx_c Z)) (sx_Qc Z D L μ0 v G2 μ2 (Value.ref (sx_ad Z o) :: as.map (sx_c Z)).toArray) (fun q => Z.1 < q) → W p l e R s m args below meth c H locs (G.2.1 - n0) (sx_sl G - s0) Qf (F0 m pc lsA (st.map (sx_c Z))) := fun hr => sx_go hr hS (fun _ _ _ q => q) (fun H1 locs1 h1 h2 => sx_next hle hn hs h hl h1 h2)
  rcases hq with hq | hq
  · obtain ⟨w, h4, h7, h5, h6⟩ := sx_cis_ok _ hq
    obtain ⟨h5, h8⟩ := sx_len h5
    have hml2 := sx_code_ok3 k h6
    refine hgo (Qa := fun _ _ _ => True) (va_runI (b := sx_ad Z o) (As := as.map (sx_c Z)) (rest := (st.drop n).map (sx_c Z)) (bytes := sx_mc k) (maxL := kt_ml k) ⟨hx, hb, hml, hown, hts⟩ hM
      (cwI (n - 1) hts (sx_goodIn k h6) (ws' := sx_tb) (by unfold sx_ww; rw [h7]) rfl rfl (hts _ (w _ (by simp))) (hts _ (w _ (by simp))) (hts _ (w _ (by simp))) h4 ⟨(sx_code_ok2 k h6).1, (sx_code_ok2 k h6).2, h5⟩ ⟨hRf, by show 8 + (kt_ml k + 11) + 60 * d ≤ R.locals; omega⟩)
      ⟨sx_blind Z D L μ0 _ G μ, sx_found hE hR hS (kR o :: as)⟩ rfl (by simp; omega) hl.2.1 hstk (by show 2 * 0 + _ ≤ 8; rw [sx_cats]; omega) hd ⟨by have := hle.1; omega, by have := hle.2; omega⟩)
  · obtain ⟨w, h4, h7, h5, h6⟩ := sx_cns_ok _ hq
    obtain ⟨h5, h8⟩ := sx_len h5
    have hml2 := sx_code_ok3 k h6
    have hnw := hE.2.2.2.2.2.1 _ (sx_cns_nest _ hq)
    refine hgo (Qa := fun _ _ _ => True) (va_runIN (b := sx_ad Z o) (As := as.map (sx_c Z)) (rest := (st.drop n).map (sx_c Z)) (bytes := sx_mc k) (maxL := kt_ml k) ⟨hx, hb, hml, hown, hts⟩ hM
      ⟨va_cnB (n - 1) hts (sx_goodIn k h6) (ws' := sx_tb) (by unfold sx_ww; rw [h7]) rfl rfl hnw (hts _ (w _ (by simp))) ⟨(sx_code_ok2 k h6).1, (sx_code_ok2 k h6).2, h5⟩ ⟨hRf, by show 8 + (kt_ml k + 11) + 60 * d ≤ R.locals; omega⟩, h4, hts _ (w _ (by simp))⟩
      ⟨sx_blind Z D L μ0 _ G μ, sx_found hE hR hS (kR o :: as)⟩ rfl (by simp; omega) hl.2.1 hstk (by show 2 * 0 + _ ≤ 8; rw [sx_cats]; omega) hd ⟨by have := hle.1; omega, by have := hle.2; omega⟩)
end SD
end
section
theorem sx_pr {G : kx_G} {a k : Nat} (h : (G.1 a).1 = k) : G.1 a = (k, (G.1 a).2) := by rw [← h]
theorem kx_br_imp {c : Jvm.ClassFile.Cond} {a b : Int} {t f t' f' : Prop} (h1 : t → t') (h2 : f → f') (h : kx_br c a b t f) : kx_br c a b t' f' := by
  cases c <;> simp only [kx_br] at h ⊢ <;> split at h <;> rename_i q <;> first | (rw [if_pos q]; first | exact h1 h | exact h2 h) | (rw [if_neg q]; first | exact h1 h | exact h2 h)
theorem kx_sw_imp {x : Int} {f g : Nat → Prop} {d : Nat} (hfg : ∀ t, f t → g t) : ∀ (ts : List Nat) (lo : Int), kx_sw x lo f d ts → kx_sw x lo g d ts := by
  intro ts
  induction ts with
  | nil => intro lo h; exact hfg _ h
  | cons t ts ih =>
    intro lo h
    simp only [kx_sw] at h ⊢
    split at h <;> rename_i q
    · rw [if_pos q]; exact hfg _ h
    · rw [if_neg q]; exact ih _ h
theorem sx_cn_on {k : Nat} (h : k < 8) : sx_cn k = sx_on k := by
  match k, h with
  | 0, _ => rfl
  | 1, _ => rfl
  | 2, _ => rfl
  | 3, _ => rfl
  | 4, _ => rfl
  | 5, _ => rfl
  | 6, _ => rfl
  | 7, _ => rfl
section SE
variable {p : Program} {l : Launch} {e : Env} {R : Room} {s : State} {m : MethodId} {args : Array Value} {below : List Frame} {meth : Method} {c : Code} {cc : ByteArray} {nL L n0 s0 : Nat} {Z : sx_Z} {D : va_G} {μ0 : kx_M} {Qf : State → Prop} {pc : Nat} {ls : kx_L} {st : List kx_V} {G GF : kx_G} {μ μF : kx_M} {vF : Option kx_V}
set_option maxHeartbeats 8000000 in
theorem sx_step {d oc : Nat} {ini : Bool} {rt : Option FieldType} (C : sx_C p s m args c cc nL (sx_on oc) Z D L μ0) (hini : ini = true → meth.name = "<init>")
    (hri : ∀ {pc : Nat} {ls : kx_L} {x : Int}, decode cc pc = .ok (.ireturn, 1) → (rt = some .int ∨ (rt = some .boolean ∨ rt = some .byte) ∧ (x = 0 ∨ x = 1)) → some (kI x) = vF → sx_at p l e R s m args below meth c nL Z D L μ0 n0 s0 Qf pc ls [kI x] GF μF)
    (hrl : ∀ {pc : Nat} {ls : kx_L} {x : Int}, decode cc pc = .ok (.lreturn, 1) → rt = some .long → some (kL x) = vF → sx_at p l e R s m args below meth c nL Z D L μ0 n0 s0 Qf pc ls [kL x] GF μF)
    (hrv : ∀ {pc : Nat} {ls : kx_L}, decode cc pc = .ok (.return_, 1) → rt = none → none = vF → sx_at p l e R s m args below meth c nL Z D L μ0 n0 s0 Qf pc ls [] GF μF)
    (hM : ∀ k as G μ v G2 μ2, k < 204 → kx_ev kt_all kt_ml d k as G μ v G2 μ2 → sx_lq G2 GF → 1 ≤ G.2.1 → sx_Mt l Z D L μ0 d k as G μ v G2 μ2)
    (hRf : d + 2 ≤ R.frames) (hRl : 60 * d + 60 ≤ R.locals) (hRc : GF.2.1 - n0 ≤ R.cells) (hRs : sx_sl GF - s0 ≤ R.slots) (h91 : GF.2.1 ≤ 91)
    {i : Instr} {nx r1 r2 : Nat} {r3 : Int} {tg : List Nat} (hok : sx_okb oc cc nL ini rt pc i nx r1 r2 r3 tg = true)
    (h : kx_do i nx r1 r2 r3 tg False (fun pc' ls' st' G' μ' => sx_lq G' GF ∧ sx_at p l e R s m args below meth c nL Z D L μ0 n0 s0 Qf pc' ls' st' G' μ') (fun v1 G1 μ1 => v1 = vF ∧ G1 = GF ∧ μ1 = μF)
      (fun k as G1 μ1 pc' ls' rest => ∃ (v1 : Option kx_V) (G2 : kx_G) (μ2 : kx_M), (kx_ev kt_all kt_ml d k as G1 μ1 v1 G2 μ2 ∧ 1 ≤ G1.2.1) ∧ sx_lq G1 G2 ∧ sx_lq G2 GF ∧ sx_at p l e R s m args below meth c nL Z D L μ0 n0 s0 Qf pc' ls' (v1.toList ++ rest) G2 μ2) ls st G μ) : sx_at p l e R s m args below meth c nL Z D L μ0 n0 s0 Qf pc ls st G μ := by
  cases i
  case iadd =>
    simp only [sx_okb, Bool.and_eq_true, decide_eq_true_eq] at hok
    obtain ⟨⟨hd, hlt⟩, hnx⟩ := hok
    subst hnx
    rw [Nat.add_sub_cancel_left] at hd
    simp only [kx_do] at h
    split at h
    · exact si_iadd C hd h.2
    · exact h.elim
  case isub =>
    simp only [sx_okb, Bool.and_eq_true, decide_eq_true_eq] at hok
    obtain ⟨⟨hd, hlt⟩, hnx⟩ := hok
    subst hnx
    rw [Nat.add_sub_cancel_left] at hd
    simp only [kx_do] at h
    split at h
    · exact si_isub C hd h.2
    · exact h.elim
  case imul =>
    simp only [sx_okb, Bool.and_eq_true, decide_eq_true_eq] at hok
    obtain ⟨⟨hd, hlt⟩, hnx⟩ := hok
    subst hnx
    rw [Nat.add_sub_cancel_left] at hd
    simp only [kx_do] at h
    split at h
    · exact si_imul C hd h.2
    · exact h.elim
  case iand =>
    simp only [sx_okb, Bool.and_eq_true, decide_eq_true_eq] at hok
    obtain ⟨⟨hd, hlt⟩, hnx⟩ := hok
    subst hnx
    rw [Nat.add_sub_cancel_left] at hd
    simp only [kx_do] at h
    split at h
    · exact si_iand C hd h.2
    · exact h.elim
  case ior =>
    simp only [sx_okb, Bool.and_eq_true, decide_eq_true_eq] at hok
    obtain ⟨⟨hd, hlt⟩, hnx⟩ := hok
    subst hnx
    rw [Nat.add_sub_cancel_left] at hd
    simp only [kx_do] at h
    split at h
    · exact si_ior C hd h.2
    · exact h.elim
  case ixor =>
    simp only [sx_okb, Bool.and_eq_true, decide_eq_true_eq] at hok
    obtain ⟨⟨hd, hlt⟩, hnx⟩ := hok
    subst hnx
    rw [Nat.add_sub_cancel_left] at hd
    simp only [kx_do] at h
    split at h
    · exact si_ixor C hd h.2
    · exact h.elim
  case ineg =>
    simp only [sx_okb, Bool.and_eq_true, decide_eq_true_eq] at hok
    obtain ⟨⟨hd, hlt⟩, hnx⟩ := hok
    subst hnx
    rw [Nat.add_sub_cancel_left] at hd
    simp only [kx_do] at h
    split at h
    · exact si_ineg C hd h.2
    · exact h.elim
  case ladd =>
    simp only [sx_okb, Bool.and_eq_true, decide_eq_true_eq] at hok
    obtain ⟨⟨hd, hlt⟩, hnx⟩ := hok
    subst hnx
    rw [Nat.add_sub_cancel_left] at hd
    simp only [kx_do] at h
    split at h
    · exact si_ladd C hd h.2
    · exact h.elim
  case lsub =>
    simp only [sx_okb, Bool.and_eq_true, decide_eq_true_eq] at hok
    obtain ⟨⟨hd, hlt⟩, hnx⟩ := hok
    subst hnx
    rw [Nat.add_sub_cancel_left] at hd
    simp only [kx_do] at h
    split at h
    · exact si_lsub C hd h.2
    · exact h.elim
  case lor =>
    simp only [sx_okb, Bool.and_eq_true, decide_eq_true_eq] at hok
    obtain ⟨⟨hd, hlt⟩, hnx⟩ := hok
    subst hnx
    rw [Nat.add_sub_cancel_left] at hd
    simp only [kx_do] at h
    split at h
    · exact si_lor C hd h.2
    · exact h.elim
  case i2b =>
    simp only [sx_okb, Bool.and_eq_true, decide_eq_true_eq] at hok
    obtain ⟨⟨hd, hlt⟩, hnx⟩ := hok
    subst hnx
    rw [Nat.add_sub_cancel_left] at hd
    simp only [kx_do] at h
    split at h
    · exact si_i2b C hd h.2
    · exact h.elim
  case i2s =>
    simp only [sx_okb, Bool.and_eq_true, decide_eq_true_eq] at hok
    obtain ⟨⟨hd, hlt⟩, hnx⟩ := hok
    subst hnx
    rw [Nat.add_sub_cancel_left] at hd
    simp only [kx_do] at h
    split at h
    · exact si_i2s C hd h.2
    · exact h.elim
  case i2c =>
    simp only [sx_okb, Bool.and_eq_true, decide_eq_true_eq] at hok
    obtain ⟨⟨hd, hlt⟩, hnx⟩ := hok
    subst hnx
    rw [Nat.add_sub_cancel_left] at hd
    simp only [kx_do] at h
    split at h
    · exact si_i2c C hd h.2
    · exact h.elim
  case dup2 =>
    simp only [sx_okb, Bool.and_eq_true, decide_eq_true_eq] at hok
    obtain ⟨⟨hd, hlt⟩, hnx⟩ := hok
    subst hnx
    rw [Nat.add_sub_cancel_left] at hd
    simp only [kx_do] at h
    split at h
    · exact si_dup2 C hd h.2
    · exact h.elim
  case pop =>
    simp only [sx_okb, Bool.and_eq_true, decide_eq_true_eq] at hok
    obtain ⟨⟨hd, hlt⟩, hnx⟩ := hok
    subst hnx
    rw [Nat.add_sub_cancel_left] at hd
    simp only [kx_do] at h
    split at h
    · exact si_pop C hd h.2
    · exact h.elim
  case dup =>
    simp only [sx_okb, Bool.and_eq_true, decide_eq_true_eq] at hok
    obtain ⟨⟨hd, hlt⟩, hnx⟩ := hok
    subst hnx
    rw [Nat.add_sub_cancel_left] at hd
    simp only [kx_do] at h
    split at h
    · exact si_dup C hd h.2
    · exact si_dupR C hd h.2
    · exact h.elim
  case idiv =>
    simp only [sx_okb, Bool.and_eq_true, decide_eq_true_eq] at hok
    obtain ⟨⟨hd, hlt⟩, hnx⟩ := hok
    subst hnx
    rw [Nat.add_sub_cancel_left] at hd
    simp only [kx_do] at h
    split at h
    · split at h
      · rename_i hc; exact si_idiv C hd hc.1 hc.2.1 hc.2.2 h.2
      · exact h.elim
    · exact h.elim
  case irem =>
    simp only [sx_okb, Bool.and_eq_true, decide_eq_true_eq] at hok
    obtain ⟨⟨hd, hlt⟩, hnx⟩ := hok
    subst hnx
    rw [Nat.add_sub_cancel_left] at hd
    simp only [kx_do] at h
    split at h
    · split at h
      · rename_i hc; exact si_irem C hd hc.1 hc.2.1 hc.2.2 h.2
      · exact h.elim
    · exact h.elim
  case ishl =>
    simp only [sx_okb, Bool.and_eq_true, decide_eq_true_eq] at hok
    obtain ⟨⟨hd, hlt⟩, hnx⟩ := hok
    subst hnx
    rw [Nat.add_sub_cancel_left] at hd
    simp only [kx_do] at h
    split at h
    · split at h
      · rename_i hc; exact si_ishl C hd hc.1 hc.2 h.2
      · exact h.elim
    · exact h.elim
  case ishr =>
    simp only [sx_okb, Bool.and_eq_true, decide_eq_true_eq] at hok
    obtain ⟨⟨hd, hlt⟩, hnx⟩ := hok
    subst hnx
    rw [Nat.add_sub_cancel_left] at hd
    simp only [kx_do] at h
    split at h
    · split at h
      · rename_i hc; exact si_ishr C hd hc.1 hc.2 h.2
      · exact h.elim
    · exact h.elim
  case lshl =>
    simp only [sx_okb, Bool.and_eq_true, decide_eq_true_eq] at hok
    obtain ⟨⟨hd, hlt⟩, hnx⟩ := hok
    subst hnx
    rw [Nat.add_sub_cancel_left] at hd
    simp only [kx_do] at h
    split at h
    · split at h
      · rename_i hc; exact si_lshl C hd hc.1 hc.2 h.2
      · exact h.elim
    · exact h.elim
  case iushr =>
    simp only [sx_okb, Bool.and_eq_true, decide_eq_true_eq] at hok
    obtain ⟨⟨hd, hlt⟩, hnx⟩ := hok
    subst hnx
    rw [Nat.add_sub_cancel_left] at hd
    simp only [kx_do] at h
    split at h
    · split at h
      · rename_i hc; exact si_iushr C hd hc.1 hc.2.1 hc.2.2.1 hc.2.2.2 h.2
      · exact h.elim
    · exact h.elim
  case i2l =>
    simp only [sx_okb, Bool.and_eq_true, decide_eq_true_eq] at hok
    obtain ⟨⟨hd, hlt⟩, hnx⟩ := hok
    subst hnx
    rw [Nat.add_sub_cancel_left] at hd
    simp only [kx_do] at h
    split at h
    · split at h
      · rename_i hc; exact si_i2l C hd hc h.2
      · exact h.elim
    · exact h.elim
  case lcmp =>
    simp only [sx_okb, Bool.and_eq_true, decide_eq_true_eq] at hok
    obtain ⟨⟨hd, hlt⟩, hnx⟩ := hok
    subst hnx
    rw [Nat.add_sub_cancel_left] at hd
    simp only [kx_do] at h
    split at h
    · split at h
      · rename_i hc
        refine si_lcmp C hd hc.1 hc.2 ?_
        split at h
        · rw [if_pos ‹_›]; exact h.2
        · rw [if_neg ‹_›]; split at h
          · rw [if_pos ‹_›]; exact h.2
          · rw [if_neg ‹_›]; exact h.2
      · exact h.elim
    · exact h.elim
  case iload_n i =>
    simp only [sx_okb, Bool.and_eq_true, decide_eq_true_eq] at hok
    obtain ⟨⟨hd, hlt⟩, ⟨hi, hnx⟩⟩ := hok
    subst hnx
    rw [Nat.add_sub_cancel_left] at hd
    simp only [kx_do] at h
    simp only [kx_load] at h
    split at h
    · rename_i hg; exact si_iload_n C hd hi hg h.2
    · exact h.elim
    · exact h.elim
    · exact h.elim
  case iload i =>
    simp only [sx_okb, Bool.and_eq_true, decide_eq_true_eq] at hok
    obtain ⟨⟨hd, hlt⟩, ⟨hi, hnx⟩⟩ := hok
    subst hnx
    rw [Nat.add_sub_cancel_left] at hd
    simp only [kx_do] at h
    simp only [kx_load] at h
    split at h
    · rename_i hg; exact si_iload C hd hi hg h.2
    · exact h.elim
    · exact h.elim
    · exact h.elim
  case lload_n i =>
    simp only [sx_okb, Bool.and_eq_true, decide_eq_true_eq] at hok
    obtain ⟨⟨hd, hlt⟩, ⟨hi, hnx⟩⟩ := hok
    subst hnx
    rw [Nat.add_sub_cancel_left] at hd
    simp only [kx_do] at h
    simp only [kx_load] at h
    split at h
    · exact h.elim
    · rename_i hg; exact si_lload_n C hd hi hg h.2
    · exact h.elim
    · exact h.elim
  case lload i =>
    simp only [sx_okb, Bool.and_eq_true, decide_eq_true_eq] at hok
    obtain ⟨⟨hd, hlt⟩, ⟨hi, hnx⟩⟩ := hok
    subst hnx
    rw [Nat.add_sub_cancel_left] at hd
    simp only [kx_do] at h
    simp only [kx_load] at h
    split at h
    · exact h.elim
    · rename_i hg; exact si_lload C hd hi hg h.2
    · exact h.elim
    · exact h.elim
  case aload_n i =>
    simp only [sx_okb, Bool.and_eq_true, decide_eq_true_eq] at hok
    obtain ⟨⟨hd, hlt⟩, ⟨hi, hnx⟩⟩ := hok
    subst hnx
    rw [Nat.add_sub_cancel_left] at hd
    simp only [kx_do] at h
    simp only [kx_load] at h
    split at h
    · exact h.elim
    · exact h.elim
    · rename_i hg; exact si_aload_n C hd hi hg h.2
    · exact h.elim
  case aload i =>
    simp only [sx_okb, Bool.and_eq_true, decide_eq_true_eq] at hok
    obtain ⟨⟨hd, hlt⟩, ⟨hi, hnx⟩⟩ := hok
    subst hnx
    rw [Nat.add_sub_cancel_left] at hd
    simp only [kx_do] at h
    simp only [kx_load] at h
    split at h
    · exact h.elim
    · exact h.elim
    · rename_i hg; exact si_aload C hd hi hg h.2
    · exact h.elim
  case istore_n i =>
    simp only [sx_okb, Bool.and_eq_true, decide_eq_true_eq] at hok
    obtain ⟨⟨hd, hlt⟩, ⟨⟨hi, hr⟩, hnx⟩⟩ := hok
    subst hnx
    rw [Nat.add_sub_cancel_left] at hd
    simp only [kx_do] at h
    split at h
    · exact si_istore_n C hd hi hr h.2
    · exact h.elim
  case istore i =>
    simp only [sx_okb, Bool.and_eq_true, decide_eq_true_eq] at hok
    obtain ⟨⟨hd, hlt⟩, ⟨⟨hi, hr⟩, hnx⟩⟩ := hok
    subst hnx
    rw [Nat.add_sub_cancel_left] at hd
    simp only [kx_do] at h
    split at h
    · exact si_istore C hd hi hr h.2
    · exact h.elim
  case astore_n i =>
    simp only [sx_okb, Bool.and_eq_true, decide_eq_true_eq] at hok
    obtain ⟨⟨hd, hlt⟩, ⟨⟨hi, hr⟩, hnx⟩⟩ := hok
    subst hnx
    rw [Nat.add_sub_cancel_left] at hd
    simp only [kx_do] at h
    split at h
    · exact si_astore_n C hd hi hr h.2
    · exact h.elim
  case astore i =>
    simp only [sx_okb, Bool.and_eq_true, decide_eq_true_eq] at hok
    obtain ⟨⟨hd, hlt⟩, ⟨⟨hi, hr⟩, hnx⟩⟩ := hok
    subst hnx
    rw [Nat.add_sub_cancel_left] at hd
    simp only [kx_do] at h
    split at h
    · exact si_astore C hd hi hr h.2
    · exact h.elim
  case lstore_n i =>
    simp only [sx_okb, Bool.and_eq_true, decide_eq_true_eq] at hok
    obtain ⟨⟨hd, hlt⟩, ⟨⟨hi, hr⟩, hnx⟩⟩ := hok
    subst hnx
    rw [Nat.add_sub_cancel_left] at hd
    simp only [kx_do] at h
    split at h
    · exact si_lstore_n C hd hi hr h.2
    · exact h.elim
  case iinc i q =>
    simp only [sx_okb, Bool.and_eq_true, decide_eq_true_eq] at hok
    obtain ⟨⟨hd, hlt⟩, ⟨⟨⟨hi, hq⟩, hr⟩, hnx⟩⟩ := hok
    subst hnx
    rw [Nat.add_sub_cancel_left] at hd
    simp only [kx_do] at h
    split at h
    · rename_i hg; exact si_iinc C hd hi hq hr hg h.2
    · exact h.elim
  case iconst i =>
    simp only [sx_okb, Bool.and_eq_true, decide_eq_true_eq] at hok
    obtain ⟨⟨hd, hlt⟩, ⟨hi, hnx⟩⟩ := hok
    subst hnx
    rw [Nat.add_sub_cancel_left] at hd
    simp only [kx_do] at h
    exact si_iconst C hd hi h.2
  case bipush i =>
    simp only [sx_okb, Bool.and_eq_true, decide_eq_true_eq] at hok
    obtain ⟨⟨hd, hlt⟩, ⟨hi, hnx⟩⟩ := hok
    subst hnx
    rw [Nat.add_sub_cancel_left] at hd
    simp only [kx_do] at h
    exact si_bipush C hd hi h.2
  case sipush i =>
    simp only [sx_okb, Bool.and_eq_true, decide_eq_true_eq] at hok
    obtain ⟨⟨hd, hlt⟩, ⟨hi, hnx⟩⟩ := hok
    subst hnx
    rw [Nat.add_sub_cancel_left] at hd
    simp only [kx_do] at h
    exact si_sipush C hd hi h.2
  case lconst i =>
    simp only [sx_okb, Bool.and_eq_true, decide_eq_true_eq] at hok
    obtain ⟨⟨hd, hlt⟩, ⟨hi, hnx⟩⟩ := hok
    subst hnx
    rw [Nat.add_sub_cancel_left] at hd
    simp only [kx_do] at h
    exact si_lconst C hd hi h.2
  case ldc i =>
    simp only [sx_okb, Bool.and_eq_true, decide_eq_true_eq] at hok
    obtain ⟨⟨hd, hlt⟩, ⟨hnx, hw⟩⟩ := hok
    subst hnx
    rw [Nat.add_sub_cancel_left] at hd
    simp only [kx_do] at h
    split at h
    · rename_i h1
      rw [if_pos h1, decide_eq_true_eq] at hw
      exact si_ldc C hd ((sx_cst_ok _ hw).1 _ (by simp)) h.2
    · rename_i h1
      rw [if_neg h1] at hw
      simp only [Bool.and_eq_true, decide_eq_true_eq] at hw
      obtain ⟨⟨⟨hr1, hr2⟩, ho⟩, hi⟩ := hw
      subst hi; subst hr2
      exact si_ldcS C hd (by rw [ho]; rfl) h.2
  case ldc_w i =>
    simp only [sx_okb, Bool.and_eq_true, decide_eq_true_eq] at hok
    obtain ⟨⟨hd, hlt⟩, ⟨hnx, hw⟩⟩ := hok
    subst hnx
    rw [Nat.add_sub_cancel_left] at hd
    simp only [kx_do] at h
    exact si_ldc_w C hd ((sx_cst_ok _ hw).1 _ (by simp)) h.2
  case ldc2_w i =>
    simp only [sx_okb, Bool.and_eq_true, decide_eq_true_eq] at hok
    obtain ⟨⟨hd, hlt⟩, ⟨hnx, hw⟩⟩ := hok
    subst hnx
    rw [Nat.add_sub_cancel_left] at hd
    simp only [kx_do] at h
    exact si_ldc2_w C hd ((sx_cstL_ok _ hw).1 _ (by simp)) h.2
  case getstatic i =>
    simp only [sx_okb, Bool.and_eq_true, decide_eq_true_eq] at hok
    obtain ⟨⟨hd, hlt⟩, ⟨hnx, hw⟩⟩ := hok
    subst hnx
    rw [Nat.add_sub_cancel_left] at hd
    simp only [kx_do] at h
    split at h
    · rename_i h1
      rw [if_pos h1, decide_eq_true_eq] at hw
      exact si_getstatic C hd (sx_gst_ok _ hw).2 ((sx_gst_ok _ hw).1 _ (by simp)) h.2
    · rename_i h1
      rw [if_neg h1] at hw
      simp only [Bool.and_eq_true, decide_eq_true_eq] at hw
      obtain ⟨hr3, hw⟩ := hw
      subst hr3
      exact si_getstaticI C hd ((sx_gsz_ok _ hw).1 _ (by simp)) h.2
  case getfield i =>
    simp only [sx_okb, Bool.and_eq_true, decide_eq_true_eq] at hok
    obtain ⟨⟨hd, hlt⟩, ⟨hnx, hw⟩⟩ := hok
    subst hnx
    rw [Nat.add_sub_cancel_left] at hd
    simp only [kx_do] at h
    split at h
    · rename_i a
      split at h
      · rename_i h8
        rw [if_pos h8, decide_eq_true_eq] at hw
        have w := (sx_sfl_ok _ hw).1
        dsimp only at w
        split at h
        · rename_i ha
          subst ha
          split at h
          · rename_i h1
            rw [if_pos h1, if_pos h1] at w
            exact si_getSr C hd (w _ (by simp)) h.2
          · rename_i h1
            rw [if_neg h1, if_neg h1] at w
            exact si_getSi C hd (w _ (by simp)) h.2
        · exact h.elim
      · rename_i h8
        rw [if_neg h8] at hw
        simp only [Bool.and_eq_true, decide_eq_true_eq] at hw
        obtain ⟨⟨h0, hw⟩, ht⟩ := hw
        obtain ⟨k, rfl⟩ := Int.eq_ofNat_of_zero_le h0
        rw [Int.toNat_natCast] at hw ht
        obtain ⟨w, q8, qk⟩ := sx_fl_ok _ hw
        dsimp only at w q8 qk
        split at h
        · rename_i ho
          split at h
          · rename_i h1
            split at h
            · exact h.elim
            · rename_i hz; exact si_getr C hd ho qk (by omega) hz (w _ (by simp)) h.2
          · rename_i h1; exact si_geti C hd ho qk (by omega) (w _ (by simp)) h.2
        · exact h.elim
    · exact h.elim
  case putfield i =>
    simp only [sx_okb, Bool.and_eq_true, decide_eq_true_eq] at hok
    obtain ⟨⟨hd, hlt⟩, ⟨⟨⟨⟨hnx, h0⟩, hw⟩, ht⟩, hf⟩⟩ := hok
    subst hnx
    rw [Nat.add_sub_cancel_left] at hd
    simp only [kx_do] at h
    obtain ⟨k, rfl⟩ := Int.eq_ofNat_of_zero_le h0
    rw [Int.toNat_natCast] at hw ht hf
    obtain ⟨w, q8, qk⟩ := sx_fl_ok _ hw
    dsimp only at w q8 qk
    have hfin : (sx_T r1 k).2.2.2 = false ∨ meth.name = "<init>" ∧ (sx_T r1 k).1 = sx_on oc := by
      simp only [Bool.or_eq_true, Bool.not_eq_true', Bool.and_eq_true, decide_eq_true_eq] at hf
      rcases hf with q | ⟨q, q2⟩
      · exact Or.inl q
      · refine Or.inr ⟨hini q, ?_⟩
        rw [sx_own_ok r1 q8 k qk, q2]
        exact sx_cn_on (by omega)
    split at h
    · split at h
      · rename_i ho
        rcases ho.2 with q | ⟨q, hz⟩
        · exact si_puti C hd ho.1 qk (by omega) hfin (w _ (by simp)) h.2
        · exact si_putz C hd ho.1 qk (by omega) hz hfin (w _ (by simp)) h.2
      · exact h.elim
    · split at h
      · rename_i ho; exact si_putr C hd ho.1 qk (by omega) ho.2.2 hfin (w _ (by simp)) h.2
      · exact h.elim
    · exact h.elim
  case iaload =>
    simp only [sx_okb, Bool.and_eq_true, decide_eq_true_eq] at hok
    obtain ⟨⟨hd, hlt⟩, hnx⟩ := hok
    subst hnx
    rw [Nat.add_sub_cancel_left] at hd
    simp only [kx_do] at h
    split at h
    · split at h
      · rename_i hc
        rcases hc.1 with q | q
        · exact si_iald C hd (sx_pr q) hc.2.1 hc.2.2 h.2
        · exact si_iald7 C hd (sx_pr q) hc.2.1 hc.2.2 h.2
      · exact h.elim
    · exact h.elim
  case baload =>
    simp only [sx_okb, Bool.and_eq_true, decide_eq_true_eq] at hok
    obtain ⟨⟨hd, hlt⟩, hnx⟩ := hok
    subst hnx
    rw [Nat.add_sub_cancel_left] at hd
    simp only [kx_do] at h
    split at h
    · split at h
      · rename_i hc; exact si_zald C hd (sx_pr hc.1) hc.2.1 hc.2.2 h.2
      · split at h
        · rename_i hc; obtain ⟨ha, h0, h1⟩ := hc; subst ha; exact si_bal10 C hd h0 h1 h.2
        · exact h.elim
    · exact h.elim
  case laload =>
    simp only [sx_okb, Bool.and_eq_true, decide_eq_true_eq] at hok
    obtain ⟨⟨hd, hlt⟩, hnx⟩ := hok
    subst hnx
    rw [Nat.add_sub_cancel_left] at hd
    simp only [kx_do] at h
    split at h
    · split at h
      · rename_i hc; exact si_lald C hd (sx_pr hc.1) hc.2.1 hc.2.2 h.2
      · exact h.elim
    · exact h.elim
  case aaload =>
    simp only [sx_okb, Bool.and_eq_true, decide_eq_true_eq] at hok
    obtain ⟨⟨hd, hlt⟩, hnx⟩ := hok
    subst hnx
    rw [Nat.add_sub_cancel_left] at hd
    simp only [kx_do] at h
    split at h
    · split at h
      · rename_i hc
        rcases hc.1 with q | q
        · exact si_aald5 C hd (sx_pr q) hc.2.1 hc.2.2.1 hc.2.2.2 h.2
        · exact si_aald6 C hd (sx_pr q) hc.2.1 hc.2.2.1 hc.2.2.2 h.2
      · exact h.elim
    · exact h.elim
  case iastore =>
    simp only [sx_okb, Bool.and_eq_true, decide_eq_true_eq] at hok
    obtain ⟨⟨hd, hlt⟩, hnx⟩ := hok
    subst hnx
    rw [Nat.add_sub_cancel_left] at hd
    simp only [kx_do] at h
    split at h
    · split at h
      · rename_i hc; exact si_iast C hd (sx_pr hc.1) hc.2.1 hc.2.2 h.2
      · exact h.elim
    · exact h.elim
  case lastore =>
    simp only [sx_okb, Bool.and_eq_true, decide_eq_true_eq] at hok
    obtain ⟨⟨hd, hlt⟩, hnx⟩ := hok
    subst hnx
    rw [Nat.add_sub_cancel_left] at hd
    simp only [kx_do] at h
    split at h
    · split at h
      · rename_i hc; exact si_last C hd (sx_pr hc.1) hc.2.1 hc.2.2 h.2
      · exact h.elim
    · exact h.elim
  case bastore =>
    simp only [sx_okb, Bool.and_eq_true, decide_eq_true_eq] at hok
    obtain ⟨⟨hd, hlt⟩, hnx⟩ := hok
    subst hnx
    rw [Nat.add_sub_cancel_left] at hd
    simp only [kx_do] at h
    split at h
    · split at h
      · rename_i hc; exact si_zast C hd (sx_pr hc.1) hc.2.1 hc.2.2.1 hc.2.2.2 h.2
      · exact h.elim
    · exact h.elim
  case aastore =>
    simp only [sx_okb, Bool.and_eq_true, decide_eq_true_eq] at hok
    obtain ⟨⟨hd, hlt⟩, hnx⟩ := hok
    subst hnx
    rw [Nat.add_sub_cancel_left] at hd
    simp only [kx_do] at h
    split at h
    · split at h
      · rename_i hc
        rcases hc.1 with ⟨q, q2⟩ | ⟨q, q2⟩
        · exact si_aast5 C hd (sx_pr q) q2 hc.2.1 hc.2.2.1 hc.2.2.2 h.2
        · exact si_aast6 C hd (sx_pr q) q2 hc.2.1 hc.2.2.1 hc.2.2.2 h.2
      · exact h.elim
    · exact h.elim
  case arraylength =>
    simp only [sx_okb, Bool.and_eq_true, decide_eq_true_eq] at hok
    obtain ⟨⟨hd, hlt⟩, hnx⟩ := hok
    subst hnx
    rw [Nat.add_sub_cancel_left] at hd
    simp only [kx_do] at h
    split at h
    · split at h
      · rename_i hc
        rcases hc with q | q
        · exact si_alen C hd (sx_pr q) h.2
        · obtain ⟨q, rfl⟩ := q; exact si_alen7 C hd (sx_pr q) h.2
      · split at h
        · rename_i ha; subst ha; exact si_alen10 C hd h.2
        · exact h.elim
    · exact h.elim
  case newarray t =>
    simp only [sx_okb, Bool.and_eq_true, decide_eq_true_eq] at hok
    obtain ⟨⟨hd, hlt⟩, ⟨hnx, ht⟩⟩ := hok
    subst hnx
    rw [Nat.add_sub_cancel_left] at hd
    simp only [kx_do] at h
    split at h
    · split at h
      · rename_i hc
        rcases ht with ⟨rfl, rfl⟩ | ⟨rfl, rfl⟩ | ⟨rfl, rfl⟩
        · exact si_newa2 C hd (sx_arr_ok _ (by simp)) hc.1 hc.2 (by have := h.1.1; exact Nat.le_trans this h91) (by have := h.1.1; exact Nat.le_trans (Nat.sub_le_sub_right this _) hRc) (by have := h.1.2; exact Nat.le_trans (Nat.sub_le_sub_right this _) hRs) h.2
        · exact si_newa3 C hd (sx_arr_ok _ (by simp)) hc.1 hc.2 (by have := h.1.1; exact Nat.le_trans this h91) (by have := h.1.1; exact Nat.le_trans (Nat.sub_le_sub_right this _) hRc) (by have := h.1.2; exact Nat.le_trans (Nat.sub_le_sub_right this _) hRs) h.2
        · exact si_newa4 C hd (sx_arr_ok _ (by simp)) hc.1 hc.2 (by have := h.1.1; exact Nat.le_trans this h91) (by have := h.1.1; exact Nat.le_trans (Nat.sub_le_sub_right this _) hRc) (by have := h.1.2; exact Nat.le_trans (Nat.sub_le_sub_right this _) hRs) h.2
      · exact h.elim
    · exact h.elim
  case anewarray i =>
    simp only [sx_okb, Bool.and_eq_true, decide_eq_true_eq] at hok
    obtain ⟨⟨hd, hlt⟩, ⟨hnx, hw⟩⟩ := hok
    subst hnx
    rw [Nat.add_sub_cancel_left] at hd
    simp only [kx_do] at h
    obtain ⟨w, hk⟩ := sx_clq_ok _ hw
    split at h
    · split at h
      · rename_i hc
        rcases hk with hk | hk
        · simp only at hk; subst hk; exact si_anewa5 C hd (w _ (by simp)) hc.1 hc.2 (by have := h.1.1; exact Nat.le_trans this h91) (by have := h.1.1; exact Nat.le_trans (Nat.sub_le_sub_right this _) hRc) (by have := h.1.2; exact Nat.le_trans (Nat.sub_le_sub_right this _) hRs) h.2
        · simp only at hk; subst hk; exact si_anewa6 C hd (w _ (by simp)) hc.1 hc.2 (by have := h.1.1; exact Nat.le_trans this h91) (by have := h.1.1; exact Nat.le_trans (Nat.sub_le_sub_right this _) hRc) (by have := h.1.2; exact Nat.le_trans (Nat.sub_le_sub_right this _) hRs) h.2
      · exact h.elim
    · exact h.elim
  case new i =>
    simp only [sx_okb, Bool.and_eq_true, decide_eq_true_eq] at hok
    obtain ⟨⟨hd, hlt⟩, ⟨hnx, hw⟩⟩ := hok
    subst hnx
    rw [Nat.add_sub_cancel_left] at hd
    simp only [kx_do] at h
    obtain ⟨w, hk⟩ := sx_cla_ok _ hw
    exact si_new C hd hk (w _ (by simp)) (w _ (by simp)) (w _ (by simp)) (by have := h.1.1; exact Nat.le_trans this h91) (by have := h.1.1; exact Nat.le_trans (Nat.sub_le_sub_right this _) hRc) (by have := h.1.2; exact Nat.le_trans (Nat.sub_le_sub_right this _) hRs) h.2
  case ifCond q i =>
    simp only [sx_okb, Bool.and_eq_true, decide_eq_true_eq] at hok
    obtain ⟨⟨hd, hlt⟩, ⟨hnx, ht⟩⟩ := hok
    subst hnx
    rw [Nat.add_sub_cancel_left] at hd
    simp only [kx_do] at h
    split at h
    · split at h
      · rename_i hc
        cases q
        · exact si_if_eq C hd ht hc (kx_br_imp (fun q => q.2) (fun q => q.2) h)
        · exact si_if_ne C hd ht hc (kx_br_imp (fun q => q.2) (fun q => q.2) h)
        · exact si_if_lt C hd ht hc (kx_br_imp (fun q => q.2) (fun q => q.2) h)
        · exact si_if_ge C hd ht hc (kx_br_imp (fun q => q.2) (fun q => q.2) h)
        · exact si_if_gt C hd ht hc (kx_br_imp (fun q => q.2) (fun q => q.2) h)
        · exact si_if_le C hd ht hc (kx_br_imp (fun q => q.2) (fun q => q.2) h)
      · exact h.elim
    · exact h.elim
  case if_icmp q i =>
    simp only [sx_okb, Bool.and_eq_true, decide_eq_true_eq] at hok
    obtain ⟨⟨hd, hlt⟩, ⟨hnx, ht⟩⟩ := hok
    subst hnx
    rw [Nat.add_sub_cancel_left] at hd
    simp only [kx_do] at h
    split at h
    · split at h
      · rename_i hc
        cases q
        · exact si_icmp_eq C hd ht hc.1 hc.2 (kx_br_imp (fun q => q.2) (fun q => q.2) h)
        · exact si_icmp_ne C hd ht hc.1 hc.2 (kx_br_imp (fun q => q.2) (fun q => q.2) h)
        · exact si_icmp_lt C hd ht hc.1 hc.2 (kx_br_imp (fun q => q.2) (fun q => q.2) h)
        · exact si_icmp_ge C hd ht hc.1 hc.2 (kx_br_imp (fun q => q.2) (fun q => q.2) h)
        · exact si_icmp_gt C hd ht hc.1 hc.2 (kx_br_imp (fun q => q.2) (fun q => q.2) h)
        · exact si_icmp_le C hd ht hc.1 hc.2 (kx_br_imp (fun q => q.2) (fun q => q.2) h)
      · exact h.elim
    · exact h.elim
  case goto i =>
    simp only [sx_okb, Bool.and_eq_true, decide_eq_true_eq] at hok
    obtain ⟨⟨hd, hlt⟩, ⟨hnx, ht⟩⟩ := hok
    subst hnx
    rw [Nat.add_sub_cancel_left] at hd
    simp only [kx_do] at h
    exact si_goto C hd ht h.2
  case tableswitch df lo hi offs =>
    simp only [sx_okb, Bool.and_eq_true, decide_eq_true_eq] at hok
    obtain ⟨⟨hd, hlt⟩, ⟨⟨⟨hdf, hlo⟩, hlen⟩, hoff⟩⟩ := hok

    simp only [kx_do] at h
    subst hlo
    split at h
    · split at h
      · rename_i hc; exact si_tsw C hd hdf hlen hoff hc (kx_sw_imp (fun _ q => q.2) _ _ h)
      · exact h.elim
    · exact h.elim
  case lookupswitch df ps =>
    simp only [sx_okb, Bool.and_eq_true, decide_eq_true_eq] at hok
    obtain ⟨⟨hd, hlt⟩, ⟨⟨hdf, hlo⟩, hps⟩⟩ := hok

    simp only [kx_do] at h
    subst hlo
    split at hps
    · rename_i a x b y t u e1
      simp only [Bool.and_eq_true, decide_eq_true_eq] at hps
      obtain ⟨⟨⟨ha, hb1⟩, hx1⟩, hy1⟩ := hps
      split at h
      · split at h
        · rename_i hc; exact si_lsw C hd e1 ha hb1 hdf hx1 hy1 hc (kx_sw_imp (fun _ q => q.2) _ _ h)
        · exact h.elim
      · exact h.elim
    · cases hps
  case ireturn =>
    simp only [sx_okb, Bool.and_eq_true, decide_eq_true_eq] at hok
    obtain ⟨⟨hd, hlt⟩, ⟨hnx, hr⟩⟩ := hok
    subst hnx
    rw [Nat.add_sub_cancel_left] at hd
    simp only [kx_do] at h
    split at h
    · split at h
      · rename_i hc
        obtain ⟨e1, e2, e3⟩ := h
        subst e2; subst e3
        simp only [Bool.or_eq_true, decide_eq_true_eq] at hr
        refine hri hd ?_ e1
        rcases hr with q | q
        · exact Or.inl q.2
        · exact Or.inr ⟨q.2, by rcases hc with z | z; (exact absurd (z.symm.trans q.1) (by decide)); exact z⟩
      · exact h.elim
    · exact h.elim
  case lreturn =>
    simp only [sx_okb, Bool.and_eq_true, decide_eq_true_eq] at hok
    obtain ⟨⟨hd, hlt⟩, ⟨hnx, hr⟩⟩ := hok
    subst hnx
    rw [Nat.add_sub_cancel_left] at hd
    simp only [kx_do] at h
    split at h
    · obtain ⟨e1, e2, e3⟩ := h; subst e2; subst e3; exact hrl hd hr e1
    · exact h.elim
  case return_ =>
    simp only [sx_okb, Bool.and_eq_true, decide_eq_true_eq] at hok
    obtain ⟨⟨hd, hlt⟩, ⟨hnx, hr⟩⟩ := hok
    subst hnx
    rw [Nat.add_sub_cancel_left] at hd
    simp only [kx_do] at h
    split at h
    · obtain ⟨e1, e2, e3⟩ := h; subst e2; subst e3; exact hrv hd hr e1
    · exact h.elim
  case invokestatic i =>
    simp only [sx_okb, Bool.and_eq_true, decide_eq_true_eq] at hok
    obtain ⟨⟨hd, hlt⟩, ⟨hnx, hw⟩⟩ := hok
    subst hnx
    rw [Nat.add_sub_cancel_left] at hd
    simp only [kx_do] at h
    split at h
    · rename_i h2
      rw [if_pos h2, decide_eq_true_eq] at hw
      split at h
      · split at h
        · rename_i hc
          exact si_acopy C hd ((sx_aco_ok _ hw).1 _ (by simp)) (sx_cpy_ok _ (by simp)) (sx_cpy_ok _ (by simp)) (sx_cpy_ok _ (by simp)) hc.1 (sx_pr hc.2.1) (sx_pr hc.2.2.1) hc.2.2.2.1 hc.2.2.2.2.1 hc.2.2.2.2.2.1 hc.2.2.2.2.2.2.1 hc.2.2.2.2.2.2.2.1 hc.2.2.2.2.2.2.2.2 (by omega) (by omega) h.2
        · exact h.elim
      · exact h.elim
    · rename_i h2
      rw [if_neg h2] at hw
      simp only [Bool.and_eq_true, decide_eq_true_eq] at hw
      split at h
      · rename_i hc
        obtain ⟨v1, G2, μ2, g1, g2, g3, g4⟩ := h
        exact si_callS C hd hw.2 hc.1 hc.2 (hM _ _ _ _ _ _ _ (sx_css_ok _ hw.2).2.2 g1.1 g3 g1.2) g2 hRf hRl (by have := g3.1; exact Nat.le_trans (Nat.sub_le_sub_right this _) hRc) (by have := g3.2; exact Nat.le_trans (Nat.sub_le_sub_right this _) hRs) g4
      · exact h.elim
  case invokespecial i =>
    simp only [sx_okb, Bool.and_eq_true, decide_eq_true_eq] at hok
    obtain ⟨⟨hd, hlt⟩, ⟨hnx, hw⟩⟩ := hok
    subst hnx
    rw [Nat.add_sub_cancel_left] at hd
    simp only [kx_do] at h
    split at h
    · rename_i h2
      rw [if_pos h2, decide_eq_true_eq] at hw
      split at h
      · split at h
        · rename_i hc
          exact si_objinit C hd ((sx_obi_ok _ hw).1 _ (by simp)) (sx_obj_ok _ (by simp)) (sx_obj_ok _ (by simp)) hc (by omega) (by omega) h.2
        · exact h.elim
      · exact h.elim
    · rename_i h2
      rw [if_neg h2] at hw
      simp only [Bool.and_eq_true, Bool.or_eq_true, decide_eq_true_eq] at hw
      split at h
      · rename_i hst
        split at h
        · rename_i hc
          obtain ⟨v1, G2, μ2, g1, g2, g3, g4⟩ := h
          have hk : r1 < 204 := by rcases hw.2 with q | q; exact (sx_cis_ok _ q).2.2.2.2; exact (sx_cns_ok _ q).2.2.2.2
          exact si_callI C hd hw.2 hst hc.1 hc.2 (hM _ _ _ _ _ _ _ hk g1.1 g3 g1.2) g2 hRf hRl (by have := g3.1; exact Nat.le_trans (Nat.sub_le_sub_right this _) hRc) (by have := g3.2; exact Nat.le_trans (Nat.sub_le_sub_right this _) hRs) g4
        · exact h.elim
      · exact h.elim
  case invokevirtual i =>
    simp only [sx_okb, Bool.and_eq_true, decide_eq_true_eq] at hok
    obtain ⟨⟨hd, hlt⟩, ⟨hnx, hw⟩⟩ := hok
    subst hnx
    rw [Nat.add_sub_cancel_left] at hd
    simp only [kx_do] at h
    split at h
    · rename_i o as hst
      by_cases hc : (if tg.headD 0 = 8 then o = 105 else G.1 o = (1, tg.headD 0)) ∧ r2 ≤ st.length ∧ kx_cats (st.drop r2) ≤ 8
      · rw [if_pos hc] at h
        obtain ⟨v1, G2, μ2, g1, g2, g3, g4⟩ := h
        obtain ⟨ho, hc1, hc2⟩ := hc
        by_cases h8 : tg.headD 0 = 8
        · rw [if_pos h8, decide_eq_true_eq] at hw
          rw [if_pos h8] at ho
          subst ho
          exact si_callVS C hd hw hst hc1 hc2 (hM _ _ _ _ _ _ _ (sx_cvt_ok _ hw).2.2.2 g1.1 g3 g1.2) g2 hRf hRl (by have := g3.1; exact Nat.le_trans (Nat.sub_le_sub_right this _) hRc) (by have := g3.2; exact Nat.le_trans (Nat.sub_le_sub_right this _) hRs) g4
        · rw [if_neg h8, decide_eq_true_eq] at hw
          rw [if_neg h8] at ho
          exact si_callV C hd hw hst ho hc1 hc2 (hM _ _ _ _ _ _ _ (sx_cvs_ok _ hw).2.2.2.2 g1.1 g3 g1.2) g2 hRf hRl (by have := g3.1; exact Nat.le_trans (Nat.sub_le_sub_right this _) hRc) (by have := g3.2; exact Nat.le_trans (Nat.sub_le_sub_right this _) hRs) g4
      · rw [if_neg hc] at h; exact h.elim
    · exact h.elim
  all_goals first | exact h.elim | (simp only [kx_do] at h)
end SE
end
section
theorem sv_0 : ∀ pc, pc < 37 → sx_okE 0 prog_2_method_1_code 1 true (none) pc (kt_Acts_init pc) = true := by decide +kernel
set_option maxRecDepth 100000 in
theorem sv_0_out : ∀ pc, 37 ≤ pc → (kt_Acts_init pc).1 = .nop := by
  intro pc h
  unfold kt_Acts_init
  split <;> first | rfl | omega
theorem sv_1 : ∀ pc, pc < 6 → sx_okE 0 prog_2_method_2_code 1 false (none) pc (kt_Acts_forgetAll pc) = true := by decide +kernel
set_option maxRecDepth 100000 in
theorem sv_1_out : ∀ pc, 6 ≤ pc → (kt_Acts_forgetAll pc).1 = .nop := by
  intro pc h
  unfold kt_Acts_forgetAll
  split <;> first | rfl | omega
theorem sv_2 : ∀ pc, pc < 70 → sx_okE 0 prog_2_method_3_code 5 false (none) pc (kt_Acts_keep pc) = true := by decide +kernel
set_option maxRecDepth 100000 in
theorem sv_2_out : ∀ pc, 70 ≤ pc → (kt_Acts_keep pc).1 = .nop := by
  intro pc h
  unfold kt_Acts_keep
  split <;> first | rfl | omega
theorem sv_3 : ∀ pc, pc < 162 → sx_okE 0 prog_2_method_4_code 3 false (none) pc (kt_Acts_revertLatest pc) = true := by decide +kernel
set_option maxRecDepth 100000 in
theorem sv_3_out : ∀ pc, 162 ≤ pc → (kt_Acts_revertLatest pc).1 = .nop := by
  intro pc h
  unfold kt_Acts_revertLatest
  split <;> first | rfl | omega
theorem sv_4 : ∀ pc, pc < 13 → sx_okE 1 prog_3_method_1_code 1 true (none) pc (kt_Asker_init pc) = true := by decide +kernel
set_option maxRecDepth 100000 in
theorem sv_4_out : ∀ pc, 13 ≤ pc → (kt_Asker_init pc).1 = .nop := by
  intro pc h
  unfold kt_Asker_init
  split <;> first | rfl | omega
theorem sv_5 : ∀ pc, pc < 25 → sx_okE 1 prog_3_method_2_code 2 false (some .int) pc (kt_Asker_numberAt pc) = true := by decide +kernel
set_option maxRecDepth 100000 in
theorem sv_5_out : ∀ pc, 25 ≤ pc → (kt_Asker_numberAt pc).1 = .nop := by
  intro pc h
  unfold kt_Asker_numberAt
  split <;> first | rfl | omega
theorem sv_6 : ∀ pc, pc < 14 → sx_okE 1 prog_3_method_3_code 4 false (some .int) pc (kt_Asker_answer pc) = true := by decide +kernel
set_option maxRecDepth 100000 in
theorem sv_6_out : ∀ pc, 14 ≤ pc → (kt_Asker_answer pc).1 = .nop := by
  intro pc h
  unfold kt_Asker_answer
  split <;> first | rfl | omega
theorem sv_7 : ∀ pc, pc < 234 → sx_okE 1 prog_3_method_4_code 6 false (some .int) pc (kt_Asker_runBody pc) = true := by decide +kernel
set_option maxRecDepth 100000 in
theorem sv_7_out : ∀ pc, 234 ≤ pc → (kt_Asker_runBody pc).1 = .nop := by
  intro pc h
  unfold kt_Asker_runBody
  split <;> first | rfl | omega
theorem sv_8 : ∀ pc, pc < 19 → sx_okE 1 prog_3_method_5_code 5 false (some .int) pc (kt_Asker_askAnew pc) = true := by decide +kernel
set_option maxRecDepth 100000 in
theorem sv_8_out : ∀ pc, 19 ≤ pc → (kt_Asker_askAnew pc).1 = .nop := by
  intro pc h
  unfold kt_Asker_askAnew
  split <;> first | rfl | omega
theorem sv_9 : ∀ pc, pc < 30 → sx_okE 1 prog_3_method_6_code 2 false (none) pc (kt_Asker_leaveNumber pc) = true := by decide +kernel
set_option maxRecDepth 100000 in
theorem sv_9_out : ∀ pc, 30 ≤ pc → (kt_Asker_leaveNumber pc).1 = .nop := by
  intro pc h
  unfold kt_Asker_leaveNumber
  split <;> first | rfl | omega
theorem sv_10 : ∀ pc, pc < 29 → sx_okE 2 prog_4_method_1_code 2 true (none) pc (kt_Fore_init pc) = true := by decide +kernel
set_option maxRecDepth 100000 in
theorem sv_10_out : ∀ pc, 29 ≤ pc → (kt_Fore_init pc).1 = .nop := by
  intro pc h
  unfold kt_Fore_init
  split <;> first | rfl | omega
theorem sv_11 : ∀ pc, pc < 24 → sx_okE 2 prog_4_method_2_code 2 false (some .int) pc (kt_Fore_holderBehind pc) = true := by decide +kernel
set_option maxRecDepth 100000 in
theorem sv_11_out : ∀ pc, 24 ≤ pc → (kt_Fore_holderBehind pc).1 = .nop := by
  intro pc h
  unfold kt_Fore_holderBehind
  split <;> first | rfl | omega
theorem sv_12 : ∀ pc, pc < 49 → sx_okE 2 prog_4_method_3_code 3 false (some .int) pc (kt_Fore_stepsUntilHolder pc) = true := by decide +kernel
set_option maxRecDepth 100000 in
theorem sv_12_out : ∀ pc, 49 ≤ pc → (kt_Fore_stepsUntilHolder pc).1 = .nop := by
  intro pc h
  unfold kt_Fore_stepsUntilHolder
  split <;> first | rfl | omega
theorem sv_13 : ∀ pc, pc < 56 → sx_okE 2 prog_4_method_4_code 4 false (some .int) pc (kt_Fore_holdersWithin pc) = true := by decide +kernel
set_option maxRecDepth 100000 in
theorem sv_13_out : ∀ pc, 56 ≤ pc → (kt_Fore_holdersWithin pc).1 = .nop := by
  intro pc h
  unfold kt_Fore_holdersWithin
  split <;> first | rfl | omega
theorem sv_14 : ∀ pc, pc < 77 → sx_okE 2 prog_4_method_5_code 4 false (some .int) pc (kt_Fore_repetition pc) = true := by decide +kernel
set_option maxRecDepth 100000 in
theorem sv_14_out : ∀ pc, 77 ≤ pc → (kt_Fore_repetition pc).1 = .nop := by
  intro pc h
  unfold kt_Fore_repetition
  split <;> first | rfl | omega
theorem sv_15 : ∀ pc, pc < 51 → sx_okE 2 prog_4_method_6_code 2 false (some .int) pc (kt_Fore_stepOfDone pc) = true := by decide +kernel
set_option maxRecDepth 100000 in
theorem sv_15_out : ∀ pc, 51 ≤ pc → (kt_Fore_stepOfDone pc).1 = .nop := by
  intro pc h
  unfold kt_Fore_stepOfDone
  split <;> first | rfl | omega
theorem sv_16 : ∀ pc, pc < 56 → sx_okE 2 prog_4_method_7_code 3 false (some .int) pc (kt_Fore_orderDoneFirst pc) = true := by decide +kernel
set_option maxRecDepth 100000 in
theorem sv_16_out : ∀ pc, 56 ≤ pc → (kt_Fore_orderDoneFirst pc).1 = .nop := by
  intro pc h
  unfold kt_Fore_orderDoneFirst
  split <;> first | rfl | omega
theorem sv_17 : ∀ pc, pc < 36 → sx_okE 2 prog_4_method_8_code 3 false (some .int) pc (kt_Fore_workWithin pc) = true := by decide +kernel
set_option maxRecDepth 100000 in
theorem sv_17_out : ∀ pc, 36 ≤ pc → (kt_Fore_workWithin pc).1 = .nop := by
  intro pc h
  unfold kt_Fore_workWithin
  split <;> first | rfl | omega
theorem sv_18 : ∀ pc, pc < 92 → sx_okE 2 prog_4_method_9_code 7 false (some .int) pc (kt_Fore_bestGift pc) = true := by decide +kernel
set_option maxRecDepth 100000 in
theorem sv_18_out : ∀ pc, 92 ≤ pc → (kt_Fore_bestGift pc).1 = .nop := by
  intro pc h
  unfold kt_Fore_bestGift
  split <;> first | rfl | omega
theorem sv_19 : ∀ pc, pc < 62 → sx_okE 2 prog_4_method_10_code 5 false (some .int) pc (kt_Fore_windsThatBring pc) = true := by decide +kernel
set_option maxRecDepth 100000 in
theorem sv_19_out : ∀ pc, 62 ≤ pc → (kt_Fore_windsThatBring pc).1 = .nop := by
  intro pc h
  unfold kt_Fore_windsThatBring
  split <;> first | rfl | omega
theorem sv_20 : ∀ pc, pc < 79 → sx_okE 2 prog_4_method_11_code 8 false (some .int) pc (kt_Fore_giftsThatGoAs pc) = true := by decide +kernel
set_option maxRecDepth 100000 in
theorem sv_20_out : ∀ pc, 79 ≤ pc → (kt_Fore_giftsThatGoAs pc).1 = .nop := by
  intro pc h
  unfold kt_Fore_giftsThatGoAs
  split <;> first | rfl | omega
theorem sv_21 : ∀ pc, pc < 66 → sx_okE 2 prog_4_method_12_code 7 false (some .int) pc (kt_Fore_keepsThatGoAs pc) = true := by decide +kernel
set_option maxRecDepth 100000 in
theorem sv_21_out : ∀ pc, 66 ≤ pc → (kt_Fore_keepsThatGoAs pc).1 = .nop := by
  intro pc h
  unfold kt_Fore_keepsThatGoAs
  split <;> first | rfl | omega
theorem sv_22 : ∀ pc, pc < 22 → sx_okE 2 prog_4_method_13_code 3 false (none) pc (kt_Fore_go pc) = true := by decide +kernel
set_option maxRecDepth 100000 in
theorem sv_22_out : ∀ pc, 22 ≤ pc → (kt_Fore_go pc).1 = .nop := by
  intro pc h
  unfold kt_Fore_go
  split <;> first | rfl | omega
theorem sv_23 : ∀ pc, pc < 39 → sx_okE 2 prog_4_method_14_code 4 false (some .int) pc (kt_Fore_stepsUntilDone pc) = true := by decide +kernel
set_option maxRecDepth 100000 in
theorem sv_23_out : ∀ pc, 39 ≤ pc → (kt_Fore_stepsUntilDone pc).1 = .nop := by
  intro pc h
  unfold kt_Fore_stepsUntilDone
  split <;> first | rfl | omega
theorem sv_24 : ∀ pc, pc < 57 → sx_okE 2 prog_4_method_15_code 5 false (some .boolean) pc (kt_Fore_goesAs pc) = true := by decide +kernel
set_option maxRecDepth 100000 in
theorem sv_24_out : ∀ pc, 57 ≤ pc → (kt_Fore_goesAs pc).1 = .nop := by
  intro pc h
  unfold kt_Fore_goesAs
  split <;> first | rfl | omega
theorem sv_25 : ∀ pc, pc < 59 → sx_okE 2 prog_4_method_16_code 4 false (some .long) pc (kt_Fore_markOfTrial pc) = true := by decide +kernel
set_option maxRecDepth 100000 in
theorem sv_25_out : ∀ pc, 59 ≤ pc → (kt_Fore_markOfTrial pc).1 = .nop := by
  intro pc h
  unfold kt_Fore_markOfTrial
  split <;> first | rfl | omega
theorem sv_26 : ∀ pc, pc < 33 → sx_okE 2 prog_4_method_17_code 3 false (some .int) pc (kt_Fore_earliestWithMarkOf pc) = true := by decide +kernel
set_option maxRecDepth 100000 in
theorem sv_26_out : ∀ pc, 33 ≤ pc → (kt_Fore_earliestWithMarkOf pc).1 = .nop := by
  intro pc h
  unfold kt_Fore_earliestWithMarkOf
  split <;> first | rfl | omega
theorem sv_27 : ∀ pc, pc < 36 → sx_okE 8 prog_5_method_2_code 2 false (some .int) pc (kt_Kinds_told pc) = true := by decide +kernel
set_option maxRecDepth 100000 in
theorem sv_27_out : ∀ pc, 36 ≤ pc → (kt_Kinds_told pc).1 = .nop := by
  intro pc h
  unfold kt_Kinds_told
  split <;> first | rfl | omega
theorem sv_28 : ∀ pc, pc < 31 → sx_okE 8 prog_5_method_3_code 4 false (some .boolean) pc (kt_Kinds_isOne pc) = true := by decide +kernel
set_option maxRecDepth 100000 in
theorem sv_28_out : ∀ pc, 31 ≤ pc → (kt_Kinds_isOne pc).1 = .nop := by
  intro pc h
  unfold kt_Kinds_isOne
  split <;> first | rfl | omega
theorem sv_29 : ∀ pc, pc < 52 → sx_okE 8 prog_5_method_4_code 5 false (some .int) pc (kt_Kinds_bodyOf pc) = true := by decide +kernel
set_option maxRecDepth 100000 in
theorem sv_29_out : ∀ pc, 52 ≤ pc → (kt_Kinds_bodyOf pc).1 = .nop := by
  intro pc h
  unfold kt_Kinds_bodyOf
  split <;> first | rfl | omega
theorem sv_30 : ∀ pc, pc < 23 → sx_okE 3 prog_6_method_1_code 1 true (none) pc (kt_Row_init pc) = true := by decide +kernel
set_option maxRecDepth 100000 in
theorem sv_30_out : ∀ pc, 23 ≤ pc → (kt_Row_init pc).1 = .nop := by
  intro pc h
  unfold kt_Row_init
  split <;> first | rfl | omega
theorem sv_31 : ∀ pc, pc < 14 → sx_okE 3 prog_6_method_2_code 1 false (some .boolean) pc (kt_Row_isMissing pc) = true := by decide +kernel
set_option maxRecDepth 100000 in
theorem sv_31_out : ∀ pc, 14 ≤ pc → (kt_Row_isMissing pc).1 = .nop := by
  intro pc h
  unfold kt_Row_isMissing
  split <;> first | rfl | omega
theorem sv_32 : ∀ pc, pc < 19 → sx_okE 3 prog_6_method_3_code 3 false (none) pc (kt_Row_lay pc) = true := by decide +kernel
set_option maxRecDepth 100000 in
theorem sv_32_out : ∀ pc, 19 ≤ pc → (kt_Row_lay pc).1 = .nop := by
  intro pc h
  unfold kt_Row_lay
  split <;> first | rfl | omega
theorem sv_33 : ∀ pc, pc < 12 → sx_okE 3 prog_6_method_4_code 2 false (some .int) pc (kt_Row_remove pc) = true := by decide +kernel
set_option maxRecDepth 100000 in
theorem sv_33_out : ∀ pc, 12 ≤ pc → (kt_Row_remove pc).1 = .nop := by
  intro pc h
  unfold kt_Row_remove
  split <;> first | rfl | omega
theorem sv_34 : ∀ pc, pc < 28 → sx_okE 3 prog_6_method_5_code 3 false (some .boolean) pc (kt_Row_hasPlaces pc) = true := by decide +kernel
set_option maxRecDepth 100000 in
theorem sv_34_out : ∀ pc, 28 ≤ pc → (kt_Row_hasPlaces pc).1 = .nop := by
  intro pc h
  unfold kt_Row_hasPlaces
  split <;> first | rfl | omega
theorem sv_35 : ∀ pc, pc < 18 → sx_okE 3 prog_6_method_6_code 3 false (some .int) pc (kt_Row_put pc) = true := by decide +kernel
set_option maxRecDepth 100000 in
theorem sv_35_out : ∀ pc, 18 ≤ pc → (kt_Row_put pc).1 = .nop := by
  intro pc h
  unfold kt_Row_put
  split <;> first | rfl | omega
theorem sv_36 : ∀ pc, pc < 40 → sx_okE 3 prog_6_method_7_code 2 false (some .int) pc (kt_Row_cutToLane pc) = true := by decide +kernel
set_option maxRecDepth 100000 in
theorem sv_36_out : ∀ pc, 40 ≤ pc → (kt_Row_cutToLane pc).1 = .nop := by
  intro pc h
  unfold kt_Row_cutToLane
  split <;> first | rfl | omega
theorem sv_37 : ∀ pc, pc < 13 → sx_okE 4 prog_7_method_1_code 1 true (none) pc (kt_Tape_init pc) = true := by decide +kernel
set_option maxRecDepth 100000 in
theorem sv_37_out : ∀ pc, 13 ≤ pc → (kt_Tape_init pc).1 = .nop := by
  intro pc h
  unfold kt_Tape_init
  split <;> first | rfl | omega
theorem sv_38 : ∀ pc, pc < 15 → sx_okE 4 prog_7_method_2_code 1 false (some .boolean) pc (kt_Tape_isFull pc) = true := by decide +kernel
set_option maxRecDepth 100000 in
theorem sv_38_out : ∀ pc, 15 ≤ pc → (kt_Tape_isFull pc).1 = .nop := by
  intro pc h
  unfold kt_Tape_isFull
  split <;> first | rfl | omega
theorem sv_39 : ∀ pc, pc < 25 → sx_okE 4 prog_7_method_3_code 2 false (some .int) pc (kt_Tape_add pc) = true := by decide +kernel
set_option maxRecDepth 100000 in
theorem sv_39_out : ∀ pc, 25 ≤ pc → (kt_Tape_add pc).1 = .nop := by
  intro pc h
  unfold kt_Tape_add
  split <;> first | rfl | omega
theorem sv_40 : ∀ pc, pc < 6 → sx_okE 4 prog_7_method_4_code 1 false (none) pc (kt_Tape_empty pc) = true := by decide +kernel
set_option maxRecDepth 100000 in
theorem sv_40_out : ∀ pc, 6 ≤ pc → (kt_Tape_empty pc).1 = .nop := by
  intro pc h
  unfold kt_Tape_empty
  split <;> first | rfl | omega
theorem sv_41 : ∀ pc, pc < 39 → sx_okE 4 prog_7_method_5_code 2 false (some .boolean) pc (kt_Tape_readInto pc) = true := by decide +kernel
set_option maxRecDepth 100000 in
theorem sv_41_out : ∀ pc, 39 ≤ pc → (kt_Tape_readInto pc).1 = .nop := by
  intro pc h
  unfold kt_Tape_readInto
  split <;> first | rfl | omega
theorem sv_42 : ∀ pc, pc < 35 → sx_okE 4 prog_7_method_6_code 2 false (some .boolean) pc (kt_Tape_readLaw pc) = true := by decide +kernel
set_option maxRecDepth 100000 in
theorem sv_42_out : ∀ pc, 35 ≤ pc → (kt_Tape_readLaw pc).1 = .nop := by
  intro pc h
  unfold kt_Tape_readLaw
  split <;> first | rfl | omega
theorem sv_43 : ∀ pc, pc < 57 → sx_okE 4 prog_7_method_7_code 4 false (some .boolean) pc (kt_Tape_readHeads pc) = true := by decide +kernel
set_option maxRecDepth 100000 in
theorem sv_43_out : ∀ pc, 57 ≤ pc → (kt_Tape_readHeads pc).1 = .nop := by
  intro pc h
  unfold kt_Tape_readHeads
  split <;> first | rfl | omega
theorem sv_44 : ∀ pc, pc < 80 → sx_okE 4 prog_7_method_8_code 4 false (some .boolean) pc (kt_Tape_readHead pc) = true := by decide +kernel
set_option maxRecDepth 100000 in
theorem sv_44_out : ∀ pc, 80 ≤ pc → (kt_Tape_readHead pc).1 = .nop := by
  intro pc h
  unfold kt_Tape_readHead
  split <;> first | rfl | omega
theorem sv_45 : ∀ pc, pc < 35 → sx_okE 4 prog_7_method_9_code 3 false (some .boolean) pc (kt_Tape_readOrders pc) = true := by decide +kernel
set_option maxRecDepth 100000 in
theorem sv_45_out : ∀ pc, 35 ≤ pc → (kt_Tape_readOrders pc).1 = .nop := by
  intro pc h
  unfold kt_Tape_readOrders
  split <;> first | rfl | omega
theorem sv_46 : ∀ pc, pc < 60 → sx_okE 4 prog_7_method_10_code 2 false (some .boolean) pc (kt_Tape_readOrder pc) = true := by decide +kernel
set_option maxRecDepth 100000 in
theorem sv_46_out : ∀ pc, 60 ≤ pc → (kt_Tape_readOrder pc).1 = .nop := by
  intro pc h
  unfold kt_Tape_readOrder
  split <;> first | rfl | omega
theorem sv_47 : ∀ pc, pc < 26 → sx_okE 4 prog_7_method_11_code 2 false (some .boolean) pc (kt_Tape_take pc) = true := by decide +kernel
set_option maxRecDepth 100000 in
theorem sv_47_out : ∀ pc, 26 ≤ pc → (kt_Tape_take pc).1 = .nop := by
  intro pc h
  unfold kt_Tape_take
  split <;> first | rfl | omega
theorem sv_48 : ∀ pc, pc < 97 → sx_okE 4 prog_7_method_12_code 6 false (some .boolean) pc (kt_Tape_takeNumber pc) = true := by decide +kernel
set_option maxRecDepth 100000 in
theorem sv_48_out : ∀ pc, 97 ≤ pc → (kt_Tape_takeNumber pc).1 = .nop := by
  intro pc h
  unfold kt_Tape_takeNumber
  split <;> first | rfl | omega
theorem sv_49 : ∀ pc, pc < 48 → sx_okE 4 prog_7_method_13_code 2 false (some .int) pc (kt_Tape_figuresAhead pc) = true := by decide +kernel
set_option maxRecDepth 100000 in
theorem sv_49_out : ∀ pc, 48 ≤ pc → (kt_Tape_figuresAhead pc).1 = .nop := by
  intro pc h
  unfold kt_Tape_figuresAhead
  split <;> first | rfl | omega
theorem sv_50 : ∀ pc, pc < 25 → sx_okE 4 prog_7_method_14_code 1 false (some .int) pc (kt_Tape_next pc) = true := by decide +kernel
set_option maxRecDepth 100000 in
theorem sv_50_out : ∀ pc, 25 ≤ pc → (kt_Tape_next pc).1 = .nop := by
  intro pc h
  unfold kt_Tape_next
  split <;> first | rfl | omega
theorem sv_51 : ∀ pc, pc < 15 → sx_okE 4 prog_7_method_15_code 2 false (some .boolean) pc (kt_Tape_refuse pc) = true := by decide +kernel
set_option maxRecDepth 100000 in
theorem sv_51_out : ∀ pc, 15 ≤ pc → (kt_Tape_refuse pc).1 = .nop := by
  intro pc h
  unfold kt_Tape_refuse
  split <;> first | rfl | omega
end
section
theorem sv_52 : ∀ pc, pc < 65 → sx_okE 5 prog_8_method_1_code 1 true (none) pc (kt_Town_init pc) = true := by decide +kernel
set_option maxRecDepth 100000 in
theorem sv_52_out : ∀ pc, 65 ≤ pc → (kt_Town_init pc).1 = .nop := by
  intro pc h
  unfold kt_Town_init
  split <;> first | rfl | omega
theorem sv_53 : ∀ pc, pc < 31 → sx_okE 5 prog_8_method_2_code 1 false (none) pc (kt_Town_clear pc) = true := by decide +kernel
set_option maxRecDepth 100000 in
theorem sv_53_out : ∀ pc, 31 ≤ pc → (kt_Town_clear pc).1 = .nop := by
  intro pc h
  unfold kt_Town_clear
  split <;> first | rfl | omega
theorem sv_54 : ∀ pc, pc < 165 → sx_okE 5 prog_8_method_3_code 2 false (none) pc (kt_Town_becomeLike pc) = true := by decide +kernel
set_option maxRecDepth 100000 in
theorem sv_54_out : ∀ pc, 165 ≤ pc → (kt_Town_becomeLike pc).1 = .nop := by
  intro pc h
  unfold kt_Town_becomeLike
  split <;> first | rfl | omega
theorem sv_55 : ∀ pc, pc < 51 → sx_okE 5 prog_8_method_4_code 4 false (none) pc (kt_Town_addHead pc) = true := by decide +kernel
set_option maxRecDepth 100000 in
theorem sv_55_out : ∀ pc, 51 ≤ pc → (kt_Town_addHead pc).1 = .nop := by
  intro pc h
  unfold kt_Town_addHead
  split <;> first | rfl | omega
theorem sv_56 : ∀ pc, pc < 46 → sx_okE 5 prog_8_method_5_code 3 false (some .int) pc (kt_Town_addOrder pc) = true := by decide +kernel
set_option maxRecDepth 100000 in
theorem sv_56_out : ∀ pc, 46 ≤ pc → (kt_Town_addOrder pc).1 = .nop := by
  intro pc h
  unfold kt_Town_addOrder
  split <;> first | rfl | omega
theorem sv_57 : ∀ pc, pc < 19 → sx_okE 5 prog_8_method_6_code 2 false (some .boolean) pc (kt_Town_hasHead pc) = true := by decide +kernel
set_option maxRecDepth 100000 in
theorem sv_57_out : ∀ pc, 19 ≤ pc → (kt_Town_hasHead pc).1 = .nop := by
  intro pc h
  unfold kt_Town_hasHead
  split <;> first | rfl | omega
theorem sv_58 : ∀ pc, pc < 19 → sx_okE 5 prog_8_method_7_code 2 false (some .boolean) pc (kt_Town_hasOrder pc) = true := by decide +kernel
set_option maxRecDepth 100000 in
theorem sv_58_out : ∀ pc, 19 ≤ pc → (kt_Town_hasOrder pc).1 = .nop := by
  intro pc h
  unfold kt_Town_hasOrder
  split <;> first | rfl | omega
theorem sv_59 : ∀ pc, pc < 33 → sx_okE 5 prog_8_method_8_code 4 false (some .int) pc (kt_Town_ordersThatAre pc) = true := by decide +kernel
set_option maxRecDepth 100000 in
theorem sv_59_out : ∀ pc, 33 ≤ pc → (kt_Town_ordersThatAre pc).1 = .nop := by
  intro pc h
  unfold kt_Town_ordersThatAre
  split <;> first | rfl | omega
theorem sv_60 : ∀ pc, pc < 11 → sx_okE 5 prog_8_method_9_code 2 false (none) pc (kt_Town_handTo pc) = true := by decide +kernel
set_option maxRecDepth 100000 in
theorem sv_60_out : ∀ pc, 11 ≤ pc → (kt_Town_handTo pc).1 = .nop := by
  intro pc h
  unfold kt_Town_handTo
  split <;> first | rfl | omega
theorem sv_61 : ∀ pc, pc < 65 → sx_okE 5 prog_8_method_10_code 2 false (some .int) pc (kt_Town_takeStep pc) = true := by decide +kernel
set_option maxRecDepth 100000 in
theorem sv_61_out : ∀ pc, 65 ≤ pc → (kt_Town_takeStep pc).1 = .nop := by
  intro pc h
  unfold kt_Town_takeStep
  split <;> first | rfl | omega
theorem sv_62 : ∀ pc, pc < 61 → sx_okE 5 prog_8_method_11_code 4 false (none) pc (kt_Town_revertStep pc) = true := by decide +kernel
set_option maxRecDepth 100000 in
theorem sv_62_out : ∀ pc, 61 ≤ pc → (kt_Town_revertStep pc).1 = .nop := by
  intro pc h
  unfold kt_Town_revertStep
  split <;> first | rfl | omega
theorem sv_63 : ∀ pc, pc < 46 → sx_okE 5 prog_8_method_12_code 2 false (some .int) pc (kt_Town_orderToWorkOn pc) = true := by decide +kernel
set_option maxRecDepth 100000 in
theorem sv_63_out : ∀ pc, 46 ≤ pc → (kt_Town_orderToWorkOn pc).1 = .nop := by
  intro pc h
  unfold kt_Town_orderToWorkOn
  split <;> first | rfl | omega
theorem sv_64 : ∀ pc, pc < 50 → sx_okE 5 prog_8_method_13_code 2 false (none) pc (kt_Town_workOn pc) = true := by decide +kernel
set_option maxRecDepth 100000 in
theorem sv_64_out : ∀ pc, 50 ≤ pc → (kt_Town_workOn pc).1 = .nop := by
  intro pc h
  unfold kt_Town_workOn
  split <;> first | rfl | omega
theorem sv_65 : ∀ pc, pc < 35 → sx_okE 5 prog_8_method_14_code 2 false (some .int) pc (kt_Town_patience pc) = true := by decide +kernel
set_option maxRecDepth 100000 in
theorem sv_65_out : ∀ pc, 35 ≤ pc → (kt_Town_patience pc).1 = .nop := by
  intro pc h
  unfold kt_Town_patience
  split <;> first | rfl | omega
theorem sv_66 : ∀ pc, pc < 55 → sx_okE 5 prog_8_method_15_code 1 false (some .int) pc (kt_Town_stride pc) = true := by decide +kernel
set_option maxRecDepth 100000 in
theorem sv_66_out : ∀ pc, 55 ≤ pc → (kt_Town_stride pc).1 = .nop := by
  intro pc h
  unfold kt_Town_stride
  split <;> first | rfl | omega
theorem sv_67 : ∀ pc, pc < 20 → sx_okE 5 prog_8_method_16_code 2 false (some .int) pc (kt_Town_seat pc) = true := by decide +kernel
set_option maxRecDepth 100000 in
theorem sv_67_out : ∀ pc, 20 ≤ pc → (kt_Town_seat pc).1 = .nop := by
  intro pc h
  unfold kt_Town_seat
  split <;> first | rfl | omega
theorem sv_68 : ∀ pc, pc < 162 → sx_okE 6 prog_1_method_1_code 2 true (none) pc (kt_X_init pc) = true := by decide +kernel
set_option maxRecDepth 100000 in
theorem sv_68_out : ∀ pc, 162 ≤ pc → (kt_X_init pc).1 = .nop := by
  intro pc h
  unfold kt_X_init
  split <;> first | rfl | omega
theorem sv_69 : ∀ pc, pc < 52 → sx_okE 6 prog_1_method_2_code 4 false (some .int) pc (kt_X_row pc) = true := by decide +kernel
set_option maxRecDepth 100000 in
theorem sv_69_out : ∀ pc, 52 ≤ pc → (kt_X_row pc).1 = .nop := by
  intro pc h
  unfold kt_X_row
  split <;> first | rfl | omega
theorem sv_70 : ∀ pc, pc < 47 → sx_okE 6 prog_1_method_3_code 5 false (some .int) pc (kt_X_set pc) = true := by decide +kernel
set_option maxRecDepth 100000 in
theorem sv_70_out : ∀ pc, 47 ≤ pc → (kt_X_set pc).1 = .nop := by
  intro pc h
  unfold kt_X_set
  split <;> first | rfl | omega
theorem sv_71 : ∀ pc, pc < 128 → sx_okE 6 prog_1_method_4_code 8 false (some .int) pc (kt_X_copy pc) = true := by decide +kernel
set_option maxRecDepth 100000 in
theorem sv_71_out : ∀ pc, 128 ≤ pc → (kt_X_copy pc).1 = .nop := by
  intro pc h
  unfold kt_X_copy
  split <;> first | rfl | omega
theorem sv_72 : ∀ pc, pc < 42 → sx_okE 6 prog_1_method_5_code 2 false (some .int) pc (kt_X_drop pc) = true := by decide +kernel
set_option maxRecDepth 100000 in
theorem sv_72_out : ∀ pc, 42 ≤ pc → (kt_X_drop pc).1 = .nop := by
  intro pc h
  unfold kt_X_drop
  split <;> first | rfl | omega
theorem sv_73 : ∀ pc, pc < 36 → sx_okE 6 prog_1_method_6_code 2 false (some .int) pc (kt_X_feed pc) = true := by decide +kernel
set_option maxRecDepth 100000 in
theorem sv_73_out : ∀ pc, 36 ≤ pc → (kt_X_feed pc).1 = .nop := by
  intro pc h
  unfold kt_X_feed
  split <;> first | rfl | omega
theorem sv_74 : ∀ pc, pc < 71 → sx_okE 6 prog_1_method_7_code 2 false (some .int) pc (kt_X_town pc) = true := by decide +kernel
set_option maxRecDepth 100000 in
theorem sv_74_out : ∀ pc, 71 ≤ pc → (kt_X_town pc).1 = .nop := by
  intro pc h
  unfold kt_X_town
  split <;> first | rfl | omega
theorem sv_75 : ∀ pc, pc < 5 → sx_okE 6 prog_1_method_8_code 1 false (some .int) pc (kt_X_fault pc) = true := by decide +kernel
set_option maxRecDepth 100000 in
theorem sv_75_out : ∀ pc, 5 ≤ pc → (kt_X_fault pc).1 = .nop := by
  intro pc h
  unfold kt_X_fault
  split <;> first | rfl | omega
theorem sv_76 : ∀ pc, pc < 97 → sx_okE 6 prog_1_method_9_code 5 false (some .int) pc (kt_X_steps pc) = true := by decide +kernel
set_option maxRecDepth 100000 in
theorem sv_76_out : ∀ pc, 97 ≤ pc → (kt_X_steps pc).1 = .nop := by
  intro pc h
  unfold kt_X_steps
  split <;> first | rfl | omega
theorem sv_77 : ∀ pc, pc < 63 → sx_okE 6 prog_1_method_10_code 3 false (some .int) pc (kt_X_wind pc) = true := by decide +kernel
set_option maxRecDepth 100000 in
theorem sv_77_out : ∀ pc, 63 ≤ pc → (kt_X_wind pc).1 = .nop := by
  intro pc h
  unfold kt_X_wind
  split <;> first | rfl | omega
theorem sv_78 : ∀ pc, pc < 49 → sx_okE 6 prog_1_method_11_code 3 false (some .int) pc (kt_X_give pc) = true := by decide +kernel
set_option maxRecDepth 100000 in
theorem sv_78_out : ∀ pc, 49 ≤ pc → (kt_X_give pc).1 = .nop := by
  intro pc h
  unfold kt_X_give
  split <;> first | rfl | omega
theorem sv_79 : ∀ pc, pc < 71 → sx_okE 6 prog_1_method_12_code 3 false (some .int) pc (kt_X_order pc) = true := by decide +kernel
set_option maxRecDepth 100000 in
theorem sv_79_out : ∀ pc, 71 ≤ pc → (kt_X_order pc).1 = .nop := by
  intro pc h
  unfold kt_X_order
  split <;> first | rfl | omega
theorem sv_80 : ∀ pc, pc < 72 → sx_okE 6 prog_1_method_13_code 2 false (some .int) pc (kt_X_back pc) = true := by decide +kernel
set_option maxRecDepth 100000 in
theorem sv_80_out : ∀ pc, 72 ≤ pc → (kt_X_back pc).1 = .nop := by
  intro pc h
  unfold kt_X_back
  split <;> first | rfl | omega
theorem sv_81 : ∀ pc, pc < 32 → sx_okE 6 prog_1_method_14_code 1 false (some .int) pc (kt_X_undo pc) = true := by decide +kernel
set_option maxRecDepth 100000 in
theorem sv_81_out : ∀ pc, 32 ≤ pc → (kt_X_undo pc).1 = .nop := by
  intro pc h
  unfold kt_X_undo
  split <;> first | rfl | omega
theorem sv_82 : ∀ pc, pc < 94 → sx_okE 6 prog_1_method_15_code 3 false (some .int) pc (kt_X_head pc) = true := by decide +kernel
set_option maxRecDepth 100000 in
theorem sv_82_out : ∀ pc, 94 ≤ pc → (kt_X_head pc).1 = .nop := by
  intro pc h
  unfold kt_X_head
  split <;> first | rfl | omega
theorem sv_83 : ∀ pc, pc < 73 → sx_okE 6 prog_1_method_16_code 3 false (some .int) pc (kt_X_orderHas pc) = true := by decide +kernel
set_option maxRecDepth 100000 in
theorem sv_83_out : ∀ pc, 73 ≤ pc → (kt_X_orderHas pc).1 = .nop := by
  intro pc h
  unfold kt_X_orderHas
  split <;> first | rfl | omega
theorem sv_84 : ∀ pc, pc < 75 → sx_okE 6 prog_1_method_17_code 2 false (some .int) pc (kt_X_hat pc) = true := by decide +kernel
set_option maxRecDepth 100000 in
theorem sv_84_out : ∀ pc, 75 ≤ pc → (kt_X_hat pc).1 = .nop := by
  intro pc h
  unfold kt_X_hat
  split <;> first | rfl | omega
theorem sv_85 : ∀ pc, pc < 31 → sx_okE 6 prog_1_method_18_code 2 false (some .int) pc (kt_X_who pc) = true := by decide +kernel
set_option maxRecDepth 100000 in
theorem sv_85_out : ∀ pc, 31 ≤ pc → (kt_X_who pc).1 = .nop := by
  intro pc h
  unfold kt_X_who
  split <;> first | rfl | omega
theorem sv_86 : ∀ pc, pc < 25 → sx_okE 6 prog_1_method_19_code 2 false (some .int) pc (kt_X_gets pc) = true := by decide +kernel
set_option maxRecDepth 100000 in
theorem sv_86_out : ∀ pc, 25 ≤ pc → (kt_X_gets pc).1 = .nop := by
  intro pc h
  unfold kt_X_gets
  split <;> first | rfl | omega
theorem sv_87 : ∀ pc, pc < 31 → sx_okE 6 prog_1_method_20_code 2 false (some .int) pc (kt_X_ever pc) = true := by decide +kernel
set_option maxRecDepth 100000 in
theorem sv_87_out : ∀ pc, 31 ≤ pc → (kt_X_ever pc).1 = .nop := by
  intro pc h
  unfold kt_X_ever
  split <;> first | rfl | omega
theorem sv_88 : ∀ pc, pc < 33 → sx_okE 6 prog_1_method_21_code 2 false (some .int) pc (kt_X_round pc) = true := by decide +kernel
set_option maxRecDepth 100000 in
theorem sv_88_out : ∀ pc, 33 ≤ pc → (kt_X_round pc).1 = .nop := by
  intro pc h
  unfold kt_X_round
  split <;> first | rfl | omega
theorem sv_89 : ∀ pc, pc < 25 → sx_okE 6 prog_1_method_22_code 2 false (some .int) pc (kt_X_done pc) = true := by decide +kernel
set_option maxRecDepth 100000 in
theorem sv_89_out : ∀ pc, 25 ≤ pc → (kt_X_done pc).1 = .nop := by
  intro pc h
  unfold kt_X_done
  split <;> first | rfl | omega
theorem sv_90 : ∀ pc, pc < 20 → sx_okE 6 prog_1_method_23_code 1 false (some .int) pc (kt_X_first pc) = true := by decide +kernel
set_option maxRecDepth 100000 in
theorem sv_90_out : ∀ pc, 20 ≤ pc → (kt_X_first pc).1 = .nop := by
  intro pc h
  unfold kt_X_first
  split <;> first | rfl | omega
theorem sv_91 : ∀ pc, pc < 31 → sx_okE 6 prog_1_method_24_code 3 false (some .int) pc (kt_X_by pc) = true := by decide +kernel
set_option maxRecDepth 100000 in
theorem sv_91_out : ∀ pc, 31 ≤ pc → (kt_X_by pc).1 = .nop := by
  intro pc h
  unfold kt_X_by
  split <;> first | rfl | omega
theorem sv_92 : ∀ pc, pc < 48 → sx_okE 6 prog_1_method_25_code 3 false (some .int) pc (kt_X_toGive pc) = true := by decide +kernel
set_option maxRecDepth 100000 in
theorem sv_92_out : ∀ pc, 48 ≤ pc → (kt_X_toGive pc).1 = .nop := by
  intro pc h
  unfold kt_X_toGive
  split <;> first | rfl | omega
theorem sv_93 : ∀ pc, pc < 31 → sx_okE 6 prog_1_method_26_code 3 false (some .int) pc (kt_X_winds pc) = true := by decide +kernel
set_option maxRecDepth 100000 in
theorem sv_93_out : ∀ pc, 31 ≤ pc → (kt_X_winds pc).1 = .nop := by
  intro pc h
  unfold kt_X_winds
  split <;> first | rfl | omega
theorem sv_94 : ∀ pc, pc < 74 → sx_okE 6 prog_1_method_27_code 6 false (some .int) pc (kt_X_lot pc) = true := by decide +kernel
set_option maxRecDepth 100000 in
theorem sv_94_out : ∀ pc, 74 ≤ pc → (kt_X_lot pc).1 = .nop := by
  intro pc h
  unfold kt_X_lot
  split <;> first | rfl | omega
theorem sv_95 : ∀ pc, pc < 83 → sx_okE 6 prog_1_method_28_code 6 false (some .int) pc (kt_X_seen pc) = true := by decide +kernel
set_option maxRecDepth 100000 in
theorem sv_95_out : ∀ pc, 83 ≤ pc → (kt_X_seen pc).1 = .nop := by
  intro pc h
  unfold kt_X_seen
  split <;> first | rfl | omega
theorem sv_96 : ∀ pc, pc < 76 → sx_okE 6 prog_1_method_29_code 6 false (some .int) pc (kt_X_keeps pc) = true := by decide +kernel
set_option maxRecDepth 100000 in
theorem sv_96_out : ∀ pc, 76 ≤ pc → (kt_X_keeps pc).1 = .nop := by
  intro pc h
  unfold kt_X_keeps
  split <;> first | rfl | omega
theorem sv_97 : ∀ pc, pc < 42 → sx_okE 6 prog_1_method_30_code 2 false (some .int) pc (kt_X_image pc) = true := by decide +kernel
set_option maxRecDepth 100000 in
theorem sv_97_out : ∀ pc, 42 ≤ pc → (kt_X_image pc).1 = .nop := by
  intro pc h
  unfold kt_X_image
  split <;> first | rfl | omega
theorem sv_98 : ∀ pc, pc < 44 → sx_okE 6 prog_1_method_31_code 2 false (some .int) pc (kt_X_restore pc) = true := by decide +kernel
set_option maxRecDepth 100000 in
theorem sv_98_out : ∀ pc, 44 ≤ pc → (kt_X_restore pc).1 = .nop := by
  intro pc h
  unfold kt_X_restore
  split <;> first | rfl | omega
theorem sv_99 : ∀ pc, pc < 26 → sx_okE 6 prog_1_method_32_code 2 false (some .int) pc (kt_X_kind pc) = true := by decide +kernel
set_option maxRecDepth 100000 in
theorem sv_99_out : ∀ pc, 26 ≤ pc → (kt_X_kind pc).1 = .nop := by
  intro pc h
  unfold kt_X_kind
  split <;> first | rfl | omega
theorem sv_100 : ∀ pc, pc < 51 → sx_okE 6 prog_1_method_33_code 3 false (some .int) pc (kt_X_as pc) = true := by decide +kernel
set_option maxRecDepth 100000 in
theorem sv_100_out : ∀ pc, 51 ≤ pc → (kt_X_as pc).1 = .nop := by
  intro pc h
  unfold kt_X_as
  split <;> first | rfl | omega
theorem sv_101 : ∀ pc, pc < 37 → sx_okE 6 prog_1_method_34_code 3 false (some .int) pc (kt_X_ask pc) = true := by decide +kernel
set_option maxRecDepth 100000 in
theorem sv_101_out : ∀ pc, 37 ≤ pc → (kt_X_ask pc).1 = .nop := by
  intro pc h
  unfold kt_X_ask
  split <;> first | rfl | omega
theorem sv_102 : ∀ pc, pc < 9 → sx_okE 6 prog_1_method_35_code 2 false (some .int) pc (kt_X_trace pc) = true := by decide +kernel
set_option maxRecDepth 100000 in
theorem sv_102_out : ∀ pc, 9 ≤ pc → (kt_X_trace pc).1 = .nop := by
  intro pc h
  unfold kt_X_trace
  split <;> first | rfl | omega
theorem sv_103 : ∀ pc, pc < 114 → sx_okE 6 prog_1_method_36_code 2 false (some .int) pc (kt_X_count pc) = true := by decide +kernel
set_option maxRecDepth 100000 in
theorem sv_103_out : ∀ pc, 114 ≤ pc → (kt_X_count pc).1 = .nop := by
  intro pc h
  unfold kt_X_count
  split <;> first | rfl | omega
end
section
theorem sv_104 : ∀ pc, pc < 5 → sx_okE 6 prog_1_method_37_code 1 false (some .int) pc (kt_X_status pc) = true := by decide +kernel
set_option maxRecDepth 100000 in
theorem sv_104_out : ∀ pc, 5 ≤ pc → (kt_X_status pc).1 = .nop := by
  intro pc h
  unfold kt_X_status
  split <;> first | rfl | omega
theorem sv_105 : ∀ pc, pc < 11 → sx_okE 6 prog_1_method_38_code 2 false (some .int) pc (kt_X_finding pc) = true := by decide +kernel
set_option maxRecDepth 100000 in
theorem sv_105_out : ∀ pc, 11 ≤ pc → (kt_X_finding pc).1 = .nop := by
  intro pc h
  unfold kt_X_finding
  split <;> first | rfl | omega
theorem sv_106 : ∀ pc, pc < 7 → sx_okE 6 prog_1_method_39_code 2 false (some .int) pc (kt_X_noFinding pc) = true := by decide +kernel
set_option maxRecDepth 100000 in
theorem sv_106_out : ∀ pc, 7 ≤ pc → (kt_X_noFinding pc).1 = .nop := by
  intro pc h
  unfold kt_X_noFinding
  split <;> first | rfl | omega
theorem sv_107 : ∀ pc, pc < 34 → sx_okE 6 prog_1_method_40_code 4 false (some .int) pc (kt_X_findingOf pc) = true := by decide +kernel
set_option maxRecDepth 100000 in
theorem sv_107_out : ∀ pc, 34 ≤ pc → (kt_X_findingOf pc).1 = .nop := by
  intro pc h
  unfold kt_X_findingOf
  split <;> first | rfl | omega
theorem sv_108 : ∀ pc, pc < 33 → sx_okE 6 prog_1_method_41_code 3 false (some .int) pc (kt_X_rowsThere pc) = true := by decide +kernel
set_option maxRecDepth 100000 in
theorem sv_108_out : ∀ pc, 33 ≤ pc → (kt_X_rowsThere pc).1 = .nop := by
  intro pc h
  unfold kt_X_rowsThere
  split <;> first | rfl | omega
theorem sv_109 : ∀ pc, pc < 16 → sx_okE 6 prog_1_method_42_code 1 false (some .boolean) pc (kt_X_isNoTown pc) = true := by decide +kernel
set_option maxRecDepth 100000 in
theorem sv_109_out : ∀ pc, 16 ≤ pc → (kt_X_isNoTown pc).1 = .nop := by
  intro pc h
  unfold kt_X_isNoTown
  split <;> first | rfl | omega
theorem sv_110 : ∀ pc, pc < 8 → sx_okE 6 prog_1_method_43_code 1 false (some .boolean) pc (kt_X_isRow pc) = true := by decide +kernel
set_option maxRecDepth 100000 in
theorem sv_110_out : ∀ pc, 8 ≤ pc → (kt_X_isRow pc).1 = .nop := by
  intro pc h
  unfold kt_X_isRow
  split <;> first | rfl | omega
theorem sv_111 : ∀ pc, pc < 7 → sx_okE 6 prog_1_method_44_code 1 false (some .boolean) pc (kt_X_isImage pc) = true := by decide +kernel
set_option maxRecDepth 100000 in
theorem sv_111_out : ∀ pc, 7 ≤ pc → (kt_X_isImage pc).1 = .nop := by
  intro pc h
  unfold kt_X_isImage
  split <;> first | rfl | omega
theorem sv_112 : ∀ pc, pc < 8 → sx_okE 6 prog_1_method_45_code 1 false (some .boolean) pc (kt_X_isSpan pc) = true := by decide +kernel
set_option maxRecDepth 100000 in
theorem sv_112_out : ∀ pc, 8 ≤ pc → (kt_X_isSpan pc).1 = .nop := by
  intro pc h
  unfold kt_X_isSpan
  split <;> first | rfl | omega
theorem sv_113 : ∀ pc, pc < 16 → sx_okE 6 prog_1_method_46_code 3 false (some .boolean) pc (kt_X_isBetween pc) = true := by decide +kernel
set_option maxRecDepth 100000 in
theorem sv_113_out : ∀ pc, 16 ≤ pc → (kt_X_isBetween pc).1 = .nop := by
  intro pc h
  unfold kt_X_isBetween
  split <;> first | rfl | omega
theorem sv_114 : ∀ pc, pc < 31 → sx_okE 6 prog_1_method_47_code 4 false (some .int) pc (kt_X_inLowestTerms pc) = true := by decide +kernel
set_option maxRecDepth 100000 in
theorem sv_114_out : ∀ pc, 31 ≤ pc → (kt_X_inLowestTerms pc).1 = .nop := by
  intro pc h
  unfold kt_X_inLowestTerms
  split <;> first | rfl | omega
theorem sv_115 : ∀ pc, pc < 132 → sx_okE 7 prog_10_method_1_code 2 true (none) pc (kt_M_init pc) = true := by decide +kernel
set_option maxRecDepth 100000 in
theorem sv_115_out : ∀ pc, 132 ≤ pc → (kt_M_init pc).1 = .nop := by
  intro pc h
  unfold kt_M_init
  split <;> first | rfl | omega
theorem sv_116 : ∀ pc, pc < 19 → sx_okE 7 prog_10_method_2_code 6 false (some .boolean) pc (kt_M_in pc) = true := by decide +kernel
set_option maxRecDepth 100000 in
theorem sv_116_out : ∀ pc, 19 ≤ pc → (kt_M_in pc).1 = .nop := by
  intro pc h
  unfold kt_M_in
  split <;> first | rfl | omega
theorem sv_117 : ∀ pc, pc < 15 → sx_okE 7 prog_10_method_3_code 2 false (some .boolean) pc (kt_M_has pc) = true := by decide +kernel
set_option maxRecDepth 100000 in
theorem sv_117_out : ∀ pc, 15 ≤ pc → (kt_M_has pc).1 = .nop := by
  intro pc h
  unfold kt_M_has
  split <;> first | rfl | omega
theorem sv_118 : ∀ pc, pc < 10 → sx_okE 7 prog_10_method_4_code 2 false (some .int) pc (kt_M_find pc) = true := by decide +kernel
set_option maxRecDepth 100000 in
theorem sv_118_out : ∀ pc, 10 ≤ pc → (kt_M_find pc).1 = .nop := by
  intro pc h
  unfold kt_M_find
  split <;> first | rfl | omega
theorem sv_119 : ∀ pc, pc < 7 → sx_okE 7 prog_10_method_5_code 2 false (some .int) pc (kt_M_well pc) = true := by decide +kernel
set_option maxRecDepth 100000 in
theorem sv_119_out : ∀ pc, 7 ≤ pc → (kt_M_well pc).1 = .nop := by
  intro pc h
  unfold kt_M_well
  split <;> first | rfl | omega
theorem sv_120 : ∀ pc, pc < 10 → sx_okE 7 prog_10_method_6_code 1 false (some .boolean) pc (kt_M_isRow pc) = true := by decide +kernel
set_option maxRecDepth 100000 in
theorem sv_120_out : ∀ pc, 10 ≤ pc → (kt_M_isRow pc).1 = .nop := by
  intro pc h
  unfold kt_M_isRow
  split <;> first | rfl | omega
theorem sv_121 : ∀ pc, pc < 87 → sx_okE 7 prog_10_method_7_code 5 false (some .int) pc (kt_M_row pc) = true := by decide +kernel
set_option maxRecDepth 100000 in
theorem sv_121_out : ∀ pc, 87 ≤ pc → (kt_M_row pc).1 = .nop := by
  intro pc h
  unfold kt_M_row
  split <;> first | rfl | omega
theorem sv_122 : ∀ pc, pc < 31 → sx_okE 7 prog_10_method_8_code 2 false (some .int) pc (kt_M_asLane pc) = true := by decide +kernel
set_option maxRecDepth 100000 in
theorem sv_122_out : ∀ pc, 31 ≤ pc → (kt_M_asLane pc).1 = .nop := by
  intro pc h
  unfold kt_M_asLane
  split <;> first | rfl | omega
theorem sv_123 : ∀ pc, pc < 86 → sx_okE 7 prog_10_method_9_code 4 false (some .int) pc (kt_M_set pc) = true := by decide +kernel
set_option maxRecDepth 100000 in
theorem sv_123_out : ∀ pc, 86 ≤ pc → (kt_M_set pc).1 = .nop := by
  intro pc h
  unfold kt_M_set
  split <;> first | rfl | omega
theorem sv_124 : ∀ pc, pc < 196 → sx_okE 7 prog_10_method_10_code 7 false (some .int) pc (kt_M_copy pc) = true := by decide +kernel
set_option maxRecDepth 100000 in
theorem sv_124_out : ∀ pc, 196 ≤ pc → (kt_M_copy pc).1 = .nop := by
  intro pc h
  unfold kt_M_copy
  split <;> first | rfl | omega
theorem sv_125 : ∀ pc, pc < 45 → sx_okE 7 prog_10_method_11_code 3 false (some .int) pc (kt_M_drop pc) = true := by decide +kernel
set_option maxRecDepth 100000 in
theorem sv_125_out : ∀ pc, 45 ≤ pc → (kt_M_drop pc).1 = .nop := by
  intro pc h
  unfold kt_M_drop
  split <;> first | rfl | omega
theorem sv_126 : ∀ pc, pc < 52 → sx_okE 7 prog_10_method_12_code 2 false (some .int) pc (kt_M_feed pc) = true := by decide +kernel
set_option maxRecDepth 100000 in
theorem sv_126_out : ∀ pc, 52 ≤ pc → (kt_M_feed pc).1 = .nop := by
  intro pc h
  unfold kt_M_feed
  split <;> first | rfl | omega
theorem sv_127 : ∀ pc, pc < 230 → sx_okE 7 prog_10_method_13_code 1 false (none) pc (kt_M_nextToken pc) = true := by decide +kernel
set_option maxRecDepth 100000 in
theorem sv_127_out : ∀ pc, 230 ≤ pc → (kt_M_nextToken pc).1 = .nop := by
  intro pc h
  unfold kt_M_nextToken
  split <;> first | rfl | omega
theorem sv_128 : ∀ pc, pc < 7 → sx_okE 7 prog_10_method_14_code 2 false (some .boolean) pc (kt_M_faults pc) = true := by decide +kernel
set_option maxRecDepth 100000 in
theorem sv_128_out : ∀ pc, 7 ≤ pc → (kt_M_faults pc).1 = .nop := by
  intro pc h
  unfold kt_M_faults
  split <;> first | rfl | omega
theorem sv_129 : ∀ pc, pc < 22 → sx_okE 7 prog_10_method_15_code 2 false (some .boolean) pc (kt_M_isLetter pc) = true := by decide +kernel
set_option maxRecDepth 100000 in
theorem sv_129_out : ∀ pc, 22 ≤ pc → (kt_M_isLetter pc).1 = .nop := by
  intro pc h
  unfold kt_M_isLetter
  split <;> first | rfl | omega
theorem sv_130 : ∀ pc, pc < 20 → sx_okE 7 prog_10_method_16_code 2 false (some .boolean) pc (kt_M_takes pc) = true := by decide +kernel
set_option maxRecDepth 100000 in
theorem sv_130_out : ∀ pc, 20 ≤ pc → (kt_M_takes pc).1 = .nop := by
  intro pc h
  unfold kt_M_takes
  split <;> first | rfl | omega
theorem sv_131 : ∀ pc, pc < 62 → sx_okE 7 prog_10_method_17_code 5 false (some .boolean) pc (kt_M_takesNumber pc) = true := by decide +kernel
set_option maxRecDepth 100000 in
theorem sv_131_out : ∀ pc, 62 ≤ pc → (kt_M_takesNumber pc).1 = .nop := by
  intro pc h
  unfold kt_M_takesNumber
  split <;> first | rfl | omega
theorem sv_132 : ∀ pc, pc < 103 → sx_okE 7 prog_10_method_18_code 3 false (some .boolean) pc (kt_M_readHead pc) = true := by decide +kernel
set_option maxRecDepth 100000 in
theorem sv_132_out : ∀ pc, 103 ≤ pc → (kt_M_readHead pc).1 = .nop := by
  intro pc h
  unfold kt_M_readHead
  split <;> first | rfl | omega
theorem sv_133 : ∀ pc, pc < 66 → sx_okE 7 prog_10_method_19_code 3 false (some .boolean) pc (kt_M_readOrder pc) = true := by decide +kernel
set_option maxRecDepth 100000 in
theorem sv_133_out : ∀ pc, 66 ≤ pc → (kt_M_readOrder pc).1 = .nop := by
  intro pc h
  unfold kt_M_readOrder
  split <;> first | rfl | omega
theorem sv_134 : ∀ pc, pc < 191 → sx_okE 7 prog_10_method_20_code 3 false (some .boolean) pc (kt_M_readTown pc) = true := by decide +kernel
set_option maxRecDepth 100000 in
theorem sv_134_out : ∀ pc, 191 ≤ pc → (kt_M_readTown pc).1 = .nop := by
  intro pc h
  unfold kt_M_readTown
  split <;> first | rfl | omega
theorem sv_135 : ∀ pc, pc < 73 → sx_okE 7 prog_10_method_21_code 3 false (some .int) pc (kt_M_town pc) = true := by decide +kernel
set_option maxRecDepth 100000 in
theorem sv_135_out : ∀ pc, 73 ≤ pc → (kt_M_town pc).1 = .nop := by
  intro pc h
  unfold kt_M_town
  split <;> first | rfl | omega
theorem sv_136 : ∀ pc, pc < 5 → sx_okE 7 prog_10_method_22_code 1 false (some .int) pc (kt_M_fault pc) = true := by decide +kernel
set_option maxRecDepth 100000 in
theorem sv_136_out : ∀ pc, 5 ≤ pc → (kt_M_fault pc).1 = .nop := by
  intro pc h
  unfold kt_M_fault
  split <;> first | rfl | omega
theorem sv_137 : ∀ pc, pc < 16 → sx_okE 7 prog_10_method_23_code 2 false (some .boolean) pc (kt_M_isHead pc) = true := by decide +kernel
set_option maxRecDepth 100000 in
theorem sv_137_out : ∀ pc, 16 ≤ pc → (kt_M_isHead pc).1 = .nop := by
  intro pc h
  unfold kt_M_isHead
  split <;> first | rfl | omega
theorem sv_138 : ∀ pc, pc < 16 → sx_okE 7 prog_10_method_24_code 2 false (some .boolean) pc (kt_M_isOrder pc) = true := by decide +kernel
set_option maxRecDepth 100000 in
theorem sv_138_out : ∀ pc, 16 ≤ pc → (kt_M_isOrder pc).1 = .nop := by
  intro pc h
  unfold kt_M_isOrder
  split <;> first | rfl | omega
theorem sv_139 : ∀ pc, pc < 42 → sx_okE 7 prog_10_method_25_code 3 false (some .int) pc (kt_M_outMany pc) = true := by decide +kernel
set_option maxRecDepth 100000 in
theorem sv_139_out : ∀ pc, 42 ≤ pc → (kt_M_outMany pc).1 = .nop := by
  intro pc h
  unfold kt_M_outMany
  split <;> first | rfl | omega
theorem sv_140 : ∀ pc, pc < 125 → sx_okE 7 prog_10_method_26_code 4 false (none) pc (kt_M_work pc) = true := by decide +kernel
set_option maxRecDepth 100000 in
theorem sv_140_out : ∀ pc, 125 ≤ pc → (kt_M_work pc).1 = .nop := by
  intro pc h
  unfold kt_M_work
  split <;> first | rfl | omega
theorem sv_141 : ∀ pc, pc < 147 → sx_okE 7 prog_10_method_27_code 4 false (none) pc (kt_M_oneStep pc) = true := by decide +kernel
set_option maxRecDepth 100000 in
theorem sv_141_out : ∀ pc, 147 ≤ pc → (kt_M_oneStep pc).1 = .nop := by
  intro pc h
  unfold kt_M_oneStep
  split <;> first | rfl | omega
theorem sv_142 : ∀ pc, pc < 94 → sx_okE 7 prog_10_method_28_code 2 false (none) pc (kt_M_note pc) = true := by decide +kernel
set_option maxRecDepth 100000 in
theorem sv_142_out : ∀ pc, 94 ≤ pc → (kt_M_note pc).1 = .nop := by
  intro pc h
  unfold kt_M_note
  split <;> first | rfl | omega
theorem sv_143 : ∀ pc, pc < 70 → sx_okE 7 prog_10_method_29_code 3 false (some .int) pc (kt_M_steps pc) = true := by decide +kernel
set_option maxRecDepth 100000 in
theorem sv_143_out : ∀ pc, 70 ≤ pc → (kt_M_steps pc).1 = .nop := by
  intro pc h
  unfold kt_M_steps
  split <;> first | rfl | omega
theorem sv_144 : ∀ pc, pc < 45 → sx_okE 7 prog_10_method_30_code 3 false (some .int) pc (kt_M_wind pc) = true := by decide +kernel
set_option maxRecDepth 100000 in
theorem sv_144_out : ∀ pc, 45 ≤ pc → (kt_M_wind pc).1 = .nop := by
  intro pc h
  unfold kt_M_wind
  split <;> first | rfl | omega
theorem sv_145 : ∀ pc, pc < 15 → sx_okE 7 prog_10_method_31_code 2 false (none) pc (kt_M_giveTo pc) = true := by decide +kernel
set_option maxRecDepth 100000 in
theorem sv_145_out : ∀ pc, 15 ≤ pc → (kt_M_giveTo pc).1 = .nop := by
  intro pc h
  unfold kt_M_giveTo
  split <;> first | rfl | omega
theorem sv_146 : ∀ pc, pc < 29 → sx_okE 7 prog_10_method_32_code 3 false (some .int) pc (kt_M_give pc) = true := by decide +kernel
set_option maxRecDepth 100000 in
theorem sv_146_out : ∀ pc, 29 ≤ pc → (kt_M_give pc).1 = .nop := by
  intro pc h
  unfold kt_M_give
  split <;> first | rfl | omega
theorem sv_147 : ∀ pc, pc < 101 → sx_okE 7 prog_10_method_33_code 3 false (some .int) pc (kt_M_order pc) = true := by decide +kernel
set_option maxRecDepth 100000 in
theorem sv_147_out : ∀ pc, 101 ≤ pc → (kt_M_order pc).1 = .nop := by
  intro pc h
  unfold kt_M_order
  split <;> first | rfl | omega
theorem sv_148 : ∀ pc, pc < 50 → sx_okE 7 prog_10_method_34_code 2 false (some .int) pc (kt_M_back pc) = true := by decide +kernel
set_option maxRecDepth 100000 in
theorem sv_148_out : ∀ pc, 50 ≤ pc → (kt_M_back pc).1 = .nop := by
  intro pc h
  unfold kt_M_back
  split <;> first | rfl | omega
theorem sv_149 : ∀ pc, pc < 59 → sx_okE 7 prog_10_method_35_code 2 false (some .int) pc (kt_M_undo pc) = true := by decide +kernel
set_option maxRecDepth 100000 in
theorem sv_149_out : ∀ pc, 59 ≤ pc → (kt_M_undo pc).1 = .nop := by
  intro pc h
  unfold kt_M_undo
  split <;> first | rfl | omega
theorem sv_150 : ∀ pc, pc < 93 → sx_okE 7 prog_10_method_36_code 3 false (some .int) pc (kt_M_head pc) = true := by decide +kernel
set_option maxRecDepth 100000 in
theorem sv_150_out : ∀ pc, 93 ≤ pc → (kt_M_head pc).1 = .nop := by
  intro pc h
  unfold kt_M_head
  split <;> first | rfl | omega
theorem sv_151 : ∀ pc, pc < 66 → sx_okE 7 prog_10_method_37_code 3 false (some .int) pc (kt_M_orderHas pc) = true := by decide +kernel
set_option maxRecDepth 100000 in
theorem sv_151_out : ∀ pc, 66 ≤ pc → (kt_M_orderHas pc).1 = .nop := by
  intro pc h
  unfold kt_M_orderHas
  split <;> first | rfl | omega
theorem sv_152 : ∀ pc, pc < 71 → sx_okE 7 prog_10_method_38_code 2 false (some .int) pc (kt_M_hat pc) = true := by decide +kernel
set_option maxRecDepth 100000 in
theorem sv_152_out : ∀ pc, 71 ≤ pc → (kt_M_hat pc).1 = .nop := by
  intro pc h
  unfold kt_M_hat
  split <;> first | rfl | omega
theorem sv_153 : ∀ pc, pc < 27 → sx_okE 7 prog_10_method_39_code 2 false (none) pc (kt_M_putAside pc) = true := by decide +kernel
set_option maxRecDepth 100000 in
theorem sv_153_out : ∀ pc, 27 ≤ pc → (kt_M_putAside pc).1 = .nop := by
  intro pc h
  unfold kt_M_putAside
  split <;> first | rfl | omega
theorem sv_154 : ∀ pc, pc < 27 → sx_okE 7 prog_10_method_40_code 2 false (none) pc (kt_M_takeBack pc) = true := by decide +kernel
set_option maxRecDepth 100000 in
theorem sv_154_out : ∀ pc, 27 ≤ pc → (kt_M_takeBack pc).1 = .nop := by
  intro pc h
  unfold kt_M_takeBack
  split <;> first | rfl | omega
theorem sv_155 : ∀ pc, pc < 18 → sx_okE 7 prog_10_method_41_code 3 false (none) pc (kt_M_goOn pc) = true := by decide +kernel
set_option maxRecDepth 100000 in
theorem sv_155_out : ∀ pc, 18 ≤ pc → (kt_M_goOn pc).1 = .nop := by
  intro pc h
  unfold kt_M_goOn
  split <;> first | rfl | omega
end
section
theorem sv_156 : ∀ pc, pc < 10 → sx_okE 7 prog_10_method_42_code 1 false (some .boolean) pc (kt_M_isFar pc) = true := by decide +kernel
set_option maxRecDepth 100000 in
theorem sv_156_out : ∀ pc, 10 ≤ pc → (kt_M_isFar pc).1 = .nop := by
  intro pc h
  unfold kt_M_isFar
  split <;> first | rfl | omega
theorem sv_157 : ∀ pc, pc < 42 → sx_okE 7 prog_10_method_43_code 3 false (some .int) pc (kt_M_who pc) = true := by decide +kernel
set_option maxRecDepth 100000 in
theorem sv_157_out : ∀ pc, 42 ≤ pc → (kt_M_who pc).1 = .nop := by
  intro pc h
  unfold kt_M_who
  split <;> first | rfl | omega
theorem sv_158 : ∀ pc, pc < 74 → sx_okE 7 prog_10_method_44_code 4 false (some .int) pc (kt_M_gets pc) = true := by decide +kernel
set_option maxRecDepth 100000 in
theorem sv_158_out : ∀ pc, 74 ≤ pc → (kt_M_gets pc).1 = .nop := by
  intro pc h
  unfold kt_M_gets
  split <;> first | rfl | omega
theorem sv_159 : ∀ pc, pc < 67 → sx_okE 7 prog_10_method_45_code 4 false (some .int) pc (kt_M_ever pc) = true := by decide +kernel
set_option maxRecDepth 100000 in
theorem sv_159_out : ∀ pc, 67 ≤ pc → (kt_M_ever pc).1 = .nop := by
  intro pc h
  unfold kt_M_ever
  split <;> first | rfl | omega
theorem sv_160 : ∀ pc, pc < 57 → sx_okE 7 prog_10_method_46_code 5 false (some .boolean) pc (kt_M_isAlike pc) = true := by decide +kernel
set_option maxRecDepth 100000 in
theorem sv_160_out : ∀ pc, 57 ≤ pc → (kt_M_isAlike pc).1 = .nop := by
  intro pc h
  unfold kt_M_isAlike
  split <;> first | rfl | omega
theorem sv_161 : ∀ pc, pc < 179 → sx_okE 7 prog_10_method_47_code 4 false (some .int) pc (kt_M_round pc) = true := by decide +kernel
set_option maxRecDepth 100000 in
theorem sv_161_out : ∀ pc, 179 ≤ pc → (kt_M_round pc).1 = .nop := by
  intro pc h
  unfold kt_M_round
  split <;> first | rfl | omega
theorem sv_162 : ∀ pc, pc < 64 → sx_okE 7 prog_10_method_48_code 4 false (some .int) pc (kt_M_doneIn pc) = true := by decide +kernel
set_option maxRecDepth 100000 in
theorem sv_162_out : ∀ pc, 64 ≤ pc → (kt_M_doneIn pc).1 = .nop := by
  intro pc h
  unfold kt_M_doneIn
  split <;> first | rfl | omega
theorem sv_163 : ∀ pc, pc < 62 → sx_okE 7 prog_10_method_49_code 3 false (some .int) pc (kt_M_done pc) = true := by decide +kernel
set_option maxRecDepth 100000 in
theorem sv_163_out : ∀ pc, 62 ≤ pc → (kt_M_done pc).1 = .nop := by
  intro pc h
  unfold kt_M_done
  split <;> first | rfl | omega
theorem sv_164 : ∀ pc, pc < 81 → sx_okE 7 prog_10_method_50_code 5 false (some .int) pc (kt_M_first pc) = true := by decide +kernel
set_option maxRecDepth 100000 in
theorem sv_164_out : ∀ pc, 81 ≤ pc → (kt_M_first pc).1 = .nop := by
  intro pc h
  unfold kt_M_first
  split <;> first | rfl | omega
theorem sv_165 : ∀ pc, pc < 57 → sx_okE 7 prog_10_method_51_code 5 false (some .int) pc (kt_M_by pc) = true := by decide +kernel
set_option maxRecDepth 100000 in
theorem sv_165_out : ∀ pc, 57 ≤ pc → (kt_M_by pc).1 = .nop := by
  intro pc h
  unfold kt_M_by
  split <;> first | rfl | omega
theorem sv_166 : ∀ pc, pc < 115 → sx_okE 7 prog_10_method_52_code 7 false (some .int) pc (kt_M_toGive pc) = true := by decide +kernel
set_option maxRecDepth 100000 in
theorem sv_166_out : ∀ pc, 115 ≤ pc → (kt_M_toGive pc).1 = .nop := by
  intro pc h
  unfold kt_M_toGive
  split <;> first | rfl | omega
theorem sv_167 : ∀ pc, pc < 62 → sx_okE 7 prog_10_method_53_code 5 false (some .int) pc (kt_M_windsBy pc) = true := by decide +kernel
set_option maxRecDepth 100000 in
theorem sv_167_out : ∀ pc, 62 ≤ pc → (kt_M_windsBy pc).1 = .nop := by
  intro pc h
  unfold kt_M_windsBy
  split <;> first | rfl | omega
theorem sv_168 : ∀ pc, pc < 27 → sx_okE 7 prog_10_method_54_code 3 false (some .int) pc (kt_M_winds pc) = true := by decide +kernel
set_option maxRecDepth 100000 in
theorem sv_168_out : ∀ pc, 27 ≤ pc → (kt_M_winds pc).1 = .nop := by
  intro pc h
  unfold kt_M_winds
  split <;> first | rfl | omega
theorem sv_169 : ∀ pc, pc < 125 → sx_okE 7 prog_10_method_55_code 6 false (some .int) pc (kt_M_lot pc) = true := by decide +kernel
set_option maxRecDepth 100000 in
theorem sv_169_out : ∀ pc, 125 ≤ pc → (kt_M_lot pc).1 = .nop := by
  intro pc h
  unfold kt_M_lot
  split <;> first | rfl | omega
theorem sv_170 : ∀ pc, pc < 43 → sx_okE 7 prog_10_method_56_code 4 false (some .int) pc (kt_M_lacks pc) = true := by decide +kernel
set_option maxRecDepth 100000 in
theorem sv_170_out : ∀ pc, 43 ≤ pc → (kt_M_lacks pc).1 = .nop := by
  intro pc h
  unfold kt_M_lacks
  split <;> first | rfl | omega
theorem sv_171 : ∀ pc, pc < 68 → sx_okE 7 prog_10_method_57_code 5 false (some .boolean) pc (kt_M_goesSo pc) = true := by decide +kernel
set_option maxRecDepth 100000 in
theorem sv_171_out : ∀ pc, 68 ≤ pc → (kt_M_goesSo pc).1 = .nop := by
  intro pc h
  unfold kt_M_goesSo
  split <;> first | rfl | omega
theorem sv_172 : ∀ pc, pc < 157 → sx_okE 7 prog_10_method_58_code 10 false (some .int) pc (kt_M_seen pc) = true := by decide +kernel
set_option maxRecDepth 100000 in
theorem sv_172_out : ∀ pc, 157 ≤ pc → (kt_M_seen pc).1 = .nop := by
  intro pc h
  unfold kt_M_seen
  split <;> first | rfl | omega
theorem sv_173 : ∀ pc, pc < 120 → sx_okE 7 prog_10_method_59_code 8 false (some .int) pc (kt_M_keeps pc) = true := by decide +kernel
set_option maxRecDepth 100000 in
theorem sv_173_out : ∀ pc, 120 ≤ pc → (kt_M_keeps pc).1 = .nop := by
  intro pc h
  unfold kt_M_keeps
  split <;> first | rfl | omega
theorem sv_174 : ∀ pc, pc < 63 → sx_okE 7 prog_10_method_60_code 3 false (some .int) pc (kt_M_image pc) = true := by decide +kernel
set_option maxRecDepth 100000 in
theorem sv_174_out : ∀ pc, 63 ≤ pc → (kt_M_image pc).1 = .nop := by
  intro pc h
  unfold kt_M_image
  split <;> first | rfl | omega
theorem sv_175 : ∀ pc, pc < 63 → sx_okE 7 prog_10_method_61_code 3 false (some .int) pc (kt_M_restore pc) = true := by decide +kernel
set_option maxRecDepth 100000 in
theorem sv_175_out : ∀ pc, 63 ≤ pc → (kt_M_restore pc).1 = .nop := by
  intro pc h
  unfold kt_M_restore
  split <;> first | rfl | omega
theorem sv_176 : ∀ pc, pc < 23 → sx_okE 7 prog_10_method_62_code 2 false (some .int) pc (kt_M_kind pc) = true := by decide +kernel
set_option maxRecDepth 100000 in
theorem sv_176_out : ∀ pc, 23 ≤ pc → (kt_M_kind pc).1 = .nop := by
  intro pc h
  unfold kt_M_kind
  split <;> first | rfl | omega
theorem sv_177 : ∀ pc, pc < 35 → sx_okE 7 prog_10_method_63_code 2 false (some .boolean) pc (kt_M_isKind pc) = true := by decide +kernel
set_option maxRecDepth 100000 in
theorem sv_177_out : ∀ pc, 35 ≤ pc → (kt_M_isKind pc).1 = .nop := by
  intro pc h
  unfold kt_M_isKind
  split <;> first | rfl | omega
theorem sv_178 : ∀ pc, pc < 53 → sx_okE 7 prog_10_method_64_code 3 false (some .int) pc (kt_M_as pc) = true := by decide +kernel
set_option maxRecDepth 100000 in
theorem sv_178_out : ∀ pc, 53 ≤ pc → (kt_M_as pc).1 = .nop := by
  intro pc h
  unfold kt_M_as
  split <;> first | rfl | omega
theorem sv_179 : ∀ pc, pc < 30 → sx_okE 7 prog_10_method_65_code 2 false (none) pc (kt_M_begin pc) = true := by decide +kernel
set_option maxRecDepth 100000 in
theorem sv_179_out : ∀ pc, 30 ≤ pc → (kt_M_begin pc).1 = .nop := by
  intro pc h
  unfold kt_M_begin
  split <;> first | rfl | omega
theorem sv_180 : ∀ pc, pc < 25 → sx_okE 7 prog_10_method_66_code 3 false (some .int) pc (kt_M_lent pc) = true := by decide +kernel
set_option maxRecDepth 100000 in
theorem sv_180_out : ∀ pc, 25 ≤ pc → (kt_M_lent pc).1 = .nop := by
  intro pc h
  unfold kt_M_lent
  split <;> first | rfl | omega
theorem sv_181 : ∀ pc, pc < 24 → sx_okE 7 prog_10_method_67_code 2 false (some .int) pc (kt_M_firmMark pc) = true := by decide +kernel
set_option maxRecDepth 100000 in
theorem sv_181_out : ∀ pc, 24 ≤ pc → (kt_M_firmMark pc).1 = .nop := by
  intro pc h
  unfold kt_M_firmMark
  split <;> first | rfl | omega
theorem sv_182 : ∀ pc, pc < 17 → sx_okE 7 prog_10_method_68_code 2 false (some .int) pc (kt_M_windySize pc) = true := by decide +kernel
set_option maxRecDepth 100000 in
theorem sv_182_out : ∀ pc, 17 ≤ pc → (kt_M_windySize pc).1 = .nop := by
  intro pc h
  unfold kt_M_windySize
  split <;> first | rfl | omega
theorem sv_183 : ∀ pc, pc < 33 → sx_okE 7 prog_10_method_69_code 2 false (some .int) pc (kt_M_sizeOfWindy pc) = true := by decide +kernel
set_option maxRecDepth 100000 in
theorem sv_183_out : ∀ pc, 33 ≤ pc → (kt_M_sizeOfWindy pc).1 = .nop := by
  intro pc h
  unfold kt_M_sizeOfWindy
  split <;> first | rfl | omega
theorem sv_184 : ∀ pc, pc < 83 → sx_okE 7 prog_10_method_70_code 4 false (some .int) pc (kt_M_markOf pc) = true := by decide +kernel
set_option maxRecDepth 100000 in
theorem sv_184_out : ∀ pc, 83 ≤ pc → (kt_M_markOf pc).1 = .nop := by
  intro pc h
  unfold kt_M_markOf
  split <;> first | rfl | omega
theorem sv_185 : ∀ pc, pc < 22 → sx_okE 7 prog_10_method_71_code 3 false (some .int) pc (kt_M_firmSize pc) = true := by decide +kernel
set_option maxRecDepth 100000 in
theorem sv_185_out : ∀ pc, 22 ≤ pc → (kt_M_firmSize pc).1 = .nop := by
  intro pc h
  unfold kt_M_firmSize
  split <;> first | rfl | omega
theorem sv_186 : ∀ pc, pc < 47 → sx_okE 7 prog_10_method_72_code 3 false (some .int) pc (kt_M_sizeOf pc) = true := by decide +kernel
set_option maxRecDepth 100000 in
theorem sv_186_out : ∀ pc, 47 ≤ pc → (kt_M_sizeOf pc).1 = .nop := by
  intro pc h
  unfold kt_M_sizeOf
  split <;> first | rfl | omega
theorem sv_187 : ∀ pc, pc < 44 → sx_okE 7 prog_10_method_73_code 3 false (some .int) pc (kt_M_ask pc) = true := by decide +kernel
set_option maxRecDepth 100000 in
theorem sv_187_out : ∀ pc, 44 ≤ pc → (kt_M_ask pc).1 = .nop := by
  intro pc h
  unfold kt_M_ask
  split <;> first | rfl | omega
theorem sv_188 : ∀ pc, pc < 28 → sx_okE 7 prog_10_method_74_code 2 false (some .int) pc (kt_M_trace pc) = true := by decide +kernel
set_option maxRecDepth 100000 in
theorem sv_188_out : ∀ pc, 28 ≤ pc → (kt_M_trace pc).1 = .nop := by
  intro pc h
  unfold kt_M_trace
  split <;> first | rfl | omega
theorem sv_189 : ∀ pc, pc < 167 → sx_okE 7 prog_10_method_75_code 5 false (some .int) pc (kt_M_count pc) = true := by decide +kernel
set_option maxRecDepth 100000 in
theorem sv_189_out : ∀ pc, 167 ≤ pc → (kt_M_count pc).1 = .nop := by
  intro pc h
  unfold kt_M_count
  split <;> first | rfl | omega
theorem sv_190 : ∀ pc, pc < 5 → sx_okE 7 prog_10_method_76_code 1 false (some .int) pc (kt_M_status pc) = true := by decide +kernel
set_option maxRecDepth 100000 in
theorem sv_190_out : ∀ pc, 5 ≤ pc → (kt_M_status pc).1 = .nop := by
  intro pc h
  unfold kt_M_status
  split <;> first | rfl | omega
theorem sv_191 : ∀ pc, pc < 53 → sx_okE 11 prog_12_method_49_code 1 false (some .int) pc (kt_Integer_bitCount pc) = true := by decide +kernel
set_option maxRecDepth 100000 in
theorem sv_191_out : ∀ pc, 53 ≤ pc → (kt_Integer_bitCount pc).1 = .nop := by
  intro pc h
  unfold kt_Integer_bitCount
  split <;> first | rfl | omega
theorem sv_192 : ∀ pc, pc < 20 → sx_okE 10 prog_13_method_50_code 3 false (some .int) pc (kt_Math_floorMod pc) = true := by decide +kernel
set_option maxRecDepth 100000 in
theorem sv_192_out : ∀ pc, 20 ≤ pc → (kt_Math_floorMod pc).1 = .nop := by
  intro pc h
  unfold kt_Math_floorMod
  split <;> first | rfl | omega
theorem sv_193 : ∀ pc, pc < 11 → sx_okE 10 prog_13_method_69_code 2 false (some .int) pc (kt_Math_min pc) = true := by decide +kernel
set_option maxRecDepth 100000 in
theorem sv_193_out : ∀ pc, 11 ≤ pc → (kt_Math_min pc).1 = .nop := by
  intro pc h
  unfold kt_Math_min
  split <;> first | rfl | omega
theorem sv_194 : ∀ pc, pc < 21 → sx_okE 12 prog_18_method_103_code 4 false (none) pc (kt_Arrays_fill pc) = true := by decide +kernel
set_option maxRecDepth 100000 in
theorem sv_194_out : ∀ pc, 21 ≤ pc → (kt_Arrays_fill pc).1 = .nop := by
  intro pc h
  unfold kt_Arrays_fill
  split <;> first | rfl | omega
theorem sv_195 : ∀ pc, pc < 11 → sx_okE 10 prog_13_method_65_code 2 false (some .int) pc (kt_Math_max pc) = true := by decide +kernel
set_option maxRecDepth 100000 in
theorem sv_195_out : ∀ pc, 11 ≤ pc → (kt_Math_max pc).1 = .nop := by
  intro pc h
  unfold kt_Math_max
  split <;> first | rfl | omega
theorem sv_196 : ∀ pc, pc < 11 → sx_okE 13 prog_14_method_54_code 1 false (some .int) pc (kt_Str_length pc) = true := by decide +kernel
set_option maxRecDepth 100000 in
theorem sv_196_out : ∀ pc, 11 ≤ pc → (kt_Str_length pc).1 = .nop := by
  intro pc h
  unfold kt_Str_length
  split <;> first | rfl | omega
theorem sv_197 : ∀ pc, pc < 7 → sx_okE 13 prog_14_method_79_code 2 false (some .int) pc (kt_Str_indexOf pc) = true := by decide +kernel
set_option maxRecDepth 100000 in
theorem sv_197_out : ∀ pc, 7 ≤ pc → (kt_Str_indexOf pc).1 = .nop := by
  intro pc h
  unfold kt_Str_indexOf
  split <;> first | rfl | omega
theorem sv_198 : ∀ pc, pc < 37 → sx_okE 13 prog_14_method_80_code 3 false (some .int) pc (kt_Str_indexOf2 pc) = true := by decide +kernel
set_option maxRecDepth 100000 in
theorem sv_198_out : ∀ pc, 37 ≤ pc → (kt_Str_indexOf2 pc).1 = .nop := by
  intro pc h
  unfold kt_Str_indexOf2
  split <;> first | rfl | omega
theorem sv_199 : ∀ pc, pc < 15 → sx_okE 13 prog_14_method_152_code 1 false (some .byte) pc (kt_Str_coder pc) = true := by decide +kernel
set_option maxRecDepth 100000 in
theorem sv_199_out : ∀ pc, 15 ≤ pc → (kt_Str_coder pc).1 = .nop := by
  intro pc h
  unfold kt_Str_coder
  split <;> first | rfl | omega
theorem sv_200 : ∀ pc, pc < 19 → sx_okE 13 prog_14_method_154_code 1 false (some .boolean) pc (kt_Str_isLatin1 pc) = true := by decide +kernel
set_option maxRecDepth 100000 in
theorem sv_200_out : ∀ pc, 19 ≤ pc → (kt_Str_isLatin1 pc).1 = .nop := by
  intro pc h
  unfold kt_Str_isLatin1
  split <;> first | rfl | omega
theorem sv_201 : ∀ pc, pc < 17 → sx_okE 14 prog_15_method_4_code 1 false (some .boolean) pc (kt_SL1_canEncode pc) = true := by decide +kernel
set_option maxRecDepth 100000 in
theorem sv_201_out : ∀ pc, 17 ≤ pc → (kt_SL1_canEncode pc).1 = .nop := by
  intro pc h
  unfold kt_SL1_canEncode
  split <;> first | rfl | omega
theorem sv_202 : ∀ pc, pc < 37 → sx_okE 14 prog_15_method_22_code 4 false (some .int) pc (kt_SL1_indexOf pc) = true := by decide +kernel
set_option maxRecDepth 100000 in
theorem sv_202_out : ∀ pc, 37 ≤ pc → (kt_SL1_indexOf pc).1 = .nop := by
  intro pc h
  unfold kt_SL1_indexOf
  split <;> first | rfl | omega
theorem sv_203 : ∀ pc, pc < 33 → sx_okE 14 prog_15_method_23_code 6 false (some .int) pc (kt_SL1_indexOfChar pc) = true := by decide +kernel
set_option maxRecDepth 100000 in
theorem sv_203_out : ∀ pc, 33 ≤ pc → (kt_SL1_indexOfChar pc).1 = .nop := by
  intro pc h
  unfold kt_SL1_indexOfChar
  split <;> first | rfl | omega
theorem sv_204_0 : ∀ pc, pc < 150 → sx_okE 9 code 4 false (some .boolean) (0 + pc) (kt_Law_law (0 + pc)) = true := by decide +kernel
theorem sv_204_150 : ∀ pc, pc < 150 → sx_okE 9 code 4 false (some .boolean) (150 + pc) (kt_Law_law (150 + pc)) = true := by decide +kernel
theorem sv_204_300 : ∀ pc, pc < 150 → sx_okE 9 code 4 false (some .boolean) (300 + pc) (kt_Law_law (300 + pc)) = true := by decide +kernel
theorem sv_204_450 : ∀ pc, pc < 150 → sx_okE 9 code 4 false (some .boolean) (450 + pc) (kt_Law_law (450 + pc)) = true := by decide +kernel
theorem sv_204_600 : ∀ pc, pc < 150 → sx_okE 9 code 4 false (some .boolean) (600 + pc) (kt_Law_law (600 + pc)) = true := by decide +kernel
theorem sv_204_750 : ∀ pc, pc < 150 → sx_okE 9 code 4 false (some .boolean) (750 + pc) (kt_Law_law (750 + pc)) = true := by decide +kernel
theorem sv_204_900 : ∀ pc, pc < 150 → sx_okE 9 code 4 false (some .boolean) (900 + pc) (kt_Law_law (900 + pc)) = true := by decide +kernel
theorem sv_204_1050 : ∀ pc, pc < 150 → sx_okE 9 code 4 false (some .boolean) (1050 + pc) (kt_Law_law (1050 + pc)) = true := by decide +kernel
theorem sv_204_1200 : ∀ pc, pc < 8 → sx_okE 9 code 4 false (some .boolean) (1200 + pc) (kt_Law_law (1200 + pc)) = true := by decide +kernel
theorem sv_204 : ∀ pc, pc < 1208 → sx_okE 9 code 4 false (some .boolean) pc (kt_Law_law pc) = true := by
  intro pc h
  rcases Nat.lt_or_ge pc 150 with q | q
  · have := sv_204_0 (pc - 0) (by omega); rwa [Nat.add_sub_cancel' (by omega)] at this
  rcases Nat.lt_or_ge pc 300 with q | q
  · have := sv_204_150 (pc - 150) (by omega); rwa [Nat.add_sub_cancel' (by omega)] at this
  rcases Nat.lt_or_ge pc 450 with q | q
  · have := sv_204_300 (pc - 300) (by omega); rwa [Nat.add_sub_cancel' (by omega)] at this
  rcases Nat.lt_or_ge pc 600 with q | q
  · have := sv_204_450 (pc - 450) (by omega); rwa [Nat.add_sub_cancel' (by omega)] at this
  rcases Nat.lt_or_ge pc 750 with q | q
  · have := sv_204_600 (pc - 600) (by omega); rwa [Nat.add_sub_cancel' (by omega)] at this
  rcases Nat.lt_or_ge pc 900 with q | q
  · have := sv_204_750 (pc - 750) (by omega); rwa [Nat.add_sub_cancel' (by omega)] at this
  rcases Nat.lt_or_ge pc 1050 with q | q
  · have := sv_204_900 (pc - 900) (by omega); rwa [Nat.add_sub_cancel' (by omega)] at this
  rcases Nat.lt_or_ge pc 1200 with q | q
  · have := sv_204_1050 (pc - 1050) (by omega); rwa [Nat.add_sub_cancel' (by omega)] at this
  have := sv_204_1200 (pc - 1200) (by omega); rwa [Nat.add_sub_cancel' (by omega)] at this
end
section
def sx_inis : List Bool := [true, false, false, false, true, false, false, false, false, false, true, false, false, false, false, false, false, false, false, false, false, false, false, false, false, false, false, false, false, false, true, false, false, false, false, false, false, true, false, false, false, false, false, false, false, false, false, false, false, false, false, false, true, false, false, false, false, false, false, false, false, false, false, false, false, false, false, false, true, false, false, false, false, false, false, false, false, false, false, false, false, false, false, false, false, false, false, false, false, false, false, false, false, false, false, false, false, false, false, false, false, false, false, false, false, false, false, false, false, false, false, false, false, false, false, true, false, false, false, false, false, false, false, false, false, false, false, false, false, false, false, false, false, false, false, false, false, false, false, false, false, false, false, false, false, false, false, false, false, false, false, false, false, false, false, false, false, false, false, false, false, false, false, false, false, false, false, false, false, false, false, false, false, false, false, false, false, false, false, false, false, false, false, false, false, false, false, false, false, false, false, false, false, false, false, false, false, false, false, false, false, false, false, false, false]
def sx_ini (k : Nat) : Bool := sx_inis.getD k false
theorem sx_ini_ok : ∀ k, k < 204 → sx_ini k = true → (sx_my k).name = "<init>" := by decide +kernel
theorem sx_nop {oc : Nat} {cc : ByteArray} {nL : Nat} {ini : Bool} {rt : Option FieldType} {pc : Nat} {q : kx_E} (h : q.1 = .nop) : sx_okE oc cc nL ini rt pc q = true := by
  unfold sx_okE
  rw [h]
  rfl
theorem sv_all : ∀ k, k < 204 → ∀ pc, sx_okE (sx_mo k) (sx_mc k) (kt_ml k) (sx_ini k) (sx_mr k) pc (kt_all k pc) = true := by
  intro k hk pc
  match k, hk with
  | 0, _ => exact (Nat.lt_or_ge pc 37).elim (sv_0 pc) (fun h => sx_nop (sv_0_out pc h))
  | 1, _ => exact (Nat.lt_or_ge pc 6).elim (sv_1 pc) (fun h => sx_nop (sv_1_out pc h))
  | 2, _ => exact (Nat.lt_or_ge pc 70).elim (sv_2 pc) (fun h => sx_nop (sv_2_out pc h))
  | 3, _ => exact (Nat.lt_or_ge pc 162).elim (sv_3 pc) (fun h => sx_nop (sv_3_out pc h))
  | 4, _ => exact (Nat.lt_or_ge pc 13).elim (sv_4 pc) (fun h => sx_nop (sv_4_out pc h))
  | 5, _ => exact (Nat.lt_or_ge pc 25).elim (sv_5 pc) (fun h => sx_nop (sv_5_out pc h))
  | 6, _ => exact (Nat.lt_or_ge pc 14).elim (sv_6 pc) (fun h => sx_nop (sv_6_out pc h))
  | 7, _ => exact (Nat.lt_or_ge pc 234).elim (sv_7 pc) (fun h => sx_nop (sv_7_out pc h))
  | 8, _ => exact (Nat.lt_or_ge pc 19).elim (sv_8 pc) (fun h => sx_nop (sv_8_out pc h))
  | 9, _ => exact (Nat.lt_or_ge pc 30).elim (sv_9 pc) (fun h => sx_nop (sv_9_out pc h))
  | 10, _ => exact (Nat.lt_or_ge pc 29).elim (sv_10 pc) (fun h => sx_nop (sv_10_out pc h))
  | 11, _ => exact (Nat.lt_or_ge pc 24).elim (sv_11 pc) (fun h => sx_nop (sv_11_out pc h))
  | 12, _ => exact (Nat.lt_or_ge pc 49).elim (sv_12 pc) (fun h => sx_nop (sv_12_out pc h))
  | 13, _ => exact (Nat.lt_or_ge pc 56).elim (sv_13 pc) (fun h => sx_nop (sv_13_out pc h))
  | 14, _ => exact (Nat.lt_or_ge pc 77).elim (sv_14 pc) (fun h => sx_nop (sv_14_out pc h))
  | 15, _ => exact (Nat.lt_or_ge pc 51).elim (sv_15 pc) (fun h => sx_nop (sv_15_out pc h))
  | 16, _ => exact (Nat.lt_or_ge pc 56).elim (sv_16 pc) (fun h => sx_nop (sv_16_out pc h))
  | 17, _ => exact (Nat.lt_or_ge pc 36).elim (sv_17 pc) (fun h => sx_nop (sv_17_out pc h))
  | 18, _ => exact (Nat.lt_or_ge pc 92).elim (sv_18 pc) (fun h => sx_nop (sv_18_out pc h))
  | 19, _ => exact (Nat.lt_or_ge pc 62).elim (sv_19 pc) (fun h => sx_nop (sv_19_out pc h))
  | 20, _ => exact (Nat.lt_or_ge pc 79).elim (sv_20 pc) (fun h => sx_nop (sv_20_out pc h))
  | 21, _ => exact (Nat.lt_or_ge pc 66).elim (sv_21 pc) (fun h => sx_nop (sv_21_out pc h))
  | 22, _ => exact (Nat.lt_or_ge pc 22).elim (sv_22 pc) (fun h => sx_nop (sv_22_out pc h))
  | 23, _ => exact (Nat.lt_or_ge pc 39).elim (sv_23 pc) (fun h => sx_nop (sv_23_out pc h))
  | 24, _ => exact (Nat.lt_or_ge pc 57).elim (sv_24 pc) (fun h => sx_nop (sv_24_out pc h))
  | 25, _ => exact (Nat.lt_or_ge pc 59).elim (sv_25 pc) (fun h => sx_nop (sv_25_out pc h))
  | 26, _ => exact (Nat.lt_or_ge pc 33).elim (sv_26 pc) (fun h => sx_nop (sv_26_out pc h))
  | 27, _ => exact (Nat.lt_or_ge pc 36).elim (sv_27 pc) (fun h => sx_nop (sv_27_out pc h))
  | 28, _ => exact (Nat.lt_or_ge pc 31).elim (sv_28 pc) (fun h => sx_nop (sv_28_out pc h))
  | 29, _ => exact (Nat.lt_or_ge pc 52).elim (sv_29 pc) (fun h => sx_nop (sv_29_out pc h))
  | 30, _ => exact (Nat.lt_or_ge pc 23).elim (sv_30 pc) (fun h => sx_nop (sv_30_out pc h))
  | 31, _ => exact (Nat.lt_or_ge pc 14).elim (sv_31 pc) (fun h => sx_nop (sv_31_out pc h))
  | 32, _ => exact (Nat.lt_or_ge pc 19).elim (sv_32 pc) (fun h => sx_nop (sv_32_out pc h))
  | 33, _ => exact (Nat.lt_or_ge pc 12).elim (sv_33 pc) (fun h => sx_nop (sv_33_out pc h))
  | 34, _ => exact (Nat.lt_or_ge pc 28).elim (sv_34 pc) (fun h => sx_nop (sv_34_out pc h))
  | 35, _ => exact (Nat.lt_or_ge pc 18).elim (sv_35 pc) (fun h => sx_nop (sv_35_out pc h))
  | 36, _ => exact (Nat.lt_or_ge pc 40).elim (sv_36 pc) (fun h => sx_nop (sv_36_out pc h))
  | 37, _ => exact (Nat.lt_or_ge pc 13).elim (sv_37 pc) (fun h => sx_nop (sv_37_out pc h))
  | 38, _ => exact (Nat.lt_or_ge pc 15).elim (sv_38 pc) (fun h => sx_nop (sv_38_out pc h))
  | 39, _ => exact (Nat.lt_or_ge pc 25).elim (sv_39 pc) (fun h => sx_nop (sv_39_out pc h))
  | 40, _ => exact (Nat.lt_or_ge pc 6).elim (sv_40 pc) (fun h => sx_nop (sv_40_out pc h))
  | 41, _ => exact (Nat.lt_or_ge pc 39).elim (sv_41 pc) (fun h => sx_nop (sv_41_out pc h))
  | 42, _ => exact (Nat.lt_or_ge pc 35).elim (sv_42 pc) (fun h => sx_nop (sv_42_out pc h))
  | 43, _ => exact (Nat.lt_or_ge pc 57).elim (sv_43 pc) (fun h => sx_nop (sv_43_out pc h))
  | 44, _ => exact (Nat.lt_or_ge pc 80).elim (sv_44 pc) (fun h => sx_nop (sv_44_out pc h))
  | 45, _ => exact (Nat.lt_or_ge pc 35).elim (sv_45 pc) (fun h => sx_nop (sv_45_out pc h))
  | 46, _ => exact (Nat.lt_or_ge pc 60).elim (sv_46 pc) (fun h => sx_nop (sv_46_out pc h))
  | 47, _ => exact (Nat.lt_or_ge pc 26).elim (sv_47 pc) (fun h => sx_nop (sv_47_out pc h))
  | 48, _ => exact (Nat.lt_or_ge pc 97).elim (sv_48 pc) (fun h => sx_nop (sv_48_out pc h))
  | 49, _ => exact (Nat.lt_or_ge pc 48).elim (sv_49 pc) (fun h => sx_nop (sv_49_out pc h))
  | 50, _ => exact (Nat.lt_or_ge pc 25).elim (sv_50 pc) (fun h => sx_nop (sv_50_out pc h))
  | 51, _ => exact (Nat.lt_or_ge pc 15).elim (sv_51 pc) (fun h => sx_nop (sv_51_out pc h))
  | 52, _ => exact (Nat.lt_or_ge pc 65).elim (sv_52 pc) (fun h => sx_nop (sv_52_out pc h))
  | 53, _ => exact (Nat.lt_or_ge pc 31).elim (sv_53 pc) (fun h => sx_nop (sv_53_out pc h))
  | 54, _ => exact (Nat.lt_or_ge pc 165).elim (sv_54 pc) (fun h => sx_nop (sv_54_out pc h))
  | 55, _ => exact (Nat.lt_or_ge pc 51).elim (sv_55 pc) (fun h => sx_nop (sv_55_out pc h))
  | 56, _ => exact (Nat.lt_or_ge pc 46).elim (sv_56 pc) (fun h => sx_nop (sv_56_out pc h))
  | 57, _ => exact (Nat.lt_or_ge pc 19).elim (sv_57 pc) (fun h => sx_nop (sv_57_out pc h))
  | 58, _ => exact (Nat.lt_or_ge pc 19).elim (sv_58 pc) (fun h => sx_nop (sv_58_out pc h))
  | 59, _ => exact (Nat.lt_or_ge pc 33).elim (sv_59 pc) (fun h => sx_nop (sv_59_out pc h))
  | 60, _ => exact (Nat.lt_or_ge pc 11).elim (sv_60 pc) (fun h => sx_nop (sv_60_out pc h))
  | 61, _ => exact (Nat.lt_or_ge pc 65).elim (sv_61 pc) (fun h => sx_nop (sv_61_out pc h))
  | 62, _ => exact (Nat.lt_or_ge pc 61).elim (sv_62 pc) (fun h => sx_nop (sv_62_out pc h))
  | 63, _ => exact (Nat.lt_or_ge pc 46).elim (sv_63 pc) (fun h => sx_nop (sv_63_out pc h))
  | 64, _ => exact (Nat.lt_or_ge pc 50).elim (sv_64 pc) (fun h => sx_nop (sv_64_out pc h))
  | 65, _ => exact (Nat.lt_or_ge pc 35).elim (sv_65 pc) (fun h => sx_nop (sv_65_out pc h))
  | 66, _ => exact (Nat.lt_or_ge pc 55).elim (sv_66 pc) (fun h => sx_nop (sv_66_out pc h))
  | 67, _ => exact (Nat.lt_or_ge pc 20).elim (sv_67 pc) (fun h => sx_nop (sv_67_out pc h))
  | 68, _ => exact (Nat.lt_or_ge pc 162).elim (sv_68 pc) (fun h => sx_nop (sv_68_out pc h))
  | 69, _ => exact (Nat.lt_or_ge pc 52).elim (sv_69 pc) (fun h => sx_nop (sv_69_out pc h))
  | 70, _ => exact (Nat.lt_or_ge pc 47).elim (sv_70 pc) (fun h => sx_nop (sv_70_out pc h))
  | 71, _ => exact (Nat.lt_or_ge pc 128).elim (sv_71 pc) (fun h => sx_nop (sv_71_out pc h))
  | 72, _ => exact (Nat.lt_or_ge pc 42).elim (sv_72 pc) (fun h => sx_nop (sv_72_out pc h))
  | 73, _ => exact (Nat.lt_or_ge pc 36).elim (sv_73 pc) (fun h => sx_nop (sv_73_out pc h))
  | 74, _ => exact (Nat.lt_or_ge pc 71).elim (sv_74 pc) (fun h => sx_nop (sv_74_out pc h))
  | 75, _ => exact (Nat.lt_or_ge pc 5).elim (sv_75 pc) (fun h => sx_nop (sv_75_out pc h))
  | 76, _ => exact (Nat.lt_or_ge pc 97).elim (sv_76 pc) (fun h => sx_nop (sv_76_out pc h))
  | 77, _ => exact (Nat.lt_or_ge pc 63).elim (sv_77 pc) (fun h => sx_nop (sv_77_out pc h))
  | 78, _ => exact (Nat.lt_or_ge pc 49).elim (sv_78 pc) (fun h => sx_nop (sv_78_out pc h))
  | 79, _ => exact (Nat.lt_or_ge pc 71).elim (sv_79 pc) (fun h => sx_nop (sv_79_out pc h))
  | 80, _ => exact (Nat.lt_or_ge pc 72).elim (sv_80 pc) (fun h => sx_nop (sv_80_out pc h))
  | 81, _ => exact (Nat.lt_or_ge pc 32).elim (sv_81 pc) (fun h => sx_nop (sv_81_out pc h))
  | 82, _ => exact (Nat.lt_or_ge pc 94).elim (sv_82 pc) (fun h => sx_nop (sv_82_out pc h))
  | 83, _ => exact (Nat.lt_or_ge pc 73).elim (sv_83 pc) (fun h => sx_nop (sv_83_out pc h))
  | 84, _ => exact (Nat.lt_or_ge pc 75).elim (sv_84 pc) (fun h => sx_nop (sv_84_out pc h))
  | 85, _ => exact (Nat.lt_or_ge pc 31).elim (sv_85 pc) (fun h => sx_nop (sv_85_out pc h))
  | 86, _ => exact (Nat.lt_or_ge pc 25).elim (sv_86 pc) (fun h => sx_nop (sv_86_out pc h))
  | 87, _ => exact (Nat.lt_or_ge pc 31).elim (sv_87 pc) (fun h => sx_nop (sv_87_out pc h))
  | 88, _ => exact (Nat.lt_or_ge pc 33).elim (sv_88 pc) (fun h => sx_nop (sv_88_out pc h))
  | 89, _ => exact (Nat.lt_or_ge pc 25).elim (sv_89 pc) (fun h => sx_nop (sv_89_out pc h))
  | 90, _ => exact (Nat.lt_or_ge pc 20).elim (sv_90 pc) (fun h => sx_nop (sv_90_out pc h))
  | 91, _ => exact (Nat.lt_or_ge pc 31).elim (sv_91 pc) (fun h => sx_nop (sv_91_out pc h))
  | 92, _ => exact (Nat.lt_or_ge pc 48).elim (sv_92 pc) (fun h => sx_nop (sv_92_out pc h))
  | 93, _ => exact (Nat.lt_or_ge pc 31).elim (sv_93 pc) (fun h => sx_nop (sv_93_out pc h))
  | 94, _ => exact (Nat.lt_or_ge pc 74).elim (sv_94 pc) (fun h => sx_nop (sv_94_out pc h))
  | 95, _ => exact (Nat.lt_or_ge pc 83).elim (sv_95 pc) (fun h => sx_nop (sv_95_out pc h))
  | 96, _ => exact (Nat.lt_or_ge pc 76).elim (sv_96 pc) (fun h => sx_nop (sv_96_out pc h))
  | 97, _ => exact (Nat.lt_or_ge pc 42).elim (sv_97 pc) (fun h => sx_nop (sv_97_out pc h))
  | 98, _ => exact (Nat.lt_or_ge pc 44).elim (sv_98 pc) (fun h => sx_nop (sv_98_out pc h))
  | 99, _ => exact (Nat.lt_or_ge pc 26).elim (sv_99 pc) (fun h => sx_nop (sv_99_out pc h))
  | 100, _ => exact (Nat.lt_or_ge pc 51).elim (sv_100 pc) (fun h => sx_nop (sv_100_out pc h))
  | 101, _ => exact (Nat.lt_or_ge pc 37).elim (sv_101 pc) (fun h => sx_nop (sv_101_out pc h))
  | 102, _ => exact (Nat.lt_or_ge pc 9).elim (sv_102 pc) (fun h => sx_nop (sv_102_out pc h))
  | 103, _ => exact (Nat.lt_or_ge pc 114).elim (sv_103 pc) (fun h => sx_nop (sv_103_out pc h))
  | 104, _ => exact (Nat.lt_or_ge pc 5).elim (sv_104 pc) (fun h => sx_nop (sv_104_out pc h))
  | 105, _ => exact (Nat.lt_or_ge pc 11).elim (sv_105 pc) (fun h => sx_nop (sv_105_out pc h))
  | 106, _ => exact (Nat.lt_or_ge pc 7).elim (sv_106 pc) (fun h => sx_nop (sv_106_out pc h))
  | 107, _ => exact (Nat.lt_or_ge pc 34).elim (sv_107 pc) (fun h => sx_nop (sv_107_out pc h))
  | 108, _ => exact (Nat.lt_or_ge pc 33).elim (sv_108 pc) (fun h => sx_nop (sv_108_out pc h))
  | 109, _ => exact (Nat.lt_or_ge pc 16).elim (sv_109 pc) (fun h => sx_nop (sv_109_out pc h))
  | 110, _ => exact (Nat.lt_or_ge pc 8).elim (sv_110 pc) (fun h => sx_nop (sv_110_out pc h))
  | 111, _ => exact (Nat.lt_or_ge pc 7).elim (sv_111 pc) (fun h => sx_nop (sv_111_out pc h))
  | 112, _ => exact (Nat.lt_or_ge pc 8).elim (sv_112 pc) (fun h => sx_nop (sv_112_out pc h))
  | 113, _ => exact (Nat.lt_or_ge pc 16).elim (sv_113 pc) (fun h => sx_nop (sv_113_out pc h))
  | 114, _ => exact (Nat.lt_or_ge pc 31).elim (sv_114 pc) (fun h => sx_nop (sv_114_out pc h))
  | 115, _ => exact (Nat.lt_or_ge pc 132).elim (sv_115 pc) (fun h => sx_nop (sv_115_out pc h))
  | 116, _ => exact (Nat.lt_or_ge pc 19).elim (sv_116 pc) (fun h => sx_nop (sv_116_out pc h))
  | 117, _ => exact (Nat.lt_or_ge pc 15).elim (sv_117 pc) (fun h => sx_nop (sv_117_out pc h))
  | 118, _ => exact (Nat.lt_or_ge pc 10).elim (sv_118 pc) (fun h => sx_nop (sv_118_out pc h))
  | 119, _ => exact (Nat.lt_or_ge pc 7).elim (sv_119 pc) (fun h => sx_nop (sv_119_out pc h))
  | 120, _ => exact (Nat.lt_or_ge pc 10).elim (sv_120 pc) (fun h => sx_nop (sv_120_out pc h))
  | 121, _ => exact (Nat.lt_or_ge pc 87).elim (sv_121 pc) (fun h => sx_nop (sv_121_out pc h))
  | 122, _ => exact (Nat.lt_or_ge pc 31).elim (sv_122 pc) (fun h => sx_nop (sv_122_out pc h))
  | 123, _ => exact (Nat.lt_or_ge pc 86).elim (sv_123 pc) (fun h => sx_nop (sv_123_out pc h))
  | 124, _ => exact (Nat.lt_or_ge pc 196).elim (sv_124 pc) (fun h => sx_nop (sv_124_out pc h))
  | 125, _ => exact (Nat.lt_or_ge pc 45).elim (sv_125 pc) (fun h => sx_nop (sv_125_out pc h))
  | 126, _ => exact (Nat.lt_or_ge pc 52).elim (sv_126 pc) (fun h => sx_nop (sv_126_out pc h))
  | 127, _ => exact (Nat.lt_or_ge pc 230).elim (sv_127 pc) (fun h => sx_nop (sv_127_out pc h))
  | 128, _ => exact (Nat.lt_or_ge pc 7).elim (sv_128 pc) (fun h => sx_nop (sv_128_out pc h))
  | 129, _ => exact (Nat.lt_or_ge pc 22).elim (sv_129 pc) (fun h => sx_nop (sv_129_out pc h))
  | 130, _ => exact (Nat.lt_or_ge pc 20).elim (sv_130 pc) (fun h => sx_nop (sv_130_out pc h))
  | 131, _ => exact (Nat.lt_or_ge pc 62).elim (sv_131 pc) (fun h => sx_nop (sv_131_out pc h))
  | 132, _ => exact (Nat.lt_or_ge pc 103).elim (sv_132 pc) (fun h => sx_nop (sv_132_out pc h))
  | 133, _ => exact (Nat.lt_or_ge pc 66).elim (sv_133 pc) (fun h => sx_nop (sv_133_out pc h))
  | 134, _ => exact (Nat.lt_or_ge pc 191).elim (sv_134 pc) (fun h => sx_nop (sv_134_out pc h))
  | 135, _ => exact (Nat.lt_or_ge pc 73).elim (sv_135 pc) (fun h => sx_nop (sv_135_out pc h))
  | 136, _ => exact (Nat.lt_or_ge pc 5).elim (sv_136 pc) (fun h => sx_nop (sv_136_out pc h))
  | 137, _ => exact (Nat.lt_or_ge pc 16).elim (sv_137 pc) (fun h => sx_nop (sv_137_out pc h))
  | 138, _ => exact (Nat.lt_or_ge pc 16).elim (sv_138 pc) (fun h => sx_nop (sv_138_out pc h))
  | 139, _ => exact (Nat.lt_or_ge pc 42).elim (sv_139 pc) (fun h => sx_nop (sv_139_out pc h))
  | 140, _ => exact (Nat.lt_or_ge pc 125).elim (sv_140 pc) (fun h => sx_nop (sv_140_out pc h))
  | 141, _ => exact (Nat.lt_or_ge pc 147).elim (sv_141 pc) (fun h => sx_nop (sv_141_out pc h))
  | 142, _ => exact (Nat.lt_or_ge pc 94).elim (sv_142 pc) (fun h => sx_nop (sv_142_out pc h))
  | 143, _ => exact (Nat.lt_or_ge pc 70).elim (sv_143 pc) (fun h => sx_nop (sv_143_out pc h))
  | 144, _ => exact (Nat.lt_or_ge pc 45).elim (sv_144 pc) (fun h => sx_nop (sv_144_out pc h))
  | 145, _ => exact (Nat.lt_or_ge pc 15).elim (sv_145 pc) (fun h => sx_nop (sv_145_out pc h))
  | 146, _ => exact (Nat.lt_or_ge pc 29).elim (sv_146 pc) (fun h => sx_nop (sv_146_out pc h))
  | 147, _ => exact (Nat.lt_or_ge pc 101).elim (sv_147 pc) (fun h => sx_nop (sv_147_out pc h))
  | 148, _ => exact (Nat.lt_or_ge pc 50).elim (sv_148 pc) (fun h => sx_nop (sv_148_out pc h))
  | 149, _ => exact (Nat.lt_or_ge pc 59).elim (sv_149 pc) (fun h => sx_nop (sv_149_out pc h))
  | 150, _ => exact (Nat.lt_or_ge pc 93).elim (sv_150 pc) (fun h => sx_nop (sv_150_out pc h))
  | 151, _ => exact (Nat.lt_or_ge pc 66).elim (sv_151 pc) (fun h => sx_nop (sv_151_out pc h))
  | 152, _ => exact (Nat.lt_or_ge pc 71).elim (sv_152 pc) (fun h => sx_nop (sv_152_out pc h))
  | 153, _ => exact (Nat.lt_or_ge pc 27).elim (sv_153 pc) (fun h => sx_nop (sv_153_out pc h))
  | 154, _ => exact (Nat.lt_or_ge pc 27).elim (sv_154 pc) (fun h => sx_nop (sv_154_out pc h))
  | 155, _ => exact (Nat.lt_or_ge pc 18).elim (sv_155 pc) (fun h => sx_nop (sv_155_out pc h))
  | 156, _ => exact (Nat.lt_or_ge pc 10).elim (sv_156 pc) (fun h => sx_nop (sv_156_out pc h))
  | 157, _ => exact (Nat.lt_or_ge pc 42).elim (sv_157 pc) (fun h => sx_nop (sv_157_out pc h))
  | 158, _ => exact (Nat.lt_or_ge pc 74).elim (sv_158 pc) (fun h => sx_nop (sv_158_out pc h))
  | 159, _ => exact (Nat.lt_or_ge pc 67).elim (sv_159 pc) (fun h => sx_nop (sv_159_out pc h))
  | 160, _ => exact (Nat.lt_or_ge pc 57).elim (sv_160 pc) (fun h => sx_nop (sv_160_out pc h))
  | 161, _ => exact (Nat.lt_or_ge pc 179).elim (sv_161 pc) (fun h => sx_nop (sv_161_out pc h))
  | 162, _ => exact (Nat.lt_or_ge pc 64).elim (sv_162 pc) (fun h => sx_nop (sv_162_out pc h))
  | 163, _ => exact (Nat.lt_or_ge pc 62).elim (sv_163 pc) (fun h => sx_nop (sv_163_out pc h))
  | 164, _ => exact (Nat.lt_or_ge pc 81).elim (sv_164 pc) (fun h => sx_nop (sv_164_out pc h))
  | 165, _ => exact (Nat.lt_or_ge pc 57).elim (sv_165 pc) (fun h => sx_nop (sv_165_out pc h))
  | 166, _ => exact (Nat.lt_or_ge pc 115).elim (sv_166 pc) (fun h => sx_nop (sv_166_out pc h))
  | 167, _ => exact (Nat.lt_or_ge pc 62).elim (sv_167 pc) (fun h => sx_nop (sv_167_out pc h))
  | 168, _ => exact (Nat.lt_or_ge pc 27).elim (sv_168 pc) (fun h => sx_nop (sv_168_out pc h))
  | 169, _ => exact (Nat.lt_or_ge pc 125).elim (sv_169 pc) (fun h => sx_nop (sv_169_out pc h))
  | 170, _ => exact (Nat.lt_or_ge pc 43).elim (sv_170 pc) (fun h => sx_nop (sv_170_out pc h))
  | 171, _ => exact (Nat.lt_or_ge pc 68).elim (sv_171 pc) (fun h => sx_nop (sv_171_out pc h))
  | 172, _ => exact (Nat.lt_or_ge pc 157).elim (sv_172 pc) (fun h => sx_nop (sv_172_out pc h))
  | 173, _ => exact (Nat.lt_or_ge pc 120).elim (sv_173 pc) (fun h => sx_nop (sv_173_out pc h))
  | 174, _ => exact (Nat.lt_or_ge pc 63).elim (sv_174 pc) (fun h => sx_nop (sv_174_out pc h))
  | 175, _ => exact (Nat.lt_or_ge pc 63).elim (sv_175 pc) (fun h => sx_nop (sv_175_out pc h))
  | 176, _ => exact (Nat.lt_or_ge pc 23).elim (sv_176 pc) (fun h => sx_nop (sv_176_out pc h))
  | 177, _ => exact (Nat.lt_or_ge pc 35).elim (sv_177 pc) (fun h => sx_nop (sv_177_out pc h))
  | 178, _ => exact (Nat.lt_or_ge pc 53).elim (sv_178 pc) (fun h => sx_nop (sv_178_out pc h))
  | 179, _ => exact (Nat.lt_or_ge pc 30).elim (sv_179 pc) (fun h => sx_nop (sv_179_out pc h))
  | 180, _ => exact (Nat.lt_or_ge pc 25).elim (sv_180 pc) (fun h => sx_nop (sv_180_out pc h))
  | 181, _ => exact (Nat.lt_or_ge pc 24).elim (sv_181 pc) (fun h => sx_nop (sv_181_out pc h))
  | 182, _ => exact (Nat.lt_or_ge pc 17).elim (sv_182 pc) (fun h => sx_nop (sv_182_out pc h))
  | 183, _ => exact (Nat.lt_or_ge pc 33).elim (sv_183 pc) (fun h => sx_nop (sv_183_out pc h))
  | 184, _ => exact (Nat.lt_or_ge pc 83).elim (sv_184 pc) (fun h => sx_nop (sv_184_out pc h))
  | 185, _ => exact (Nat.lt_or_ge pc 22).elim (sv_185 pc) (fun h => sx_nop (sv_185_out pc h))
  | 186, _ => exact (Nat.lt_or_ge pc 47).elim (sv_186 pc) (fun h => sx_nop (sv_186_out pc h))
  | 187, _ => exact (Nat.lt_or_ge pc 44).elim (sv_187 pc) (fun h => sx_nop (sv_187_out pc h))
  | 188, _ => exact (Nat.lt_or_ge pc 28).elim (sv_188 pc) (fun h => sx_nop (sv_188_out pc h))
  | 189, _ => exact (Nat.lt_or_ge pc 167).elim (sv_189 pc) (fun h => sx_nop (sv_189_out pc h))
  | 190, _ => exact (Nat.lt_or_ge pc 5).elim (sv_190 pc) (fun h => sx_nop (sv_190_out pc h))
  | 191, _ => exact (Nat.lt_or_ge pc 53).elim (sv_191 pc) (fun h => sx_nop (sv_191_out pc h))
  | 192, _ => exact (Nat.lt_or_ge pc 20).elim (sv_192 pc) (fun h => sx_nop (sv_192_out pc h))
  | 193, _ => exact (Nat.lt_or_ge pc 11).elim (sv_193 pc) (fun h => sx_nop (sv_193_out pc h))
  | 194, _ => exact (Nat.lt_or_ge pc 21).elim (sv_194 pc) (fun h => sx_nop (sv_194_out pc h))
  | 195, _ => exact (Nat.lt_or_ge pc 11).elim (sv_195 pc) (fun h => sx_nop (sv_195_out pc h))
  | 196, _ => exact (Nat.lt_or_ge pc 11).elim (sv_196 pc) (fun h => sx_nop (sv_196_out pc h))
  | 197, _ => exact (Nat.lt_or_ge pc 7).elim (sv_197 pc) (fun h => sx_nop (sv_197_out pc h))
  | 198, _ => exact (Nat.lt_or_ge pc 37).elim (sv_198 pc) (fun h => sx_nop (sv_198_out pc h))
  | 199, _ => exact (Nat.lt_or_ge pc 15).elim (sv_199 pc) (fun h => sx_nop (sv_199_out pc h))
  | 200, _ => exact (Nat.lt_or_ge pc 19).elim (sv_200 pc) (fun h => sx_nop (sv_200_out pc h))
  | 201, _ => exact (Nat.lt_or_ge pc 17).elim (sv_201 pc) (fun h => sx_nop (sv_201_out pc h))
  | 202, _ => exact (Nat.lt_or_ge pc 37).elim (sv_202 pc) (fun h => sx_nop (sv_202_out pc h))
  | 203, _ => exact (Nat.lt_or_ge pc 33).elim (sv_203 pc) (fun h => sx_nop (sv_203_out pc h))
  | k + 204, h => exact absurd h (by omega)
/-- the law's table, closed -/
def kt_LawW (pc : Nat) : kx_E := if pc < 1208 then kt_Law_law pc else (.nop, 1, 0, 0, 0, [])
theorem sv_law : ∀ pc, sx_okE 9 code 4 false (some .boolean) pc (kt_LawW pc) = true := by
  intro pc
  unfold kt_LawW
  by_cases h : pc < 1208
  · rw [if_pos h]; exact sv_204 pc h
  · rw [if_neg h]; rfl
end
section
/-! a whole run of a method, and the contract of every method -/
theorem kx_st_imp {tb : Nat → kx_E} {K K' : Nat → kx_L → List kx_V → kx_G → kx_M → Prop} {R R' : Option kx_V → kx_G → kx_M → Prop} {C C' : Nat → List kx_V → kx_G → kx_M → Nat → kx_L → List kx_V → Prop} {pc : Nat} {ls : kx_L} {st : List kx_V} {G : kx_G} {μ : kx_M} (hK : ∀ pc' ls' st' G' μ', sx_gq G G' → K pc' ls' st' G' μ' → K' pc' ls' st' G' μ') (hR : ∀ v μ', R v G μ' → R' v G μ') (hC : ∀ m as μ' pc' ls' rest, C m as G μ' pc' ls' rest → C' m as G μ' pc' ls' rest) (h : kx_st tb False K R C pc ls st G μ) : kx_st tb False K' R' C' pc ls st G μ := by
  have hl := kx_lf_ge tb pc ls st G μ
  rw [kx_st_lf] at h ⊢
  cases hx : kx_lf tb pc ls st G μ with
  | none => rw [hx] at h; exact h.elim
  | some x =>
    rw [hx] at h hl
    match x, h, hl with
    | .inl (pc1, ls1, st1, G1, μ1), h, hl => exact hK _ _ _ _ _ hl h
    | .inr (.inl (v1, G1, μ1)), h, hl =>
      have hl : G1 = G := hl
      subst hl
      exact hR _ _ h
    | .inr (.inr (m1, as1, G1, μ1, pc1, ls1, rest)), h, hl =>
      have hl : G1 = G := hl
      subst hl
      exact hC _ _ _ _ _ _ h
section SF
variable {p : Program} {l : Launch} {e : Env} {R : Room} {s : State} {m : MethodId} {args : Array Value} {below : List Frame} {meth : Method} {c : Code} {cc : ByteArray} {nL L n0 s0 : Nat} {Z : sx_Z} {D : va_G} {μ0 : kx_M} {Qf : State → Prop} {GF : kx_G} {μF : kx_M} {vF : Option kx_V}
theorem sx_runs {d oc : Nat} {ini : Bool} {rt : Option FieldType} {tb : Nat → kx_E} (C : sx_C p s m args c cc nL (sx_on oc) Z D L μ0) (hini : ini = true → meth.name = "<init>")
    (hri : ∀ {pc : Nat} {ls : kx_L} {x : Int}, decode cc pc = .ok (.ireturn, 1) → (rt = some .int ∨ (rt = some .boolean ∨ rt = some .byte) ∧ (x = 0 ∨ x = 1)) → some (kI x) = vF → sx_at p l e R s m args below meth c nL Z D L μ0 n0 s0 Qf pc ls [kI x] GF μF)
    (hrl : ∀ {pc : Nat} {ls : kx_L} {x : Int}, decode cc pc = .ok (.lreturn, 1) → rt = some .long → some (kL x) = vF → sx_at p l e R s m args below meth c nL Z D L μ0 n0 s0 Qf pc ls [kL x] GF μF)
    (hrv : ∀ {pc : Nat} {ls : kx_L}, decode cc pc = .ok (.return_, 1) → rt = none → none = vF → sx_at p l e R s m args below meth c nL Z D L μ0 n0 s0 Qf pc ls [] GF μF)
    (hM : ∀ k as G μ v G2 μ2, k < 204 → kx_ev kt_all kt_ml d k as G μ v G2 μ2 → sx_lq G2 GF → 1 ≤ G.2.1 → sx_Mt l Z D L μ0 d k as G μ v G2 μ2)
    (hRf : d + 2 ≤ R.frames) (hRl : 60 * d + 60 ≤ R.locals) (hRc : GF.2.1 - n0 ≤ R.cells) (hRs : sx_sl GF - s0 ≤ R.slots) (h91 : GF.2.1 ≤ 91)
    (hval : ∀ pc, sx_okE oc cc nL ini rt pc (tb pc) = true) : ∀ n pc ls st G μ, kx_run (kx_ev kt_all kt_ml d) tb vF GF μF n pc ls st G μ → 1 ≤ G.2.1 → sx_at p l e R s m args below meth c nL Z D L μ0 n0 s0 Qf pc ls st G μ := by
  intro n
  induction n with
  | zero => intro pc ls st G μ h; exact h.elim
  | succ n ih =>
    intro pc ls st G μ h h1
    unfold kx_run at h
    have h := kx_st_imp (K' := fun pc' ls' st' G' μ' => sx_lq G' GF ∧ sx_at p l e R s m args below meth c nL Z D L μ0 n0 s0 Qf pc' ls' st' G' μ') (R' := fun v1 G1 μ1 => v1 = vF ∧ G1 = GF ∧ μ1 = μF)
      (C' := fun k as G1 μ1 pc' ls' rest => ∃ (v1 : Option kx_V) (G2 : kx_G) (μ2 : kx_M), (kx_ev kt_all kt_ml d k as G1 μ1 v1 G2 μ2 ∧ 1 ≤ G1.2.1) ∧ sx_lq G1 G2 ∧ sx_lq G2 GF ∧ sx_at p l e R s m args below meth c nL Z D L μ0 n0 s0 Qf pc' ls' (v1.toList ++ rest) G2 μ2)
      (fun pc' ls' st' G' μ' hg q => by
        have h2 : 1 ≤ G'.2.1 := Nat.le_trans h1 (sx_gq_lq hg h1).1
        exact ⟨kx_run_ge (kx_ev_ge kt_all kt_ml d) _ _ _ _ _ _ _ _ _ _ q h2, ih _ _ _ _ _ q h2⟩)
      (fun v μ' q => q)
      (fun k as μ' pc' ls' rest q => by
        obtain ⟨v1, G2, μ2, q1, q2⟩ := q
        have h3 := kx_ev_ge kt_all kt_ml d _ _ _ _ _ _ _ q1 h1
        have h2 : 1 ≤ G2.2.1 := Nat.le_trans h1 h3.1
        exact ⟨v1, G2, μ2, ⟨q1, h1⟩, h3, kx_run_ge (kx_ev_ge kt_all kt_ml d) _ _ _ _ _ _ _ _ _ _ q2 h2, ih _ _ _ _ _ q2 h2⟩) h
    unfold kx_st at h
    have hv := hval pc
    unfold sx_okE at hv
    exact sx_step C hini hri hrl hrv hM hRf hRl hRc hRs h91 hv h
end SF
theorem sx_ofW {l : Launch} {y : MethodName} {ws ws' : List Jvm.Cond} {rm : Room} {Pc : Array Value → State → Prop} {Qc : Array Value → State → Outcome → State → Prop} {mc ms : Nat} {free : Addr → Prop} {cc : ByteArray} {maxL : Nat} {ret : Option FieldType}
    (hy : plainFor y = true) (hw : ws = Jvm.Cond.code y cc maxL ret :: ws')
    (body : ∀ p e s m args below meth c s₁, BodyLoose p l y (headSpec ws rm) cc maxL ret e s m args below meth c s₁ → c.maxLocals = maxL → Pc args s →
      W p l e (headSpec ws rm).room s m args below meth c s.heap [] 0 0 (MQ below Qc args s mc ms free) (entryFrame m args maxL)) : Met l y ws rm Pc Qc mc ms free := by
  refine MetFree.of_bodySF (code := cc) (maxLocals := maxL) (ret := ret) hy ?_ ?_
  · intro args s m h hn
    obtain ⟨meth, c, h1, h2, h3, h4, h5, h6, -, -⟩ := Cond.code_spec hn (atoms_spec (ws := ws) h _ (by rw [hw]; exact List.mem_cons_self))
    exact ⟨meth, c, h1, h2, h3, h4, h5, h6⟩
  · intro p e s m args below meth c s₁ B hml hP _
    have hh0 : s₁.heap = s.heap := by rw [B.state]; rfl
    obtain ⟨t, a1, o, b1, b2, b3⟩ := body p e s m args below meth c s₁ B hml hP s₁ hh0 (Stand.of_body B)
    exact ⟨t, o, a1, b1, b2, ⟨b3.1, b3.2⟩⟩
theorem sx_main (l : Launch) (Z : sx_Z) (D : va_G) (L : Nat) (μ0 : kx_M) : ∀ d k as G μ v G2 μ2, k < 204 → kx_ev kt_all kt_ml d k as G μ v G2 μ2 → 1 ≤ G.2.1 → G2.2.1 ≤ 91 → sx_Mt l Z D L μ0 d k as G μ v G2 μ2 := by
  intro d
  induction d with
  | zero => intro k as G μ v G2 μ2 _ h; exact h.elim
  | succ d ih =>
    intro k as G μ v G2 μ2 hk h h1 h91
    have hle := kx_ev_ge kt_all kt_ml _ _ _ _ _ _ _ _ h h1
    obtain ⟨hfit, n, hrun⟩ := h
    refine sx_ofW (cc := sx_mc k) (maxL := kt_ml k) (ret := sx_mr k) (ws' := sx_tb) (sx_code_ok1 k hk) rfl ?_
    intro p e s m args below meth c s₁ B hml hP
    obtain ⟨rfl, hR, hE⟩ := hP
    have hown : s.vm.findClass (sx_on (sx_mo k)) = some m.cls := by rw [← sx_code_ok4 k hk]; exact findClass_of_methodNamed B.named
    have hts0 : ∀ w ∈ sx_ww k, w.before (as.map (sx_c Z)).toArray s = true := atoms_spec (ws := sx_ww k) B.pre
    have hts : ∀ w ∈ sx_tb, w.before (as.map (sx_c Z)).toArray s = true := fun w hw => hts0 w (List.mem_cons_of_mem _ hw)
    have hnm : meth.name = (sx_my k).name := (name_of_methodNamed B.named B.method).1
    have hlk := B.notSynchronized
    have hrt := B.returns
    have hx := B.exec
    have hb := B.bytes
    have key := sx_runs (R := (headSpec (sx_ww k) (sx_rm (d + 1) G G2)).room) (below := below) (Qf := MQ below (sx_Qc Z D L μ0 v G2 μ2) (as.map (sx_c Z)).toArray s (G2.2.1 - G.2.1) (sx_sl G2 - sx_sl G) (fun q => Z.1 < q)) (n0 := G.2.1) (s0 := sx_sl G) (vF := v) (GF := G2) (μF := μ2) (l := l) (e := e) (meth := meth) (ini := sx_ini k) (rt := sx_mr k) (tb := kt_all k) (d := d)
      (⟨hx, hb, hml, hown, hts, hE⟩ : sx_C p s m (as.map (sx_c Z)).toArray c (sx_mc k) (kt_ml k) (sx_on (sx_mo k)) Z D L μ0)
      (fun q => by rw [hnm]; exact sx_ini_ok k hk q) ?_ ?_ ?_ (fun k' as' G' μ' v' G2' μ2' hk' h' hl' h1' => ih _ _ _ _ _ _ _ hk' h' h1' (Nat.le_trans hl'.1 h91)) (Nat.le_refl (d + 2)) (show 60 * d + 60 ≤ 60 * (d + 1) by omega) (Nat.le_refl _) (Nat.le_refl _) h91 (sv_all k (by omega)) n 0 _ _ _ _ hrun h1
    · rw [lg_entry_eq]
      have := key s.heap [] _ hR va_S.rf (sx_lv_ent hfit) (Nat.le_refl _) (Nat.le_refl _)
      rw [Nat.sub_self, Nat.sub_self] at this
      exact this
    · intro pc ls x hd hr hv H locs lsA hR' hS hl hn hs
      have hq : ∀ t : State, t.heap = H → s.WarmedH t.vm → sx_Qc Z D L μ0 v G2 μ2 (as.map (sx_c Z)).toArray s (.returned (some (.int (Int32.ofInt x)))) t := fun t ht _ => ⟨by rw [← hv]; rfl, by rw [ht]; exact hR', hS.F ht⟩
      rcases hr with hr | ⟨hr | hr, hx01⟩
      · exact W.iret hx hb (by rw [hrt, hr]) hq hS.2.2 hd hlk
      · exact W.zret (ty := .boolean) hx hb (by rw [hrt, hr]) (by rcases hx01 with rfl | rfl <;> rfl) hq hS.2.2 hd hlk
      · exact W.zret (ty := .byte) hx hb (by rw [hrt, hr]) (by rcases hx01 with rfl | rfl <;> rfl) hq hS.2.2 hd hlk
    · intro pc ls x hd hr hv H locs lsA hR' hS hl hn hs
      exact W.lret hx hb (by rw [hrt, hr]) (fun t ht _ => ⟨by rw [← hv]; rfl, by rw [ht]; exact hR', hS.F ht⟩) hS.2.2 hd hlk
    · intro pc ls hd hr hv H locs lsA hR' hS hl hn hs
      exact W.vret hx hb (by rw [hrt, hr]) (fun t ht _ => ⟨by rw [← hv]; rfl, by rw [ht]; exact hR', hS.F ht⟩) hS.2.2 hd hlk
end
section
def R_law : String := "HatOrdersLaw"
def lw_P (b : Addr) (xs : List Int32) (args : Array Value) (s : State) : Prop := args = #[.ref b] ∧ s.IntsAt b xs ∧ xs.length ≤ 384 ∧ (Jvm.Cond.and given_1 narrow_1).before args s = true
def lw_Q (_ : Array Value) (s : State) (o : Outcome) (t : State) : Prop := o = .returned (some (.int 1)) ∧ Framed s o t [] 600000 7302250
def lw_Z (below : List Frame) (a : Array Value) (s : State) : State → Prop := fun t => ∃ o, t.status = .running ∧ Ended t below o ∧ lw_Q a s o t
/-- the law's own end, with 1 on the stack, nothing written that was there before, its room as the claim has it -/
theorem lw_ret {p : Program} {l : Launch} {e : Env} {s : State} {m : MethodId} {below : List Frame} {meth : Method} {c : Code} {b : Nat} (hx : p.tables.exec = Jvm.exec) (hb : c.code = code) (hr : meth.sig.returnType = ret) (hlocks : meth.locks = false) {pc : Nat} {H : Heap} {ls : Array Slot} (hdg : decode code pc = .ok (.ireturn, 1)) : W p l e room_1 s m #[Value.ref b] below meth c H [] 600000 7302250 (lw_Z below #[Value.ref b] s) (F0 m pc ls [.int 1]) := by
  intro T hT X
  obtain ⟨fs, hret, hrun, hended, hW, hframe⟩ := X.leave (v := some (.int 1)) (hlocks := hlocks) (fun h => by rw [hr] at h; cases h)
  have hmeth' : T.vm.method? m = some meth := X.method'
  refine ⟨T.setFrames fs, ?_, .returned (some (.int 1)), hrun, hended, rfl, ⟨_, rfl⟩, hW, hframe⟩
  jvm_step X.here [X.here.top, hx, hb, hdg, hmeth', hr, ret, narrow_b1]
  (try refine ⟨rfl, ?_⟩); (try refine ⟨rfl, ?_⟩)
  first | (intro acts; rw [hret _ acts rfl rfl rfl]) | rw [hret _ _ rfl rfl rfl]
  exact Steps.refl _
/-- what holds at the law's entry: the machine, the code, the tables' words (any of lw_tbl by 'hts w (by decide +kernel)'), the script of L ints xs at the cell b, what the Statement gives of the start (any of its parts by flat_of_before) -/
def lw_At (p : Program) (s : State) (m : MethodId) (meth : Method) (c : Code) (b L : Nat) (xs : Nat → Int32) : Prop :=
  p.tables.exec = Jvm.exec ∧ c.code = code ∧ meth.sig.returnType = ret ∧ c.maxLocals = 4 ∧ s.vm.findClass R_law = some m.cls ∧ (∀ w ∈ lw_tbl, w.before #[Value.ref b] s = true) ∧ va_X b L xs s s.heap ∧ b < s.heap.size ∧ meth.locks = false ∧ (Jvm.Cond.and given_1 narrow_1).before #[Value.ref b] s = true
theorem sx_wao5 : (Jvm.Cond.arrayOver (Jvm.ClassFile.FieldType.object "HatOrders$Row")) ∈ lw_tbl := sx_tk_in 1 _ (List.mem_of_getElem? (i := 28) (by decide +kernel))
theorem sx_wao6 : (Jvm.Cond.arrayOver (Jvm.ClassFile.FieldType.object "HatOrders$Town")) ∈ lw_tbl := sx_tk_in 1 _ (List.mem_of_getElem? (i := 217) (by decide +kernel))
theorem sx_wlsWIDER : (Jvm.Cond.laysStatic "HatOrders$Kinds" "WIDER" "[I") ∈ lw_tbl := sx_tk_in 4 _ (List.mem_of_getElem? (i := 32) (by decide +kernel))
theorem sx_wlsSIZE : (Jvm.Cond.laysStatic "HatOrders$Kinds" "SIZE_BODIES" "[I") ∈ lw_tbl := sx_tk_in 4 _ (List.mem_of_getElem? (i := 49) (by decide +kernel))
theorem sx_wlsMARK : (Jvm.Cond.laysStatic "HatOrders$Kinds" "MARK_BODIES" "[I") ∈ lw_tbl := sx_tk_in 4 _ (List.mem_of_getElem? (i := 51) (by decide +kernel))
theorem sx_wlsCS : (Jvm.Cond.laysStatic "java/lang/String" "COMPACT_STRINGS" "Z") ∈ lw_tbl := sx_tk_in 2 _ (List.mem_of_getElem? (i := 149) (by decide +kernel))
theorem sx_winK : (Jvm.Cond.initialized "HatOrders$Kinds") ∈ lw_tbl := sx_tk_in 1 _ (List.mem_of_getElem? (i := 11) (by decide +kernel))
theorem sx_winS : (Jvm.Cond.initialized "java/lang/String") ∈ lw_tbl := sx_tk_in 1 _ (List.mem_of_getElem? (i := 12) (by decide +kernel))
theorem sx_wsref : (Jvm.Cond.stringRef "HatOrders$Kinds" (9 : Nat) "fstwb") ∈ lw_tbl := sx_tk_in 2 _ (List.mem_of_getElem? (i := 135) (by decide +kernel))
/-! the law's start: the outer cells, the classes, the first world -/
/-- the shapes before anything is made -/
def kg_ish (L : Nat) : Nat → Nat × Nat
  | 101 => (7, 6) | 102 => (7, 6) | 103 => (7, 6) | 104 => (7, L) | 105 => (8, 0) | _ => (0, 0)
def kg_i (L : Nat) : kx_G := (kg_ish L, 1, fun _ _ => 0)
/-- the numbers of the outer cells -/
def kg_m (xs : Nat → Int32) : kx_M := fun c j => match c with
  | 101 => ([0, 0, 1, 1, 0, 4] : List Int).getD j.toNat 0
  | 102 => ([10, 11, 12, 0, 13, 14] : List Int).getD j.toNat 0
  | 103 => ([20, 21, 24, 22, 23, 0] : List Int).getD j.toNat 0
  | 104 => (xs j.toNat).toInt
  | 106 => ([102, 115, 116, 119, 98] : List Int).getD j.toNat 0
  | _ => 0
theorem sx_wf_i (L : Nat) : sx_wf L (kg_i L) := by
  refine ⟨Nat.le_refl 1, Nat.le_of_ble_eq_true rfl, ?_, ?_, ?_, rfl, rfl, rfl, rfl, ?_⟩
  · intro k h1 h2
    simp only [kg_i, kg_ish] at h1 h2
    split at h1 <;> simp at h1 h2 <;> split at h2 <;> simp at h2
  · intro k h1
    simp only [kg_i, kg_ish] at h1
    split at h1 <;> simp at h1
  · intro k h1
    simp only [kg_i, kg_ish] at h1
    split at h1 <;> simp at h1 <;> simp
  · intro k h1 h2
    simp only [kg_i, kg_ish] at h1 h2
    split at h1 <;> simp at h1 h2 <;> split at h2 <;> simp at h2
theorem sx_rel_i {Z : sx_Z} {D : va_G} {L : Nat} {xs : Nat → Int32} {H : Heap} (h : H.size = Z.1 + 1) : sx_rel Z D L (kg_m xs) (kg_i L) (kg_m xs) H := by
  refine ⟨sx_wf_i L, fun _ => h, ?_, fun _ _ => rfl⟩
  intro k q hq
  have := (sx_ws_inv hq).1
  exact absurd this (by show ¬ k + 1 < 1; omega)
theorem sx_cls_len {c : Nat} {q : vw_C} (h : sx_cls[c]? = some q) : c < 8 ∧ q = (sx_cn c, sx_T c, sx_nf c) := by
  have hl : c < 8 := (List.getElem?_eq_some_iff.mp h).1
  exact ⟨hl, Option.some.inj (h.symm.trans (sx_cls_at hl))⟩
theorem sx_inst : ∀ ci, ci < 8 → ∃ q ∈ sx_cla, q.2.2 = ci := by decide +kernel
theorem sx_inst_in {ci : Nat} (h : ci < 8) : Jvm.Cond.instantiable (sx_cn ci) (sx_nf ci) ∈ sx_tb := by
  obtain ⟨q, hq, rfl⟩ := sx_inst ci h
  exact (sx_cla_ok q hq).1 _ (by simp)
theorem sx_known {s : State} {args : Array Value} (hts : ∀ w ∈ lw_tbl, w.before args s = true) : ∃ (D : va_G) (cA : Nat → ClassId), ∀ (b0 : Nat) (xa : Nat → Nat), va_K D sx_cls (sx_tys (b0, xa, cA)) s := by
  have ht2 : ∀ w ∈ sx_tb, w.before args s = true := fun w hw => hts w (sx_good w hw).1
  have h0 : ∀ ci : Nat, ∃ q : ClassId × (Nat → Nat), ci < 8 → u_Kn s (sx_cn ci) (sx_T ci) (sx_nf ci) q.1 q.2 := by
    intro ci
    by_cases hci : ci < 8
    · obtain ⟨cC, iS, h⟩ := u_known ht2 (sx_in ci hci) (ht2 _ (sx_inst_in hci))
      exact ⟨(cC, iS), fun _ => h⟩
    · exact ⟨(0, fun _ => 0), fun h => absurd h hci⟩
  obtain ⟨f, hf⟩ := Classical.axiomOfChoice h0
  have hp : ∀ ty : FieldType, Jvm.Cond.arrayClass ty ∈ sx_tb → (∀ C, ty ≠ .object C) → ∃ cA, ArrOfT s cA ty ∧ va_RA s cA ty := by
    intro ty hw hno
    obtain ⟨cA, kA, comp, g1, g2, g3⟩ := Cond.arrayClass_spec (ht2 _ hw)
    refine ⟨cA, fun n z => ⟨fun k h => (by cases h), kA, g2, comp, g3⟩, ?_⟩
    cases ty <;> first | exact g1 | exact absurd rfl (hno _)
  obtain ⟨c2, e2⟩ := hp .int (sx_arr_ok _ (by simp)) (fun _ h => by cases h)
  obtain ⟨c3, e3⟩ := hp .long (sx_arr_ok _ (by simp)) (fun _ h => by cases h)
  obtain ⟨c4, e4⟩ := hp .boolean (sx_arr_ok _ (by simp)) (fun _ h => by cases h)
  have hq : ∀ C : String, (Jvm.Cond.arrayOver (.object C)).before args s = true → ∃ cA, ArrOfT s cA (.object C) ∧ va_RA s cA (.object C) := by
    intro C h
    obtain ⟨comp, c, k, h1, h2, h3, h4, h5⟩ := Cond.arrayOver_spec h
    exact ⟨c, fun n z => ⟨fun k h => (by cases h), k, h3, comp, h4⟩, k, comp, h3, h4, h1, h5⟩
  obtain ⟨c5, e5⟩ := hq "HatOrders$Row" (hts _ sx_wao5)
  obtain ⟨c6, e6⟩ := hq "HatOrders$Town" (hts _ sx_wao6)
  refine ⟨(fun k => (f k).1, fun k => (f k).2), fun k => if k = 2 then c2 else if k = 3 then c3 else if k = 4 then c4 else if k = 5 then c5 else c6, fun b0 xa => ⟨fun c q hq => ?_, fun k q hk => ?_⟩⟩
  · obtain ⟨hc, rfl⟩ := sx_cls_len hq
    exact hf c hc
  · match k, hk with
    | 0, hk => cases hk; exact e2
    | 1, hk => cases hk; exact e3
    | 2, hk => cases hk; exact e4
    | 3, hk => cases hk; exact e5
    | 4, hk => cases hk; exact e6
    | k + 5, hk => simp [sx_tys] at hk

/-- a static table -/
theorem sx_tab {s : State} {b : Nat} {Z1 : Nat} {nm : String} {f : Nat → Value} {v : Nat → Int32} (hZ : Z1 + 1 = s.heap.size) (hl : (Jvm.Cond.laysStatic "HatOrders$Kinds" nm "[I").before #[Value.ref b] s = true) (hi : (Jvm.Cond.initialized "HatOrders$Kinds").before #[Value.ref b] s = true) (ha : (Jvm.Cond.arrayOf (.static "HatOrders$Kinds" nm "[I") .int).before #[Value.ref b] s = true) (hlen : (Jvm.Cond.eq (.length (.static "HatOrders$Kinds" nm "[I")) (.int 6)).before #[Value.ref b] s = true) (hel : ∀ j : Nat, j < 6 → (Jvm.Cond.eq (.elem (.static "HatOrders$Kinds" nm "[I") (.int (Int32.ofNat j))) (.int (v j))).before #[Value.ref b] s = true) (hv : ∀ j : Nat, j < 6 → f j = .int (v j)) : ∃ t : Nat, va_Z "HatOrders$Kinds" nm "[I" (.ref t) (fun q => Z1 < q) s s.heap ∧ va_T .int t 6 f (fun q => Z1 < q) s s.heap := by
  have hA : ∀ a : Nat, a < s.heap.size → ¬ Z1 < a := fun a h => by omega
  obtain ⟨t, h1, h2⟩ := va_Tof (tm := .static "HatOrders$Kinds" nm "[I") (N := 6) (f := f) (A := fun q => Z1 < q) (by decide) ha (va_eqt hlen) (fun j hj => by rw [hv j hj]; exact va_eqt (hel j hj)) hA
  exact ⟨t, va_Zof hl hi h1 hA, h2⟩
theorem sx_begin {p : Program} {s : State} {m : MethodId} {meth : Method} {c : Code} {b L : Nat} {xs : Nat → Int32} (hL : L ≤ 384) (C0 : lw_At p s m meth c b L xs) : ∃ (Z : sx_Z) (D : va_G), Z.1 + 1 = s.heap.size ∧ Z.2.1 104 = b ∧ sx_ext Z D L (kg_m xs) s := by
  obtain ⟨hx, hb, hr, hml, hown, hts, hX, hbl, hlocks, hgv⟩ := C0
  have hs := flat_of_before _ hgv
  obtain ⟨D, cA, hK⟩ := sx_known hts
  have hZ : s.heap.size - 1 + 1 = s.heap.size := by omega
  have hA : ∀ a : Nat, a < s.heap.size → ¬ s.heap.size - 1 < a := fun a h => by omega
  obtain ⟨t1, z1, u1⟩ := sx_tab (nm := "WIDER") (v := fun j => ([0, 0, 1, 1, 0, 4] : List Int32).getD j 0) (f := fun j => .int (Int32.ofInt (kg_m xs 101 j))) hZ (hts _ sx_wlsWIDER) (hts _ sx_winK) (hs _ (by decide +kernel)) (hs _ (by decide +kernel)) (fun j hj => by
    match j, hj with
    | 0, _ => exact hs _ (by decide +kernel)
    | 1, _ => exact hs _ (by decide +kernel)
    | 2, _ => exact hs _ (by decide +kernel)
    | 3, _ => exact hs _ (by decide +kernel)
    | 4, _ => exact hs _ (by decide +kernel)
    | 5, _ => exact hs _ (by decide +kernel)) (fun j hj => by
    match j, hj with
    | 0, _ => rfl
    | 1, _ => rfl
    | 2, _ => rfl
    | 3, _ => rfl
    | 4, _ => rfl
    | 5, _ => rfl)
  obtain ⟨t2, z2, u2⟩ := sx_tab (nm := "SIZE_BODIES") (v := fun j => ([10, 11, 12, 0, 13, 14] : List Int32).getD j 0) (f := fun j => .int (Int32.ofInt (kg_m xs 102 j))) hZ (hts _ sx_wlsSIZE) (hts _ sx_winK) (hs _ (by decide +kernel)) (hs _ (by decide +kernel)) (fun j hj => by
    match j, hj with
    | 0, _ => exact hs _ (by decide +kernel)
    | 1, _ => exact hs _ (by decide +kernel)
    | 2, _ => exact hs _ (by decide +kernel)
    | 3, _ => exact hs _ (by decide +kernel)
    | 4, _ => exact hs _ (by decide +kernel)
    | 5, _ => exact hs _ (by decide +kernel)) (fun j hj => by
    match j, hj with
    | 0, _ => rfl
    | 1, _ => rfl
    | 2, _ => rfl
    | 3, _ => rfl
    | 4, _ => rfl
    | 5, _ => rfl)
  obtain ⟨t3, z3, u3⟩ := sx_tab (nm := "MARK_BODIES") (v := fun j => ([20, 21, 24, 22, 23, 0] : List Int32).getD j 0) (f := fun j => .int (Int32.ofInt (kg_m xs 103 j))) hZ (hts _ sx_wlsMARK) (hts _ sx_winK) (hs _ (by decide +kernel)) (hs _ (by decide +kernel)) (fun j hj => by
    match j, hj with
    | 0, _ => exact hs _ (by decide +kernel)
    | 1, _ => exact hs _ (by decide +kernel)
    | 2, _ => exact hs _ (by decide +kernel)
    | 3, _ => exact hs _ (by decide +kernel)
    | 4, _ => exact hs _ (by decide +kernel)
    | 5, _ => exact hs _ (by decide +kernel)) (fun j hj => by
    match j, hj with
    | 0, _ => rfl
    | 1, _ => rfl
    | 2, _ => rfl
    | 3, _ => rfl
    | 4, _ => rfl
    | 5, _ => rfl)
  obtain ⟨adK, adV, hStr, hadK⟩ := vk_Sof (args := #[Value.ref b]) (s := s) (N := 1) (tm := fun _ => .string "HatOrders$Kinds" 9) (len := [5]) (byt := [[102, 115, 116, 119, 98]]) (A := fun q => s.heap.size - 1 < q)
    (fun i hi => by match i, hi with | 0, _ => decide) (fun i hi => hs _ (by decide +kernel)) (fun i hi => hs _ (by decide +kernel)) (fun i hi => hs _ (by decide +kernel)) (fun i hi => by match i, hi with | 0, _ => exact hs _ (by decide +kernel))
    (fun i hi j hj => by
      match i, hi with
      | 0, _ =>
        match j, hj with
        | 0, _ => exact hs _ (by decide +kernel)
        | 1, _ => exact hs _ (by decide +kernel)
        | 2, _ => exact hs _ (by decide +kernel)
        | 3, _ => exact hs _ (by decide +kernel)
        | 4, _ => exact hs _ (by decide +kernel)) (fun i j hi hj hij => absurd (show i = j by omega) hij) hA
  obtain ⟨o1, o2, o3, o4⟩ := hStr.1 0 (by decide)
  refine ⟨(s.heap.size - 1, fun k => if k = 101 then t1 else if k = 102 then t2 else if k = 103 then t3 else if k = 104 then b else if k = 105 then adK 0 else adV 0, cA), D, hZ, rfl, hK _ _, ?_, ?_, ⟨?_, ?_⟩, by omega, ?_, va_AO.of (hts _ sx_wao5), va_AO.of (hts _ sx_wao6), vk_R.of (hts _ sx_wsref) (hadK 0 (by decide)), o1, o2, o3, ?_, va_Zof (hts _ sx_wlsCS) (hts _ sx_winS) (va_eqi (hs _ (by decide +kernel))) hA⟩
  · show s.heap.size - 1 < s.heap.size
    omega
  · intro k hk
    rcases hk with rfl | rfl | rfl
    · exact ⟨z1, u1⟩
    · exact ⟨z2, u2⟩
    · exact ⟨z3, u3⟩
  · show va_X b L (fun j => Int32.ofInt (kg_m xs 104 j)) s s.heap
    rw [show (fun j : Nat => Int32.ofInt (kg_m xs 104 j)) = xs from funext fun j => by show Int32.ofInt (xs (j : Int).toNat).toInt = xs j; rw [Int32.ofInt_toInt]; rfl]
    exact hX
  · show b ≤ s.heap.size - 1
    omega
  · intro w hw
    exact va_Nw.of (sx_nest_tab hw) (hts w (List.mem_filter.mp hw).1)
  · show va_T .byte (adV 0) 5 (fun j => .int (Int32.ofInt (kg_m xs 106 j))) (fun q => s.heap.size - 1 < q) s s.heap
    obtain ⟨cell, g1, g2, g3, g4, g5, g6, g7⟩ := o4
    refine ⟨cell, g1, g2, g3, g4, g5, fun j hj => ?_, g7⟩
    rw [g6 j hj]
    match j, hj with
    | 0, _ => rfl
    | 1, _ => rfl
    | 2, _ => rfl
    | 3, _ => rfl
    | 4, _ => rfl
end
section
/-! THE CLAIM OUT OF THE RUN OF THE LAW ON THE SMALL MACHINE -/
/-- what is left to prove, over the small machine alone: on every script of at most 384 numbers the law's run ends with 1 -/
def pure_law : Prop := ∀ (L : Nat) (xs : Nat → Int32), L ≤ 384 → kx_wx (ke 30) kt_LawW (fun v G _ => v = some (kI 1) ∧ G.2.1 ≤ 91 ∧ sx_sl G ≤ 500000) 0 [some (kR 104), none, none, none] [] (kg_i L) (kg_m xs)
theorem start_of_pure (hpure : pure_law) {p : Program} {e : Env} {s : State} {m : MethodId} {below : List Frame} {meth : Method} {c : Code} (l : Launch) {b L : Nat} {xs : Nat → Int32} (hL : L ≤ 384) (C0 : lw_At p s m meth c b L xs) : W p l e room_1 s m #[Value.ref b] below meth c s.heap [] 0 0 (lw_Z below #[Value.ref b] s) (entryFrame m ([Value.ref b] : List Value).toArray 4) := by
  obtain ⟨Z, D, hZ, h104, hE⟩ := sx_begin hL C0
  obtain ⟨n, v, GF, μF, hrun, hv, h91, hsl⟩ := hpure L xs hL
  obtain ⟨hx, hb, hr, hml, hown, hts, hX, hbl, hlocks, hgv⟩ := C0
  have ht2 : ∀ w ∈ sx_tb, w.before #[Value.ref b] s = true := fun w hw => hts w (sx_good w hw).1
  have had : sx_ad Z 104 = b := by unfold sx_ad; rw [if_neg (by decide)]; exact h104
  have key := sx_runs (R := room_1) (below := below) (Qf := lw_Z below #[Value.ref b] s) (n0 := 1) (s0 := 0) (vF := v) (GF := GF) (μF := μF) (l := l) (e := e) (meth := meth) (ini := false) (rt := some .boolean) (tb := kt_LawW) (d := 30) (oc := 9)
    (⟨hx, hb, hml, hown, ht2, hE⟩ : sx_C p s m #[Value.ref b] c code 4 (sx_on 9) Z D L (kg_m xs))
    (fun q => by cases q) ?_ ?_ ?_ (fun k' as' G' μ' v' G2' μ2' hk' h' hl' h1' => sx_main l Z D L (kg_m xs) 30 k' as' G' μ' v' G2' μ2' hk' h' h1' (Nat.le_trans hl'.1 h91)) (show 30 + 2 ≤ 2048 by decide) (show 60 * 30 + 60 ≤ 84000 by decide) (show GF.2.1 - 1 ≤ 600000 by omega) (show sx_sl GF - 0 ≤ 7302250 by omega) h91 sv_law n 0 _ _ _ _ hrun (Nat.le_refl 1)
  · have hlv : sx_lv Z ((lg_sl ([.ref b] : List Value) ++ List.replicate (4 - (lg_sl ([.ref b] : List Value)).length) Slot.unset).toArray) 4 [some (kR 104), none, none, none] := by
      have := sx_lv_ent (Z := Z) (as := [kR 104]) (n := 4) (Nat.le_of_ble_eq_true rfl)
      have e : ([kR 104] : List kx_V).map (sx_c Z) = [.ref b] := by show [Value.ref (sx_ad Z 104)] = _; rw [had]
      rw [e] at this
      exact this
    rw [lg_entry_eq]
    exact key s.heap [] _ (sx_rel_i (by omega)) va_S.rf hlv (Nat.le_refl 1) (Nat.le_refl 0)
  · intro pc ls x hd hr' hv' H locs lsA hR hS hl hn hs
    rw [hv] at hv'
    cases hv'
    refine va_forget (fun q hq => by have := hS.2.2 q hq; omega) ?_
    refine W.widen (k := 600000) (n := 7302250) (by omega) (by omega) ?_
    exact lw_ret hx hb hr hlocks hd
  · intro pc ls x hd hr' hv' H locs lsA hR hS hl hn hs
    cases hr'
  · intro pc ls hd hr' hv' H locs lsA hR hS hl hn hs
    cases hr'
end
section
/-- the cells: which there are once both objects are made (1 the object, 77 the reference; 101 to 103 the tables, 104 the script, of L numbers, 105 the text) -/
def kg_sh (L : Nat) : Nat → Nat × Nat
  | 1 => (1, 6) | 2 => (5, 8)
  | 3 => (1, 3) | 4 => (2, 40) | 5 => (1, 3) | 6 => (2, 40) | 7 => (1, 3) | 8 => (2, 40) | 9 => (1, 3) | 10 => (2, 40)
  | 11 => (1, 3) | 12 => (2, 40) | 13 => (1, 3) | 14 => (2, 40) | 15 => (1, 3) | 16 => (2, 40) | 17 => (1, 3) | 18 => (2, 40)
  | 19 => (1, 4) | 20 => (2, 120)
  | 21 => (1, 5) | 22 => (2, 6) | 23 => (2, 6) | 24 => (2, 6) | 25 => (2, 6) | 26 => (2, 4) | 27 => (2, 4) | 28 => (2, 4) | 29 => (2, 4)
  | 30 => (1, 5) | 31 => (2, 6) | 32 => (2, 6) | 33 => (2, 6) | 34 => (2, 6) | 35 => (2, 4) | 36 => (2, 4) | 37 => (2, 4) | 38 => (2, 4)
  | 39 => (1, 0) | 40 => (2, 24) | 41 => (2, 24) | 42 => (2, 24) | 43 => (2, 24)
  | 44 => (1, 2)
  | 45 => (1, 5) | 46 => (2, 6) | 47 => (2, 6) | 48 => (2, 6) | 49 => (2, 6) | 50 => (2, 4) | 51 => (2, 4) | 52 => (2, 4) | 53 => (2, 4)
  | 54 => (3, 61) | 55 => (1, 1) | 56 => (2, 16) | 57 => (6, 2)
  | 58 => (1, 5) | 59 => (2, 6) | 60 => (2, 6) | 61 => (2, 6) | 62 => (2, 6) | 63 => (2, 4) | 64 => (2, 4) | 65 => (2, 4) | 66 => (2, 4)
  | 67 => (1, 5) | 68 => (2, 6) | 69 => (2, 6) | 70 => (2, 6) | 71 => (2, 6) | 72 => (2, 4) | 73 => (2, 4) | 74 => (2, 4) | 75 => (2, 4)
  | 76 => (4, 2)
  | 77 => (1, 7) | 78 => (2, 8) | 79 => (2, 8) | 80 => (2, 320) | 81 => (2, 46) | 82 => (2, 40) | 83 => (2, 120) | 84 => (2, 46) | 85 => (2, 1104) | 86 => (2, 46) | 87 => (2, 366) | 88 => (4, 2) | 89 => (2, 92) | 90 => (2, 16)
  | 101 => (7, 6) | 102 => (7, 6) | 103 => (7, 6) | 104 => (7, L) | 105 => (8, 0)
  | _ => (0, 0)
def kg_rl : Nat → List Nat
  | 1 => [2, 19, 21, 30, 39, 44, 55, 57, 76]
  | 2 => [3, 5, 7, 9, 11, 13, 15, 17]
  | 3 => [4] | 5 => [6] | 7 => [8] | 9 => [10] | 11 => [12] | 13 => [14] | 15 => [16] | 17 => [18]
  | 19 => [20]
  | 21 => [22, 23, 24, 25, 26, 27, 28, 29]
  | 30 => [31, 32, 33, 34, 35, 36, 37, 38]
  | 39 => [40, 41, 42, 43]
  | 44 => [30, 45, 54]
  | 45 => [46, 47, 48, 49, 50, 51, 52, 53]
  | 55 => [56]
  | 57 => [58, 67]
  | 58 => [59, 60, 61, 62, 63, 64, 65, 66]
  | 67 => [68, 69, 70, 71, 72, 73, 74, 75]
  | 77 => [78, 79, 80, 0, 0, 81, 82, 83, 0, 0, 0, 0, 0, 0, 0, 84, 85, 0, 86, 87, 88, 89, 90, 0]
  | _ => []
def kg_rf (a : Nat) (i : Int) : Nat := if 0 ≤ i then (kg_rl a).getD i.toNat 0 else 0
def kg (L : Nat) : kx_G := (kg_sh L, 91, kg_rf)
/-- a town's cells -/
def kg_T (L a : Nat) : Prop := (kg L).1 a = (1, 5) ∧ (kg L).2.2 a 0 = a + 1 ∧ (kg L).2.2 a 1 = a + 2 ∧ (kg L).2.2 a 2 = a + 3 ∧ (kg L).2.2 a 3 = a + 4 ∧ (kg L).2.2 a 4 = a + 5 ∧ (kg L).2.2 a 5 = a + 6 ∧ (kg L).2.2 a 6 = a + 7 ∧ (kg L).2.2 a 7 = a + 8 ∧ (kg L).1 (a + 1) = (2, 6) ∧ (kg L).1 (a + 2) = (2, 6) ∧ (kg L).1 (a + 3) = (2, 6) ∧ (kg L).1 (a + 4) = (2, 6) ∧ (kg L).1 (a + 5) = (2, 4) ∧ (kg L).1 (a + 6) = (2, 4) ∧ (kg L).1 (a + 7) = (2, 4) ∧ (kg L).1 (a + 8) = (2, 4)
theorem kg_T21 (L : Nat) : kg_T L 21 := ⟨rfl, rfl, rfl, rfl, rfl, rfl, rfl, rfl, rfl, rfl, rfl, rfl, rfl, rfl, rfl, rfl, rfl⟩
theorem kg_T30 (L : Nat) : kg_T L 30 := ⟨rfl, rfl, rfl, rfl, rfl, rfl, rfl, rfl, rfl, rfl, rfl, rfl, rfl, rfl, rfl, rfl, rfl⟩
theorem kg_T45 (L : Nat) : kg_T L 45 := ⟨rfl, rfl, rfl, rfl, rfl, rfl, rfl, rfl, rfl, rfl, rfl, rfl, rfl, rfl, rfl, rfl, rfl⟩
theorem kg_T58 (L : Nat) : kg_T L 58 := ⟨rfl, rfl, rfl, rfl, rfl, rfl, rfl, rfl, rfl, rfl, rfl, rfl, rfl, rfl, rfl, rfl, rfl⟩
theorem kg_T67 (L : Nat) : kg_T L 67 := ⟨rfl, rfl, rfl, rfl, rfl, rfl, rfl, rfl, rfl, rfl, rfl, rfl, rfl, rfl, rfl, rfl, rfl⟩
/-- a row's cells -/
def kg_R (L a : Nat) : Prop := (kg L).1 a = (1, 3) ∧ (kg L).2.2 a 0 = a + 1 ∧ (kg L).1 (a + 1) = (2, 40)
theorem kg_rows (L : Nat) {i : Int} (h0 : 0 ≤ i) (h1 : i < 8) : (kg L).2.2 2 i = 3 + 2 * i.toNat ∧ kg_R L (3 + 2 * i.toNat) := by
  obtain ⟨n, rfl⟩ := Int.eq_ofNat_of_zero_le h0
  have h : n < 8 := by omega
  match n, h with
  | 0, _ => exact ⟨rfl, rfl, rfl, rfl⟩
  | 1, _ => exact ⟨rfl, rfl, rfl, rfl⟩
  | 2, _ => exact ⟨rfl, rfl, rfl, rfl⟩
  | 3, _ => exact ⟨rfl, rfl, rfl, rfl⟩
  | 4, _ => exact ⟨rfl, rfl, rfl, rfl⟩
  | 5, _ => exact ⟨rfl, rfl, rfl, rfl⟩
  | 6, _ => exact ⟨rfl, rfl, rfl, rfl⟩
  | 7, _ => exact ⟨rfl, rfl, rfl, rfl⟩
theorem kg_imgs (L : Nat) {i : Int} (h0 : 0 ≤ i) (h1 : i < 2) : (kg L).2.2 57 i = 58 + 9 * i.toNat ∧ kg_T L (58 + 9 * i.toNat) := by
  obtain ⟨n, rfl⟩ := Int.eq_ofNat_of_zero_le h0
  have h : n < 2 := by omega
  match n, h with
  | 0, _ => exact ⟨rfl, kg_T58 L⟩
  | 1, _ => exact ⟨rfl, kg_T67 L⟩
theorem kx_ifs {c A B : Prop} [Decidable c] (h1 : c → A) (h0 : ¬ c → B) : if c then A else B := by
  split
  · exact h1 ‹_›
  · exact h0 ‹_›
theorem kx_up_row {μ : kx_M} {a b : Nat} {i v : Int} (h : b ≠ a) : kx_up μ a i v b = μ b := by
  funext j
  simp [kx_up, h]
def up1 (f : Int → Int) (i v : Int) : Int → Int := fun j => if j = i then v else f j
theorem up1_at (f : Int → Int) (i v j : Int) : up1 f i v j = if j = i then v else f j := rfl
def kx_row (μ : kx_M) (c : Nat) (f : Int → Int) : kx_M := fun b j => if b = c then f j else μ b j
theorem kx_row_at (μ : kx_M) (c : Nat) (f : Int → Int) (b : Nat) (j : Int) : kx_row μ c f b j = if b = c then f j else μ b j := rfl
theorem kx_row_self (μ : kx_M) (c : Nat) (f : Int → Int) : kx_row μ c f c = f := by funext j; simp [kx_row]
theorem kx_row_ne {μ : kx_M} {c b : Nat} {f : Int → Int} (h : b ≠ c) : kx_row μ c f b = μ b := by funext j; simp [kx_row, h]
theorem kx_row_id (μ : kx_M) (c : Nat) : kx_row μ c (μ c) = μ := by
  funext b j; by_cases h : b = c <;> simp [kx_row, h]
theorem kx_row_row (μ : kx_M) (c : Nat) (f g : Int → Int) : kx_row (kx_row μ c f) c g = kx_row μ c g := by
  funext b j; by_cases h : b = c <;> simp [kx_row, h]
theorem kx_up_up1 (μ : kx_M) (a : Nat) (i v : Int) : kx_up μ a i v = kx_row μ a (up1 (μ a) i v) := by
  funext b j
  by_cases h : b = a
  · subst h; simp [kx_up, kx_row, up1]
  · simp [kx_up, kx_row, h]
theorem kx_up_row_row (μ : kx_M) (a : Nat) (f : Int → Int) (i v : Int) : kx_up (kx_row μ a f) a i v = kx_row μ a (up1 f i v) := by
  rw [kx_up_up1, kx_row_self, kx_row_row]
theorem kx_and_in (a b : Int) : kx_in (kx_and a b) := by
  have h1 := Int32.le_toInt (Int32.ofInt a &&& Int32.ofInt b)
  have h2 := Int32.toInt_lt (Int32.ofInt a &&& Int32.ofInt b)
  unfold kx_and
  exact ⟨by omega, by omega⟩
theorem kx_or_in (a b : Int) : kx_in (kx_or a b) := by
  have h1 := Int32.le_toInt (Int32.ofInt a ||| Int32.ofInt b)
  have h2 := Int32.toInt_lt (Int32.ofInt a ||| Int32.ofInt b)
  unfold kx_or
  exact ⟨by omega, by omega⟩
end
section
section SM
variable {d L : Nat} {G : kx_G} {μ : kx_M} {Q : Option kx_V → kx_G → kx_M → Prop}
theorem r_isBetween {v lo hi : Int} (hv : kx_in v) (hl : kx_in lo) (hh : kx_in hi) (t1 : lo ≤ v ∧ v ≤ hi → Q (some (kI 1)) G μ) (t0 : ¬ (lo ≤ v ∧ v ≤ hi) → Q (some (kI 0)) G μ) : kx_cx (ke (d + 1)) 113 [kI v, kI lo, kI hi] G μ Q := by
  obtain ⟨_, _⟩ := hv; obtain ⟨_, _⟩ := hl; obtain ⟨_, _⟩ := hh
  refine ke_start (tb := kt_X_isBetween) (ls := [some (kI v), some (kI lo), some (kI hi)]) rfl rfl ?_
  refine ks_iload_n rfl rfl ?_
  refine ks_iload_n rfl rfl ?_
  refine ks_icmp_gt rfl ⟨by omega, by omega⟩ ⟨by omega, by omega⟩ (fun h1 => ?_) (fun h1 => ?_)
  · refine ks_iconst rfl ?_
    refine ks_zreturn rfl (by omega) ?_
    first | exact t1 (by omega) | exact t0 (by omega)
  · refine ks_iload_n rfl rfl ?_
    refine ks_iload_n rfl rfl ?_
    refine ks_icmp_gt rfl ⟨by omega, by omega⟩ ⟨by omega, by omega⟩ (fun h2 => ?_) (fun h2 => ?_)
    · refine ks_iconst rfl ?_
      refine ks_zreturn rfl (by omega) ?_
      first | exact t1 (by omega) | exact t0 (by omega)
    · refine ks_iconst rfl ?_
      refine ks_goto rfl ?_
      refine ks_zreturn rfl (by omega) ?_
      first | exact t1 (by omega) | exact t0 (by omega)
theorem r_isRow {v : Int} (hv : kx_in v) (t1 : 0 ≤ v ∧ v ≤ 7 → Q (some (kI 1)) G μ) (t0 : ¬ (0 ≤ v ∧ v ≤ 7) → Q (some (kI 0)) G μ) : kx_cx (ke (d + 2)) 110 [kI v] G μ Q := by
  obtain ⟨_, _⟩ := hv
  refine ke_start (tb := kt_X_isRow) (ls := [some (kI v)]) rfl rfl ?_
  refine ks_iload_n rfl rfl ?_
  refine ks_iconst rfl ?_
  refine ks_bipush rfl ?_
  refine ks_calls_3 rfl (Nat.le_of_ble_eq_true rfl) ?_
  refine r_isBetween ⟨by omega, by omega⟩ ⟨by omega, by omega⟩ ⟨by omega, by omega⟩ (fun h1 => ?_) (fun h1 => ?_)
  · show kx_wx _ _ _ _ _ (_ :: _) _ _
    refine ks_zreturn rfl (by omega) ?_
    first | exact t1 (by omega) | exact t0 (by omega)
  · show kx_wx _ _ _ _ _ (_ :: _) _ _
    refine ks_zreturn rfl (by omega) ?_
    first | exact t1 (by omega) | exact t0 (by omega)
theorem r_isImage {v : Int} (hv : kx_in v) (t1 : 0 ≤ v ∧ v ≤ 1 → Q (some (kI 1)) G μ) (t0 : ¬ (0 ≤ v ∧ v ≤ 1) → Q (some (kI 0)) G μ) : kx_cx (ke (d + 2)) 111 [kI v] G μ Q := by
  obtain ⟨_, _⟩ := hv
  refine ke_start (tb := kt_X_isImage) (ls := [some (kI v)]) rfl rfl ?_
  refine ks_iload_n rfl rfl ?_
  refine ks_iconst rfl ?_
  refine ks_iconst rfl ?_
  refine ks_calls_3 rfl (Nat.le_of_ble_eq_true rfl) ?_
  refine r_isBetween ⟨by omega, by omega⟩ ⟨by omega, by omega⟩ ⟨by omega, by omega⟩ (fun h1 => ?_) (fun h1 => ?_)
  · show kx_wx _ _ _ _ _ (_ :: _) _ _
    refine ks_zreturn rfl (by omega) ?_
    first | exact t1 (by omega) | exact t0 (by omega)
  · show kx_wx _ _ _ _ _ (_ :: _) _ _
    refine ks_zreturn rfl (by omega) ?_
    first | exact t1 (by omega) | exact t0 (by omega)
theorem r_isSpan {v : Int} (hv : kx_in v) (t1 : 0 ≤ v ∧ v ≤ 60 → Q (some (kI 1)) G μ) (t0 : ¬ (0 ≤ v ∧ v ≤ 60) → Q (some (kI 0)) G μ) : kx_cx (ke (d + 2)) 112 [kI v] G μ Q := by
  obtain ⟨_, _⟩ := hv
  refine ke_start (tb := kt_X_isSpan) (ls := [some (kI v)]) rfl rfl ?_
  refine ks_iload_n rfl rfl ?_
  refine ks_iconst rfl ?_
  refine ks_bipush rfl ?_
  refine ks_calls_3 rfl (Nat.le_of_ble_eq_true rfl) ?_
  refine r_isBetween ⟨by omega, by omega⟩ ⟨by omega, by omega⟩ ⟨by omega, by omega⟩ (fun h1 => ?_) (fun h1 => ?_)
  · show kx_wx _ _ _ _ _ (_ :: _) _ _
    refine ks_zreturn rfl (by omega) ?_
    first | exact t1 (by omega) | exact t0 (by omega)
  · show kx_wx _ _ _ _ _ (_ :: _) _ _
    refine ks_zreturn rfl (by omega) ?_
    first | exact t1 (by omega) | exact t0 (by omega)
theorem r_finding {n : Int} (t : Q (some (kI (-1000010 - n))) (kg L) (kx_up μ 1 10 n)) : kx_cx (ke (d + 1)) 105 [kR 1, kI n] (kg L) μ Q := by
  refine ke_start (tb := kt_X_finding) (ls := [some (kR 1), some (kI n)]) rfl rfl ?_
  refine ks_aload_n rfl rfl ?_
  refine ks_iload_n rfl rfl ?_
  refine ks_puti rfl rfl ?_
  refine ks_ldc_w rfl ?_
  refine ks_iload_n rfl rfl ?_
  refine ks_isub rfl ?_
  refine ks_ireturn rfl ?_
  exact t
theorem r_noFinding {n : Int} (t : Q (some (kI n)) (kg L) (kx_up μ 1 10 0)) : kx_cx (ke (d + 1)) 106 [kR 1, kI n] (kg L) μ Q := by
  refine ke_start (tb := kt_X_noFinding) (ls := [some (kR 1), some (kI n)]) rfl rfl ?_
  refine ks_aload_n rfl rfl ?_
  refine ks_iconst rfl ?_
  refine ks_puti rfl rfl ?_
  refine ks_iload_n rfl rfl ?_
  refine ks_ireturn rfl ?_
  exact t
theorem r_isNoTown (hb : kx_in (μ 30 8)) (t1 : μ 30 8 = 0 → Q (some (kI 1)) (kg L) μ) (t0 : ¬ μ 30 8 = 0 → Q (some (kI 0)) (kg L) μ) : kx_cx (ke (d + 1)) 109 [kR 1] (kg L) μ Q := by
  obtain ⟨_, _⟩ := hb
  refine ke_start (tb := kt_X_isNoTown) (ls := [some (kR 1)]) rfl rfl ?_
  refine ks_aload_n rfl rfl ?_
  refine ks_getr (b := 30) rfl rfl rfl rfl (by decide) ?_
  refine ks_geti rfl rfl rfl rfl (by (try simp only [kx_up_at, kx_row_at, up1_at, Nat.reduceEqDiff, Int.reduceEq, Int.reduceNeg, and_true, true_and, and_false, false_and, and_self, reduceIte, Nat.add_left_cancel_iff, Nat.add_eq_left, Nat.left_eq_add, Nat.reduceAdd, Int.add_left_inj, Int.add_right_inj]); rfl) ?_
  refine ks_if_ne rfl ⟨by omega, by omega⟩ (fun h1 => ?_) (fun h1 => ?_)
  · refine ks_iconst rfl ?_
    refine ks_goto rfl ?_
    refine ks_zreturn rfl (by omega) ?_
    first | exact t1 (by omega) | exact t0 (by omega)
  · refine ks_iconst rfl ?_
    refine ks_zreturn rfl (by omega) ?_
    first | exact t1 (by omega) | exact t0 (by omega)
theorem r_in {v lo hi : Int} (hv : kx_inL v) (hl : kx_inL lo) (hh : kx_inL hi) (t1 : lo ≤ v ∧ v ≤ hi → Q (some (kI 1)) G μ) (t0 : ¬ (lo ≤ v ∧ v ≤ hi) → Q (some (kI 0)) G μ) : kx_cx (ke (d + 1)) 116 [kL v, kL lo, kL hi] G μ Q := by
  obtain ⟨_, _⟩ := hv; obtain ⟨_, _⟩ := hl; obtain ⟨_, _⟩ := hh
  refine ke_start (tb := kt_M_in) (ls := [some (kL v), none, some (kL lo), none, some (kL hi), none]) rfl rfl ?_
  refine ks_lload_n rfl rfl ?_
  refine ks_lload_n rfl rfl ?_
  refine ks_lcmp rfl ⟨by omega, by omega⟩ ⟨by omega, by omega⟩ (fun hl => ?_) (fun hl => ?_) (fun hl => ?_)
  · refine ks_if_lt_m rfl ?_
    refine ks_iconst rfl ?_
    refine ks_zreturn rfl (by omega) ?_
    first | exact t1 (by omega) | exact t0 (by omega)
  · refine ks_if_lt_0 rfl ?_
    refine ks_lload_n rfl rfl ?_
    refine ks_lload rfl rfl ?_
    refine ks_lcmp rfl ⟨by omega, by omega⟩ ⟨by omega, by omega⟩ (fun hl => ?_) (fun hl => ?_) (fun hl => ?_)
    · refine ks_if_gt_m rfl ?_
      refine ks_iconst rfl ?_
      refine ks_goto rfl ?_
      refine ks_zreturn rfl (by omega) ?_
      first | exact t1 (by omega) | exact t0 (by omega)
    · refine ks_if_gt_0 rfl ?_
      refine ks_iconst rfl ?_
      refine ks_goto rfl ?_
      refine ks_zreturn rfl (by omega) ?_
      first | exact t1 (by omega) | exact t0 (by omega)
    · refine ks_if_gt_1 rfl ?_
      refine ks_iconst rfl ?_
      refine ks_zreturn rfl (by omega) ?_
      first | exact t1 (by omega) | exact t0 (by omega)
  · refine ks_if_lt_1 rfl ?_
    refine ks_lload_n rfl rfl ?_
    refine ks_lload rfl rfl ?_
    refine ks_lcmp rfl ⟨by omega, by omega⟩ ⟨by omega, by omega⟩ (fun hl => ?_) (fun hl => ?_) (fun hl => ?_)
    · refine ks_if_gt_m rfl ?_
      refine ks_iconst rfl ?_
      refine ks_goto rfl ?_
      refine ks_zreturn rfl (by omega) ?_
      first | exact t1 (by omega) | exact t0 (by omega)
    · refine ks_if_gt_0 rfl ?_
      refine ks_iconst rfl ?_
      refine ks_goto rfl ?_
      refine ks_zreturn rfl (by omega) ?_
      first | exact t1 (by omega) | exact t0 (by omega)
    · refine ks_if_gt_1 rfl ?_
      refine ks_iconst rfl ?_
      refine ks_zreturn rfl (by omega) ?_
      first | exact t1 (by omega) | exact t0 (by omega)
theorem r_MisRow {v : Int} (hv : kx_in v) (t1 : 0 ≤ v ∧ v ≤ 7 → Q (some (kI 1)) G μ) (t0 : ¬ (0 ≤ v ∧ v ≤ 7) → Q (some (kI 0)) G μ) : kx_cx (ke (d + 2)) 120 [kI v] G μ Q := by
  obtain ⟨_, _⟩ := hv
  refine ke_start (tb := kt_M_isRow) (ls := [some (kI v)]) rfl rfl ?_
  refine ks_iload_n rfl rfl ?_
  refine ks_i2l rfl ⟨by omega, by omega⟩ ?_
  refine ks_lconst rfl ?_
  refine ks_ldc2_w rfl ?_
  refine ks_calls_3 rfl (Nat.le_of_ble_eq_true rfl) ?_
  refine r_in ⟨by omega, by omega⟩ ⟨by omega, by omega⟩ ⟨by omega, by omega⟩ (fun h1 => ?_) (fun h1 => ?_)
  · show kx_wx _ _ _ _ _ (_ :: _) _ _
    refine ks_zreturn rfl (by omega) ?_
    first | exact t1 (by omega) | exact t0 (by omega)
  · show kx_wx _ _ _ _ _ (_ :: _) _ _
    refine ks_zreturn rfl (by omega) ?_
    first | exact t1 (by omega) | exact t0 (by omega)
theorem r_isFar {v : Int} (hv : kx_in v) (t1 : 0 ≤ v ∧ v ≤ 60 → Q (some (kI 1)) G μ) (t0 : ¬ (0 ≤ v ∧ v ≤ 60) → Q (some (kI 0)) G μ) : kx_cx (ke (d + 2)) 156 [kI v] G μ Q := by
  obtain ⟨_, _⟩ := hv
  refine ke_start (tb := kt_M_isFar) (ls := [some (kI v)]) rfl rfl ?_
  refine ks_iload_n rfl rfl ?_
  refine ks_i2l rfl ⟨by omega, by omega⟩ ?_
  refine ks_lconst rfl ?_
  refine ks_ldc2_w rfl ?_
  refine ks_calls_3 rfl (Nat.le_of_ble_eq_true rfl) ?_
  refine r_in ⟨by omega, by omega⟩ ⟨by omega, by omega⟩ ⟨by omega, by omega⟩ (fun h1 => ?_) (fun h1 => ?_)
  · show kx_wx _ _ _ _ _ (_ :: _) _ _
    refine ks_zreturn rfl (by omega) ?_
    first | exact t1 (by omega) | exact t0 (by omega)
  · show kx_wx _ _ _ _ _ (_ :: _) _ _
    refine ks_zreturn rfl (by omega) ?_
    first | exact t1 (by omega) | exact t0 (by omega)
theorem r_find {n : Int} (t : Q (some (kI (-1000010 - n))) (kg L) (kx_up μ 77 3 n)) : kx_cx (ke (d + 1)) 118 [kR 77, kI n] (kg L) μ Q := by
  refine ke_start (tb := kt_M_find) (ls := [some (kR 77), some (kI n)]) rfl rfl ?_
  refine ks_aload_n rfl rfl ?_
  refine ks_iload_n rfl rfl ?_
  refine ks_puti rfl rfl ?_
  refine ks_ldc rfl ?_
  refine ks_iload_n rfl rfl ?_
  refine ks_isub rfl ?_
  refine ks_ireturn rfl ?_
  exact t
theorem r_well {n : Int} (t : Q (some (kI n)) (kg L) (kx_up μ 77 3 0)) : kx_cx (ke (d + 1)) 119 [kR 77, kI n] (kg L) μ Q := by
  refine ke_start (tb := kt_M_well) (ls := [some (kR 77), some (kI n)]) rfl rfl ?_
  refine ks_aload_n rfl rfl ?_
  refine ks_iconst rfl ?_
  refine ks_puti rfl rfl ?_
  refine ks_iload_n rfl rfl ?_
  refine ks_ireturn rfl ?_
  exact t
theorem r_isHead {v : Int} (hv : kx_in v) (hb : kx_in (μ 81 1 - 1)) (t1 : 0 ≤ v ∧ v < μ 81 1 → Q (some (kI 1)) (kg L) μ) (t0 : ¬ (0 ≤ v ∧ v < μ 81 1) → Q (some (kI 0)) (kg L) μ) : kx_cx (ke (d + 2)) 137 [kR 77, kI v] (kg L) μ Q := by
  obtain ⟨_, _⟩ := hv; obtain ⟨_, _⟩ := hb
  refine ke_start (tb := kt_M_isHead) (ls := [some (kR 77), some (kI v)]) rfl rfl ?_
  refine ks_iload_n rfl rfl ?_
  refine ks_i2l rfl ⟨by omega, by omega⟩ ?_
  refine ks_lconst rfl ?_
  refine ks_aload_n rfl rfl ?_
  refine ks_getr (b := 81) rfl rfl rfl rfl (by decide) ?_
  refine ks_iconst rfl ?_
  refine ks_iaload rfl rfl (by omega) (by omega) (by (try simp only [kx_up_at, kx_row_at, up1_at, Nat.reduceEqDiff, Int.reduceEq, Int.reduceNeg, and_true, true_and, and_false, false_and, and_self, reduceIte, Nat.add_left_cancel_iff, Nat.add_eq_left, Nat.left_eq_add, Nat.reduceAdd, Int.add_left_inj, Int.add_right_inj]); rfl) ?_
  refine ks_iconst rfl ?_
  refine ks_isub rfl ?_
  refine ks_i2l rfl ⟨by omega, by omega⟩ ?_
  refine ks_calls_3 rfl (Nat.le_of_ble_eq_true rfl) ?_
  refine r_in ⟨by omega, by omega⟩ ⟨by omega, by omega⟩ ⟨by omega, by omega⟩ (fun h1 => ?_) (fun h1 => ?_)
  · show kx_wx _ _ _ _ _ (_ :: _) _ _
    refine ks_zreturn rfl (by omega) ?_
    first | exact t1 (by omega) | exact t0 (by omega)
  · show kx_wx _ _ _ _ _ (_ :: _) _ _
    refine ks_zreturn rfl (by omega) ?_
    first | exact t1 (by omega) | exact t0 (by omega)
theorem r_isOrder {v : Int} (hv : kx_in v) (hb : kx_in (μ 81 2 - 1)) (t1 : 0 ≤ v ∧ v < μ 81 2 → Q (some (kI 1)) (kg L) μ) (t0 : ¬ (0 ≤ v ∧ v < μ 81 2) → Q (some (kI 0)) (kg L) μ) : kx_cx (ke (d + 2)) 138 [kR 77, kI v] (kg L) μ Q := by
  obtain ⟨_, _⟩ := hv; obtain ⟨_, _⟩ := hb
  refine ke_start (tb := kt_M_isOrder) (ls := [some (kR 77), some (kI v)]) rfl rfl ?_
  refine ks_iload_n rfl rfl ?_
  refine ks_i2l rfl ⟨by omega, by omega⟩ ?_
  refine ks_lconst rfl ?_
  refine ks_aload_n rfl rfl ?_
  refine ks_getr (b := 81) rfl rfl rfl rfl (by decide) ?_
  refine ks_iconst rfl ?_
  refine ks_iaload rfl rfl (by omega) (by omega) (by (try simp only [kx_up_at, kx_row_at, up1_at, Nat.reduceEqDiff, Int.reduceEq, Int.reduceNeg, and_true, true_and, and_false, false_and, and_self, reduceIte, Nat.add_left_cancel_iff, Nat.add_eq_left, Nat.left_eq_add, Nat.reduceAdd, Int.add_left_inj, Int.add_right_inj]); rfl) ?_
  refine ks_iconst rfl ?_
  refine ks_isub rfl ?_
  refine ks_i2l rfl ⟨by omega, by omega⟩ ?_
  refine ks_calls_3 rfl (Nat.le_of_ble_eq_true rfl) ?_
  refine r_in ⟨by omega, by omega⟩ ⟨by omega, by omega⟩ ⟨by omega, by omega⟩ (fun h1 => ?_) (fun h1 => ?_)
  · show kx_wx _ _ _ _ _ (_ :: _) _ _
    refine ks_zreturn rfl (by omega) ?_
    first | exact t1 (by omega) | exact t0 (by omega)
  · show kx_wx _ _ _ _ _ (_ :: _) _ _
    refine ks_zreturn rfl (by omega) ?_
    first | exact t1 (by omega) | exact t0 (by omega)
theorem r_hasHead {a : Nat} {v : Int} (hT : kg_T L a) (hv : kx_in v) (hb : kx_in (μ a 8)) (t1 : 0 ≤ v ∧ v < μ a 8 → Q (some (kI 1)) (kg L) μ) (t0 : ¬ (0 ≤ v ∧ v < μ a 8) → Q (some (kI 0)) (kg L) μ) : kx_cx (ke (d + 1)) 57 [kR a, kI v] (kg L) μ Q := by
  obtain ⟨_, _⟩ := hv; obtain ⟨_, _⟩ := hb
  obtain ⟨_, _⟩ := hT
  refine ke_start (tb := kt_Town_hasHead) (ls := [some (kR a), some (kI v)]) rfl rfl ?_
  refine ks_iconst rfl ?_
  refine ks_iload_n rfl rfl ?_
  refine ks_icmp_gt rfl ⟨by omega, by omega⟩ ⟨by omega, by omega⟩ (fun h1 => ?_) (fun h1 => ?_)
  · refine ks_iconst rfl ?_
    refine ks_zreturn rfl (by omega) ?_
    first | exact t1 (by omega) | exact t0 (by omega)
  · refine ks_iload_n rfl rfl ?_
    refine ks_aload_n rfl rfl ?_
    refine ks_geti rfl rfl (by assumption) rfl (by (try simp only [kx_up_at, kx_row_at, up1_at, Nat.reduceEqDiff, Int.reduceEq, Int.reduceNeg, and_true, true_and, and_false, false_and, and_self, reduceIte, Nat.add_left_cancel_iff, Nat.add_eq_left, Nat.left_eq_add, Nat.reduceAdd, Int.add_left_inj, Int.add_right_inj]); rfl) ?_
    refine ks_icmp_ge rfl ⟨by omega, by omega⟩ ⟨by omega, by omega⟩ (fun h2 => ?_) (fun h2 => ?_)
    · refine ks_iconst rfl ?_
      refine ks_goto rfl ?_
      refine ks_zreturn rfl (by omega) ?_
      first | exact t1 (by omega) | exact t0 (by omega)
    · refine ks_iconst rfl ?_
      refine ks_zreturn rfl (by omega) ?_
      first | exact t1 (by omega) | exact t0 (by omega)
theorem r_hasOrder {a : Nat} {v : Int} (hT : kg_T L a) (hv : kx_in v) (hb : kx_in (μ a 9)) (t1 : 0 ≤ v ∧ v < μ a 9 → Q (some (kI 1)) (kg L) μ) (t0 : ¬ (0 ≤ v ∧ v < μ a 9) → Q (some (kI 0)) (kg L) μ) : kx_cx (ke (d + 1)) 58 [kR a, kI v] (kg L) μ Q := by
  obtain ⟨_, _⟩ := hv; obtain ⟨_, _⟩ := hb
  obtain ⟨_, _⟩ := hT
  refine ke_start (tb := kt_Town_hasOrder) (ls := [some (kR a), some (kI v)]) rfl rfl ?_
  refine ks_iconst rfl ?_
  refine ks_iload_n rfl rfl ?_
  refine ks_icmp_gt rfl ⟨by omega, by omega⟩ ⟨by omega, by omega⟩ (fun h1 => ?_) (fun h1 => ?_)
  · refine ks_iconst rfl ?_
    refine ks_zreturn rfl (by omega) ?_
    first | exact t1 (by omega) | exact t0 (by omega)
  · refine ks_iload_n rfl rfl ?_
    refine ks_aload_n rfl rfl ?_
    refine ks_geti rfl rfl (by assumption) rfl (by (try simp only [kx_up_at, kx_row_at, up1_at, Nat.reduceEqDiff, Int.reduceEq, Int.reduceNeg, and_true, true_and, and_false, false_and, and_self, reduceIte, Nat.add_left_cancel_iff, Nat.add_eq_left, Nat.left_eq_add, Nat.reduceAdd, Int.add_left_inj, Int.add_right_inj]); rfl) ?_
    refine ks_icmp_ge rfl ⟨by omega, by omega⟩ ⟨by omega, by omega⟩ (fun h2 => ?_) (fun h2 => ?_)
    · refine ks_iconst rfl ?_
      refine ks_goto rfl ?_
      refine ks_zreturn rfl (by omega) ?_
      first | exact t1 (by omega) | exact t0 (by omega)
    · refine ks_iconst rfl ?_
      refine ks_zreturn rfl (by omega) ?_
      first | exact t1 (by omega) | exact t0 (by omega)
theorem r_isMissing {a : Nat} (hR : kg_R L a) (hb : kx_in (μ a 2)) (t1 : μ a 2 = -1 → Q (some (kI 1)) (kg L) μ) (t0 : ¬ μ a 2 = -1 → Q (some (kI 0)) (kg L) μ) : kx_cx (ke (d + 1)) 31 [kR a] (kg L) μ Q := by
  obtain ⟨_, _⟩ := hb
  obtain ⟨_, _⟩ := hR
  refine ke_start (tb := kt_Row_isMissing) (ls := [some (kR a)]) rfl rfl ?_
  refine ks_aload_n rfl rfl ?_
  refine ks_geti rfl rfl (by assumption) rfl (by (try simp only [kx_up_at, kx_row_at, up1_at, Nat.reduceEqDiff, Int.reduceEq, Int.reduceNeg, and_true, true_and, and_false, false_and, and_self, reduceIte, Nat.add_left_cancel_iff, Nat.add_eq_left, Nat.left_eq_add, Nat.reduceAdd, Int.add_left_inj, Int.add_right_inj]); rfl) ?_
  refine ks_iconst rfl ?_
  refine ks_icmp_ne rfl ⟨by omega, by omega⟩ ⟨by omega, by omega⟩ (fun h1 => ?_) (fun h1 => ?_)
  · refine ks_iconst rfl ?_
    refine ks_goto rfl ?_
    refine ks_zreturn rfl (by omega) ?_
    first | exact t1 (by omega) | exact t0 (by omega)
  · refine ks_iconst rfl ?_
    refine ks_zreturn rfl (by omega) ?_
    first | exact t1 (by omega) | exact t0 (by omega)
theorem r_hasPlaces {a : Nat} {i n : Int} (hR : kg_R L a) (hi : kx_in i) (hn : kx_in n) (hb : kx_in (μ a 2)) (t1 : 0 ≤ i ∧ 0 ≤ n ∧ i + n ≤ μ a 2 → Q (some (kI 1)) (kg L) μ) (t0 : ¬ (0 ≤ i ∧ 0 ≤ n ∧ i + n ≤ μ a 2) → Q (some (kI 0)) (kg L) μ) : kx_cx (ke (d + 1)) 34 [kR a, kI i, kI n] (kg L) μ Q := by
  obtain ⟨_, _⟩ := hb; obtain ⟨_, _⟩ := hi; obtain ⟨_, _⟩ := hn
  obtain ⟨_, _⟩ := hR
  refine ke_start (tb := kt_Row_hasPlaces) (ls := [some (kR a), some (kI i), some (kI n)]) rfl rfl ?_
  refine ks_iload_n rfl rfl ?_
  refine ks_if_lt rfl ⟨by omega, by omega⟩ (fun h1 => ?_) (fun h1 => ?_)
  · refine ks_iconst rfl ?_
    refine ks_zreturn rfl (by omega) ?_
    first | exact t1 (by omega) | exact t0 (by omega)
  · refine ks_iload_n rfl rfl ?_
    refine ks_if_lt rfl ⟨by omega, by omega⟩ (fun h2 => ?_) (fun h2 => ?_)
    · refine ks_iconst rfl ?_
      refine ks_zreturn rfl (by omega) ?_
      first | exact t1 (by omega) | exact t0 (by omega)
    · refine ks_iload_n rfl rfl ?_
      refine ks_i2l rfl ⟨by omega, by omega⟩ ?_
      refine ks_iload_n rfl rfl ?_
      refine ks_i2l rfl ⟨by omega, by omega⟩ ?_
      refine ks_ladd rfl ?_
      refine ks_aload_n rfl rfl ?_
      refine ks_geti rfl rfl (by assumption) rfl (by (try simp only [kx_up_at, kx_row_at, up1_at, Nat.reduceEqDiff, Int.reduceEq, Int.reduceNeg, and_true, true_and, and_false, false_and, and_self, reduceIte, Nat.add_left_cancel_iff, Nat.add_eq_left, Nat.left_eq_add, Nat.reduceAdd, Int.add_left_inj, Int.add_right_inj]); rfl) ?_
      refine ks_i2l rfl ⟨by omega, by omega⟩ ?_
      refine ks_lcmp rfl ⟨by omega, by omega⟩ ⟨by omega, by omega⟩ (fun hl => ?_) (fun hl => ?_) (fun hl => ?_)
      · refine ks_if_gt_m rfl ?_
        refine ks_iconst rfl ?_
        refine ks_goto rfl ?_
        refine ks_zreturn rfl (by omega) ?_
        first | exact t1 (by omega) | exact t0 (by omega)
      · refine ks_if_gt_0 rfl ?_
        refine ks_iconst rfl ?_
        refine ks_goto rfl ?_
        refine ks_zreturn rfl (by omega) ?_
        first | exact t1 (by omega) | exact t0 (by omega)
      · refine ks_if_gt_1 rfl ?_
        refine ks_iconst rfl ?_
        refine ks_zreturn rfl (by omega) ?_
        first | exact t1 (by omega) | exact t0 (by omega)
end SM
end
section
/-! rows of numbers, and what a town does, as functions -/
/-- bit k of x, as both programs look at it -/
def tw_has (x k : Int) : Prop := kx_and (x.bmod 4294967296 / 2 ^ k.toNat) 1 = 1
/-- order k can be worked on by head h -/
def tw_P (s : Int → Int) (h k : Int) : Prop := s (38 + k) = 0 ∧ tw_has (s (18 + h)) k
def tw_dec (s : Int → Int) (h k : Int) : Decidable (tw_P s h k) := by unfold tw_P tw_has; exact inferInstanceAs (Decidable (_ ∧ _))
/-- the order that is found among the first n, from the last down -/
def tw_f (s : Int → Int) (h : Int) : Nat → Int → Int
  | 0, f => f
  | n + 1, f => tw_f s h n (if s (38 + n) = 0 ∧ kx_and ((s (18 + h)).bmod 4294967296 / 2 ^ (n : Int).toNat) 1 = 1 then n else f)
def tw_found (s : Int → Int) (h : Int) : Int := tw_f s h (s 2).toNat (-1)
/-- how many of the first n are out -/
def tw_oc (s : Int → Int) : Nat → Int
  | 0 => 0
  | n + 1 => tw_oc s n + (if s (38 + n) = 0 then 1 else 0)
def tw_out (s : Int → Int) : Int := tw_oc s (s 2).toNat
/-- head h does 1 of order f -/
def tw_work (s : Int → Int) (h f : Int) : Int → Int :=
  if f < 0 then s else
  if s (34 + f) - 1 = 0 then up1 (up1 (up1 (up1 s (34 + f) (s (34 + f) - 1)) (24 + h) (s (24 + h) + 1)) (38 + f) 1) (42 + f) (s 3 + 1)
  else up1 (up1 s (34 + f) (s (34 + f) - 1)) (24 + h) (s (24 + h) + 1)
def tw_on (s : Int → Int) (h : Int) : Int :=
  if s (6 + h) = 2 then (h + 2) % s 1 else if s (6 + h) = 4 then (h + s 0) % s 1 else if s (6 + h) = 5 then (h - s 0) % s 1 else (h + 1) % s 1
/-- one step more of time -/
def tw_tick (s : Int → Int) : Int → Int := up1 (up1 s 5 (s 5 + 1)) 3 (s 3 + 1)
def tw_goes (s : Int → Int) (h : Int) : Int → Int :=
  if s 5 < s (12 + h) + (if s (6 + h) = 3 then tw_out s else 0) then s else up1 (up1 s 4 (tw_on s h)) 5 0
def tw_step (s : Int → Int) : Int → Int := tw_goes (tw_tick (tw_work s (s 4) (tw_found s (s 4)))) (s 4)
def tw_go (s : Int → Int) : Nat → Int → Int
  | 0 => s
  | n + 1 => tw_step (tw_go s n)
/-- a town as it must be; its step is at most B -/
def tw_W (B : Int) (s : Int → Int) : Prop := (1 ≤ s 1 ∧ s 1 ≤ 6) ∧ (0 ≤ s 2 ∧ s 2 ≤ 4) ∧ (0 ≤ s 4 ∧ s 4 < s 1) ∧ (0 ≤ s 0 ∧ s 0 ≤ 5) ∧ (0 ≤ s 3 ∧ s 3 ≤ B) ∧ (0 ≤ s 5 ∧ s 5 ≤ 13) ∧
  (∀ i, 0 ≤ i → i < s 1 → (1 ≤ s (6 + i) ∧ s (6 + i) ≤ 5) ∧ (1 ≤ s (12 + i) ∧ s (12 + i) ≤ 9) ∧ (0 ≤ s (18 + i) ∧ s (18 + i) ≤ 15) ∧ (0 ≤ s (24 + i) ∧ s (24 + i) ≤ s 3)) ∧
  (∀ k, 0 ≤ k → k < s 2 → (1 ≤ s (30 + k) ∧ s (30 + k) ≤ 40) ∧ (0 ≤ s (34 + k) ∧ s (34 + k) ≤ 40) ∧ (0 ≤ s (38 + k) ∧ s (38 + k) ≤ 2) ∧ (s (38 + k) = 0 → 1 ≤ s (34 + k)) ∧ (s (38 + k) = 1 → 1 ≤ s (42 + k) ∧ s (42 + k) ≤ s 3))
theorem tw_f_in (s : Int → Int) (h : Int) : ∀ (n : Nat) (f : Int), tw_f s h n f = f ∨ ∃ k : Nat, k < n ∧ tw_f s h n f = k ∧ tw_P s h k := by
  intro n
  induction n with
  | zero => intro f; exact Or.inl rfl
  | succ n ih =>
    intro f
    simp only [tw_f]
    by_cases hc : s (38 + n) = 0 ∧ kx_and ((s (18 + h)).bmod 4294967296 / 2 ^ (n : Int).toNat) 1 = 1
    · rw [if_pos hc]
      rcases ih n with q | ⟨k, q1, q2, q3⟩
      · exact Or.inr ⟨n, by omega, q, hc⟩
      · exact Or.inr ⟨k, by omega, q2, q3⟩
    · rw [if_neg hc]
      rcases ih f with q | ⟨k, q1, q2, q3⟩
      · exact Or.inl q
      · exact Or.inr ⟨k, by omega, q2, q3⟩
theorem tw_found_in (s : Int → Int) (h : Int) : tw_found s h = -1 ∨ (0 ≤ tw_found s h ∧ tw_found s h < s 2 ∧ tw_P s h (tw_found s h)) := by
  rcases tw_f_in s h (s 2).toNat (-1) with q | ⟨k, q1, q2, q3⟩
  · exact Or.inl q
  · refine Or.inr ?_
    unfold tw_found
    rw [q2]
    exact ⟨by omega, by omega, q3⟩
theorem tw_oc_in (s : Int → Int) : ∀ n : Nat, 0 ≤ tw_oc s n ∧ tw_oc s n ≤ n := by
  intro n
  induction n with
  | zero => exact ⟨Int.le_refl 0, Int.le_refl 0⟩
  | succ n ih => simp only [tw_oc]; split <;> omega
theorem tw_oc_congr {s t : Int → Int} : ∀ n : Nat, (∀ k : Nat, k < n → (s (38 + k) = 0 ↔ t (38 + k) = 0)) → tw_oc s n = tw_oc t n := by
  intro n
  induction n with
  | zero => intro _; rfl
  | succ n ih =>
    intro h
    simp only [tw_oc]
    rw [ih (fun k hk => h k (by omega))]
    have := h n (by omega)
    by_cases e : s (38 + n) = 0
    · rw [if_pos e, if_pos (this.mp e)]
    · rw [if_neg e, if_neg (fun q => e (this.mpr q))]
theorem tw_work_lo {s : Int → Int} {h f : Int} (hh : 0 ≤ h ∧ h < 6) (hf : f < 4) {j : Int} (hj : j < 24 ∨ 30 ≤ j ∧ j < 34) : tw_work s h f j = s j := by
  unfold tw_work
  split
  · rfl
  · split
    · simp only [up1_at]
      rw [if_neg (by omega), if_neg (by omega), if_neg (by omega), if_neg (by omega)]
    · simp only [up1_at]
      rw [if_neg (by omega), if_neg (by omega)]
theorem tw_work_how {s : Int → Int} {B h f : Int} (hw : tw_W B s) (hh : 0 ≤ h ∧ h < s 1) (hf : f = -1 ∨ 0 ≤ f ∧ f < s 2) {k : Int} (h0 : 0 ≤ k) (h1 : k < s 2) : 0 ≤ tw_work s h f (38 + k) ∧ tw_work s h f (38 + k) ≤ 2 := by
  obtain ⟨w1, w2, w3, w4, w5, w6, w7, w8⟩ := hw
  have := w8 k h0 h1
  unfold tw_work
  split
  · omega
  · split
    · simp only [up1_at]
      rw [if_neg (by omega)]
      split
      · omega
      · rw [if_neg (by omega), if_neg (by omega)]; omega
    · simp only [up1_at]
      rw [if_neg (by omega), if_neg (by omega)]; omega
theorem tw_tick_at {s : Int → Int} {j : Int} (h : j ≠ 5 ∧ j ≠ 3) : tw_tick s j = s j := by
  unfold tw_tick
  simp only [up1_at]
  rw [if_neg h.2, if_neg h.1]
theorem tw_mod {x n : Int} (h0 : 0 ≤ x) (hn : 0 < n) : x.tmod n = x % n := by rw [Int.tmod_eq_emod_of_nonneg h0]
end
section
section MT
variable {d L : Nat} {G : kx_G} {μ : kx_M} {Q : Option kx_V → kx_G → kx_M → Prop}
theorem r_has {x k : Int} (h0 : 0 ≤ k) (h1 : k < 32) (t1 : kx_and (x.bmod 4294967296 / 2 ^ k.toNat) 1 = 1 → Q (some (kI 1)) G μ) (t0 : ¬ kx_and (x.bmod 4294967296 / 2 ^ k.toNat) 1 = 1 → Q (some (kI 0)) G μ) : kx_cx (ke (d + 1)) 117 [kI x, kI k] G μ Q := by
  obtain ⟨_, _⟩ := kx_and_in (x.bmod 4294967296 / 2 ^ k.toNat) 1
  refine ke_start (tb := kt_M_has) (ls := [some (kI x), some (kI k)]) rfl rfl ?_
  refine ks_iload_n rfl rfl ?_
  refine ks_iload_n rfl rfl ?_
  refine ks_ishr rfl (by omega) (by omega) ?_
  refine ks_iconst rfl ?_
  refine ks_iand rfl ?_
  refine ks_iconst rfl ?_
  refine ks_icmp_ne rfl ⟨by omega, by omega⟩ ⟨by omega, by omega⟩ (fun h1 => ?_) (fun h1 => ?_)
  · refine ks_iconst rfl ?_
    refine ks_goto rfl ?_
    refine ks_zreturn rfl (by omega) ?_
    first | exact t1 (by omega) | exact t0 (by omega)
  · refine ks_iconst rfl ?_
    refine ks_zreturn rfl (by omega) ?_
    first | exact t1 (by omega) | exact t0 (by omega)
theorem l_outMany {s : Int → Int} (hs : μ 81 = s) (hk : ∀ k, 0 ≤ k → k < s 2 → 0 ≤ s (38 + k) ∧ s (38 + k) ≤ 2) (h2 : 0 ≤ s 2 ∧ s 2 ≤ 4) (t : Q (some (kI (tw_out s))) (kg L) μ) : ∀ (r j : Nat), j + r = (s 2).toNat → kx_wx (ke d) kt_M_outMany Q 4 [some (kR 77), some (kI (tw_oc s j)), some (kI j)] [] (kg L) μ := by
  intro r
  induction r with
  | zero =>
    intro j hj
    refine ks_iload_n rfl rfl ?_
    refine ks_aload_n rfl rfl ?_
    refine ks_getr (b := 81) rfl rfl rfl rfl (by decide) ?_
    refine ks_iconst rfl ?_
    refine ks_iaload rfl rfl (by omega) (by omega) (by (try simp only [kx_up_at, kx_row_at, up1_at, Nat.reduceEqDiff, Int.reduceEq, Int.reduceNeg, and_true, true_and, and_false, false_and, and_self, reduceIte, Nat.add_left_cancel_iff, Nat.add_eq_left, Nat.left_eq_add, Nat.reduceAdd, Int.add_left_inj, Int.add_right_inj, hs]); rfl) ?_
    -- at 11: if ge -> 40 else 14 st [None, None]
    refine ks_icmp_ge rfl ⟨by omega, by omega⟩ ⟨by omega, by omega⟩ (fun h => ?_) (fun h => ?_)
    · exact absurd h (by omega)
    · refine ks_iload_n rfl rfl ?_
      refine ks_ireturn rfl ?_
      -- at 41: ret  st [None]
      unfold tw_out at t
      rw [← hj] at t
      exact t
  | succ r ih =>
    intro j hj
    have hkj := hk j (by omega) (by omega)
    refine ks_iload_n rfl rfl ?_
    refine ks_aload_n rfl rfl ?_
    refine ks_getr (b := 81) rfl rfl rfl rfl (by decide) ?_
    refine ks_iconst rfl ?_
    refine ks_iaload rfl rfl (by omega) (by omega) (by (try simp only [kx_up_at, kx_row_at, up1_at, Nat.reduceEqDiff, Int.reduceEq, Int.reduceNeg, and_true, true_and, and_false, false_and, and_self, reduceIte, Nat.add_left_cancel_iff, Nat.add_eq_left, Nat.left_eq_add, Nat.reduceAdd, Int.add_left_inj, Int.add_right_inj, hs]); rfl) ?_
    -- at 11: if ge -> 40 else 14 st [None, None]
    refine ks_icmp_ge rfl ⟨by omega, by omega⟩ ⟨by omega, by omega⟩ (fun h => ?_) (fun h => ?_)
    · refine ks_iload_n rfl rfl ?_
      refine ks_aload_n rfl rfl ?_
      refine ks_getr (b := 81) rfl rfl rfl rfl (by decide) ?_
      refine ks_bipush rfl ?_
      refine ks_iload_n rfl rfl ?_
      refine ks_iadd rfl ?_
      refine ks_iaload rfl rfl (by omega) (by omega) (by (try simp only [kx_up_at, kx_row_at, up1_at, Nat.reduceEqDiff, Int.reduceEq, Int.reduceNeg, and_true, true_and, and_false, false_and, and_self, reduceIte, Nat.add_left_cancel_iff, Nat.add_eq_left, Nat.left_eq_add, Nat.reduceAdd, Int.add_left_inj, Int.add_right_inj, hs]); rfl) ?_
      -- at 24: if ne -> 31 else 27 st [None, None]
      refine ks_if_ne rfl ⟨by omega, by omega⟩ (fun h => ?_) (fun h => ?_)
      · refine ks_iconst rfl ?_
        refine ks_goto rfl ?_
        refine ks_iadd rfl ?_
        refine ks_istore_n_1 rfl rfl ?_
        refine ks_iinc_2 rfl rfl ?_
        refine ks_goto rfl ?_
        -- at 4: stop  st []
        have e : tw_oc s j + 1 = tw_oc s (j + 1) := by simp only [tw_oc]; rw [if_pos h]
        rw [e]
        exact ih (j + 1) (by omega)
      · refine ks_iconst rfl ?_
        refine ks_iadd rfl ?_
        refine ks_istore_n_1 rfl rfl ?_
        refine ks_iinc_2 rfl rfl ?_
        refine ks_goto rfl ?_
        -- at 4: stop  st []
        have e : tw_oc s j + 0 = tw_oc s (j + 1) := by simp only [tw_oc]; rw [if_neg h]
        rw [e]
        exact ih (j + 1) (by omega)
    · exact absurd h (by omega)
theorem r_outMany {s : Int → Int} (hs : μ 81 = s) (hk : ∀ k, 0 ≤ k → k < s 2 → 0 ≤ s (38 + k) ∧ s (38 + k) ≤ 2) (h2 : 0 ≤ s 2 ∧ s 2 ≤ 4) (t : Q (some (kI (tw_out s))) (kg L) μ) : kx_cx (ke (d + 1)) 139 [kR 77] (kg L) μ Q := by
  refine ke_start (tb := kt_M_outMany) (ls := [some (kR 77), none, none]) rfl rfl ?_
  refine ks_iconst rfl ?_
  refine ks_istore_n_1 rfl rfl ?_
  refine ks_iconst rfl ?_
  refine ks_istore_n_2 rfl rfl ?_
  -- at 4: stop  st []
  exact l_outMany hs hk h2 t (s 2).toNat 0 (by omega)
theorem l_work {s : Int → Int} {B h : Int} (hs : μ 81 = s) (hw : tw_W B s) (hh : 0 ≤ h ∧ h < s 1) (t : kx_wx (ke (d + 1)) kt_M_work Q 55 [some (kR 77), some (kI h), some (kI (tw_found s h)), some (kI (-1))] [] (kg L) μ) : ∀ (j : Nat) (f : Int), j ≤ (s 2).toNat → tw_f s h j f = tw_found s h → kx_wx (ke (d + 1)) kt_M_work Q 11 [some (kR 77), some (kI h), some (kI f), some (kI (j - 1))] [] (kg L) μ := by
  obtain ⟨w1, w2, w3, w4, w5, w6, w7, w8⟩ := hw
  have q7 := w7 h hh.1 hh.2
  intro j
  induction j with
  | zero =>
    intro f hj hf
    refine ks_iload_n rfl rfl ?_
    -- at 12: if lt -> 55 else 15 st [None]
    refine ks_if_lt rfl ⟨by omega, by omega⟩ (fun h => ?_) (fun h => ?_)
    · have := t
      simp only [tw_f] at hf
      rw [← hf] at this
      exact this
    · exact absurd h (by omega)
  | succ j ih =>
    intro f hj hf
    have e : ((j + 1 : Nat) : Int) - 1 = j := by omega
    rw [e]
    have q8 := w8 j (by omega) (by omega)
    simp only [tw_f] at hf
    refine ks_iload_n rfl rfl ?_
    -- at 12: if lt -> 55 else 15 st [None]
    refine ks_if_lt rfl ⟨by omega, by omega⟩ (fun h => absurd h (by omega)) (fun h => ?_)
    refine ks_aload_n rfl rfl ?_
    refine ks_getr (b := 81) rfl rfl rfl rfl (by decide) ?_
    refine ks_bipush rfl ?_
    refine ks_iload_n rfl rfl ?_
    refine ks_iadd rfl ?_
    refine ks_iaload rfl rfl (by omega) (by omega) (by (try simp only [kx_up_at, kx_row_at, up1_at, Nat.reduceEqDiff, Int.reduceEq, Int.reduceNeg, and_true, true_and, and_false, false_and, and_self, reduceIte, Nat.add_left_cancel_iff, Nat.add_eq_left, Nat.left_eq_add, Nat.reduceAdd, Int.add_left_inj, Int.add_right_inj, hs]); rfl) ?_
    -- at 24: if ne -> 47 else 27 st [None]
    refine ks_if_ne rfl ⟨by omega, by omega⟩ (fun h1 => ?_) (fun h1 => ?_)
    · refine ks_aload_n rfl rfl ?_
      refine ks_getr (b := 81) rfl rfl rfl rfl (by decide) ?_
      refine ks_bipush rfl ?_
      refine ks_iload_n rfl rfl ?_
      refine ks_iadd rfl ?_
      refine ks_iaload rfl rfl (by omega) (by omega) (by (try simp only [kx_up_at, kx_row_at, up1_at, Nat.reduceEqDiff, Int.reduceEq, Int.reduceNeg, and_true, true_and, and_false, false_and, and_self, reduceIte, Nat.add_left_cancel_iff, Nat.add_eq_left, Nat.left_eq_add, Nat.reduceAdd, Int.add_left_inj, Int.add_right_inj, hs]); rfl) ?_
      refine ks_iload_n rfl rfl ?_
      refine ks_calls_2 rfl (Nat.le_of_ble_eq_true rfl) ?_
      -- at 37: call M_has st []
      refine r_has (by omega) (by omega) (fun h2 => ?_) (fun h2 => ?_)
      · show kx_wx _ _ _ _ _ (_ :: _) _ _
        refine ks_if_eq_1 rfl ?_
        refine ks_iload_n rfl rfl ?_
        refine ks_goto rfl ?_
        refine ks_istore_n_2 rfl rfl ?_
        refine ks_iinc_3 rfl rfl ?_
        refine ks_goto rfl ?_
        -- at 11: stop  st []
        rw [if_pos ⟨h1, h2⟩] at hf
        exact ih j (by omega) hf
      · show kx_wx _ _ _ _ _ (_ :: _) _ _
        refine ks_if_eq_0 rfl ?_
        refine ks_iload_n rfl rfl ?_
        refine ks_istore_n_2 rfl rfl ?_
        refine ks_iinc_3 rfl rfl ?_
        refine ks_goto rfl ?_
        -- at 11: stop  st []
        rw [if_neg (fun q => h2 q.2)] at hf
        exact ih f (by omega) hf
    · refine ks_iload_n rfl rfl ?_
      refine ks_istore_n_2 rfl rfl ?_
      refine ks_iinc_3 rfl rfl ?_
      refine ks_goto rfl ?_
      -- at 11: stop  st []
      rw [if_neg (fun q => h1 q.1)] at hf
      exact ih f (by omega) hf
theorem r_work {s : Int → Int} {B h : Int} (hs : μ 81 = s) (hw : tw_W B s) (hh : 0 ≤ h ∧ h < s 1) (t : Q none (kg L) (kx_row μ 81 (tw_work s h (tw_found s h)))) : kx_cx (ke (d + 2)) 140 [kR 77, kI h] (kg L) μ Q := by
  refine ke_start (tb := kt_M_work) (ls := [some (kR 77), some (kI h), none, none]) rfl rfl ?_
  have hw0 := hw
  obtain ⟨w1, w2, w3, w4, w5, w6, w7, w8⟩ := hw
  refine ks_iconst rfl ?_
  refine ks_istore_n_2 rfl rfl ?_
  refine ks_aload_n rfl rfl ?_
  refine ks_getr (b := 81) rfl rfl rfl rfl (by decide) ?_
  refine ks_iconst rfl ?_
  refine ks_iaload rfl rfl (by omega) (by omega) (by (try simp only [kx_up_at, kx_row_at, up1_at, Nat.reduceEqDiff, Int.reduceEq, Int.reduceNeg, and_true, true_and, and_false, false_and, and_self, reduceIte, Nat.add_left_cancel_iff, Nat.add_eq_left, Nat.left_eq_add, Nat.reduceAdd, Int.add_left_inj, Int.add_right_inj, hs]); rfl) ?_
  refine ks_iconst rfl ?_
  refine ks_isub rfl ?_
  refine ks_istore_n_3 rfl rfl ?_
  -- at 11: stop  st []
  have e0 : s 2 - 1 = ((s 2).toNat : Int) - 1 := by omega
  rw [e0]
  refine l_work hs hw0 hh ?_ (s 2).toNat (-1) (Nat.le_refl _) rfl
  generalize hf : tw_found s h = f at t
  have hfi := tw_found_in s h
  rw [hf] at hfi
  refine ks_iload_n rfl rfl ?_
  -- at 56: if lt -> 124 else 59 st [None]
  refine ks_if_lt rfl ⟨by omega, by omega⟩ (fun h1 => ?_) (fun h1 => ?_)
  · refine ks_return rfl ?_
    -- at 124: ret  st []
    unfold tw_work at t
    rw [if_pos h1, ← hs, kx_row_id] at t
    exact t
  · obtain ⟨f1, f2, f3⟩ := hfi.resolve_left (by omega)
    have q8 := w8 f f1 f2
    have n1 : ¬ (24 + h = 34 + f) := by omega
    have n2 : ¬ (34 + f = 24 + h) := by omega
    have n3 : ¬ ((3 : Int) = 24 + h) := by omega
    have n4 : ¬ ((3 : Int) = 34 + f) := by omega
    have n5 : ¬ ((3 : Int) = 38 + f) := by omega
    refine ks_aload_n rfl rfl ?_
    refine ks_getr (b := 81) rfl rfl rfl rfl (by decide) ?_
    refine ks_bipush rfl ?_
    refine ks_iload_n rfl rfl ?_
    refine ks_iadd rfl ?_
    refine ks_dup2 rfl ?_
    refine ks_iaload rfl rfl (by omega) (by omega) (by (try simp only [kx_up_at, kx_row_at, up1_at, Nat.reduceEqDiff, Int.reduceEq, Int.reduceNeg, and_true, true_and, and_false, false_and, and_self, reduceIte, Nat.add_left_cancel_iff, Nat.add_eq_left, Nat.left_eq_add, Nat.reduceAdd, Int.add_left_inj, Int.add_right_inj, hs, n1, n2, n3, n4, n5]); rfl) ?_
    refine ks_iconst rfl ?_
    refine ks_isub rfl ?_
    refine ks_iastore rfl rfl (by omega) (by omega) ?_
    refine ks_aload_n rfl rfl ?_
    refine ks_getr (b := 81) rfl rfl rfl rfl (by decide) ?_
    refine ks_bipush rfl ?_
    refine ks_iload_n rfl rfl ?_
    refine ks_iadd rfl ?_
    refine ks_dup2 rfl ?_
    refine ks_iaload rfl rfl (by omega) (by omega) (by (try simp only [kx_up_at, kx_row_at, up1_at, Nat.reduceEqDiff, Int.reduceEq, Int.reduceNeg, and_true, true_and, and_false, false_and, and_self, reduceIte, Nat.add_left_cancel_iff, Nat.add_eq_left, Nat.left_eq_add, Nat.reduceAdd, Int.add_left_inj, Int.add_right_inj, hs, n1, n2, n3, n4, n5]); rfl) ?_
    refine ks_iconst rfl ?_
    refine ks_iadd rfl ?_
    refine ks_iastore rfl rfl (by omega) (by omega) ?_
    refine ks_aload_n rfl rfl ?_
    refine ks_getr (b := 81) rfl rfl rfl rfl (by decide) ?_
    refine ks_bipush rfl ?_
    refine ks_iload_n rfl rfl ?_
    refine ks_iadd rfl ?_
    refine ks_iaload rfl rfl (by omega) (by omega) (by (try simp only [kx_up_at, kx_row_at, up1_at, Nat.reduceEqDiff, Int.reduceEq, Int.reduceNeg, and_true, true_and, and_false, false_and, and_self, reduceIte, Nat.add_left_cancel_iff, Nat.add_eq_left, Nat.left_eq_add, Nat.reduceAdd, Int.add_left_inj, Int.add_right_inj, hs, n1, n2, n3, n4, n5]); rfl) ?_
    -- at 94: if ne -> 124 else 97 st [None]
    refine ks_if_ne rfl ⟨by omega, by omega⟩ (fun h2 => ?_) (fun h2 => ?_)
    · refine ks_aload_n rfl rfl ?_
      refine ks_getr (b := 81) rfl rfl rfl rfl (by decide) ?_
      refine ks_bipush rfl ?_
      refine ks_iload_n rfl rfl ?_
      refine ks_iadd rfl ?_
      refine ks_iconst rfl ?_
      refine ks_iastore rfl rfl (by omega) (by omega) ?_
      refine ks_aload_n rfl rfl ?_
      refine ks_getr (b := 81) rfl rfl rfl rfl (by decide) ?_
      refine ks_bipush rfl ?_
      refine ks_iload_n rfl rfl ?_
      refine ks_iadd rfl ?_
      refine ks_aload_n rfl rfl ?_
      refine ks_getr (b := 81) rfl rfl rfl rfl (by decide) ?_
      refine ks_iconst rfl ?_
      refine ks_iaload rfl rfl (by omega) (by omega) (by (try simp only [kx_up_at, kx_row_at, up1_at, Nat.reduceEqDiff, Int.reduceEq, Int.reduceNeg, and_true, true_and, and_false, false_and, and_self, reduceIte, Nat.add_left_cancel_iff, Nat.add_eq_left, Nat.left_eq_add, Nat.reduceAdd, Int.add_left_inj, Int.add_right_inj, hs, n1, n2, n3, n4, n5]); rfl) ?_
      refine ks_iconst rfl ?_
      refine ks_iadd rfl ?_
      refine ks_iastore rfl rfl (by omega) (by omega) ?_
      refine ks_return rfl ?_
      -- at 124: ret  st []
      unfold tw_work at t
      rw [if_neg h1, if_pos h2] at t
      simp only [kx_up_up1, kx_row_self, kx_row_row, hs]
      exact t
    · refine ks_return rfl ?_
      -- at 124: ret  st []
      unfold tw_work at t
      rw [if_neg h1, if_neg h2] at t
      simp only [kx_up_up1, kx_row_self, kx_row_row, hs, up1_at, n1, if_false]
      exact t
theorem r_oneStep {s : Int → Int} {B : Int} (hB : B ≤ 100000) (hs : μ 81 = s) (hw : tw_W B s) (t : Q none (kg L) (kx_row μ 81 (tw_step s))) : kx_cx (ke (d + 3)) 141 [kR 77] (kg L) μ Q := by
  refine ke_start (tb := kt_M_oneStep) (ls := [some (kR 77), none, none, none]) rfl rfl ?_
  have hw0 := hw
  obtain ⟨w1, w2, w3, w4, w5, w6, w7, w8⟩ := hw
  generalize hh : s 4 = h at *
  have q7 := w7 h w3.1 w3.2
  refine ks_aload_n rfl rfl ?_
  refine ks_getr (b := 81) rfl rfl rfl rfl (by decide) ?_
  refine ks_iconst rfl ?_
  refine ks_iaload rfl rfl (by omega) (by omega) (by (try simp only [kx_up_at, kx_row_at, up1_at, Nat.reduceEqDiff, Int.reduceEq, Int.reduceNeg, and_true, true_and, and_false, false_and, and_self, reduceIte, Nat.add_left_cancel_iff, Nat.add_eq_left, Nat.left_eq_add, Nat.reduceAdd, Int.add_left_inj, Int.add_right_inj, hs, hh]); rfl) ?_
  refine ks_istore_n_1 rfl rfl ?_
  refine ks_aload_n rfl rfl ?_
  refine ks_getr (b := 81) rfl rfl rfl rfl (by decide) ?_
  refine ks_bipush rfl ?_
  refine ks_iload_n rfl rfl ?_
  refine ks_iadd rfl ?_
  refine ks_iaload rfl rfl (by omega) (by omega) (by (try simp only [kx_up_at, kx_row_at, up1_at, Nat.reduceEqDiff, Int.reduceEq, Int.reduceNeg, and_true, true_and, and_false, false_and, and_self, reduceIte, Nat.add_left_cancel_iff, Nat.add_eq_left, Nat.left_eq_add, Nat.reduceAdd, Int.add_left_inj, Int.add_right_inj, hs, hh]); rfl) ?_
  refine ks_istore_n_2 rfl rfl ?_
  refine ks_aload_n rfl rfl ?_
  refine ks_iload_n rfl rfl ?_
  refine ks_callv_2 rfl rfl rfl (Nat.le_of_ble_eq_true rfl) ?_
  -- at 19: call M_work st []
  refine r_work hs hw0 w3 ?_
  show kx_wx _ _ _ _ _ _ _ _
  unfold tw_step at t
  rw [hh] at t
  have hfi := tw_found_in s h
  have hlo : ∀ j : Int, j < 24 ∨ 30 ≤ j ∧ j < 34 → tw_work s h (tw_found s h) j = s j := fun j hj => tw_work_lo (by omega) (by omega) hj
  have hho : ∀ k : Int, 0 ≤ k → k < s 2 → 0 ≤ tw_work s h (tw_found s h) (38 + k) ∧ tw_work s h (tw_found s h) (38 + k) ≤ 2 := fun k a b => tw_work_how hw0 w3 (by omega) a b
  generalize tw_work s h (tw_found s h) = s1 at *
  refine ks_aload_n rfl rfl ?_
  refine ks_getr (b := 81) rfl rfl rfl rfl (by decide) ?_
  refine ks_iconst rfl ?_
  refine ks_dup2 rfl ?_
  refine ks_iaload rfl rfl (by omega) (by omega) (by (try simp only [kx_up_at, kx_row_at, up1_at, Nat.reduceEqDiff, Int.reduceEq, Int.reduceNeg, and_true, true_and, and_false, false_and, and_self, reduceIte, Nat.add_left_cancel_iff, Nat.add_eq_left, Nat.left_eq_add, Nat.reduceAdd, Int.add_left_inj, Int.add_right_inj]); rfl) ?_
  refine ks_iconst rfl ?_
  refine ks_iadd rfl ?_
  refine ks_iastore rfl rfl (by omega) (by omega) ?_
  refine ks_aload_n rfl rfl ?_
  refine ks_getr (b := 81) rfl rfl rfl rfl (by decide) ?_
  refine ks_iconst rfl ?_
  refine ks_dup2 rfl ?_
  refine ks_iaload rfl rfl (by omega) (by omega) (by (try simp only [kx_up_at, kx_row_at, up1_at, Nat.reduceEqDiff, Int.reduceEq, Int.reduceNeg, and_true, true_and, and_false, false_and, and_self, reduceIte, Nat.add_left_cancel_iff, Nat.add_eq_left, Nat.left_eq_add, Nat.reduceAdd, Int.add_left_inj, Int.add_right_inj]); rfl) ?_
  refine ks_iconst rfl ?_
  refine ks_iadd rfl ?_
  refine ks_iastore rfl rfl (by omega) (by omega) ?_
  -- at 42: stop  st []
  have em : kx_up (kx_up (kx_row μ 81 s1) 81 5 (s1 5 + 1)) 81 3 (s1 3 + 1) = kx_row μ 81 (tw_tick s1) := by
    rw [kx_up_row_row, kx_up_row_row]; rfl
  rw [em]
  have a5 : tw_tick s1 5 = s 5 + 1 := by rw [← hlo 5 (by omega)]; rfl
  have ao : ∀ j : Int, j ≠ 5 ∧ j ≠ 3 → tw_tick s1 j = s1 j := fun j hj => tw_tick_at hj
  have a1 : tw_tick s1 1 = s 1 := by rw [ao 1 (by omega), hlo 1 (by omega)]
  have a2 : tw_tick s1 2 = s 2 := by rw [ao 2 (by omega), hlo 2 (by omega)]
  have a0 : tw_tick s1 0 = s 0 := by rw [ao 0 (by omega), hlo 0 (by omega)]
  have ak : tw_tick s1 (6 + h) = s (6 + h) := by rw [ao _ (by omega), hlo _ (by omega)]
  have ap : tw_tick s1 (12 + h) = s (12 + h) := by rw [ao _ (by omega), hlo _ (by omega)]
  have ah : ∀ k : Int, 0 ≤ k → k < tw_tick s1 2 → 0 ≤ tw_tick s1 (38 + k) ∧ tw_tick s1 (38 + k) ≤ 2 := fun k b c => by rw [ao (38 + k) (by omega)]; exact hho k b (by omega)
  generalize tw_tick s1 = s2 at *
  have ou := tw_oc_in s2 (s2 2).toNat
  have ou' : tw_oc s2 (s2 2).toNat = tw_out s2 := rfl
  have fin : ∀ (on : Int) (x : Option kx_V), 0 ≤ h + on → h + on ≤ 1000 → (h + on) % s 1 = tw_on s2 h → ¬ s2 5 < s2 (12 + h) + (if s2 (6 + h) = 3 then tw_out s2 else 0) → kx_wx (ke (d + 2)) kt_M_oneStep Q 122 [some (kR 77), some (kI h), some (kI (s (6 + h))), x] [kI on] (kg L) (kx_row μ 81 s2) := by
    intro on x c0 c1 c2 c3
    refine ks_istore_n_3 rfl rfl ?_
    refine ks_aload_n rfl rfl ?_
    refine ks_getr (b := 81) rfl rfl rfl rfl (by decide) ?_
    refine ks_iconst rfl ?_
    refine ks_iload_n rfl rfl ?_
    refine ks_iload_n rfl rfl ?_
    refine ks_iadd rfl ?_
    refine ks_aload_n rfl rfl ?_
    refine ks_getr (b := 81) rfl rfl rfl rfl (by decide) ?_
    refine ks_iconst rfl ?_
    refine ks_iaload rfl rfl (by omega) (by omega) (by (try simp only [kx_up_at, kx_row_at, up1_at, Nat.reduceEqDiff, Int.reduceEq, Int.reduceNeg, and_true, true_and, and_false, false_and, and_self, reduceIte, Nat.add_left_cancel_iff, Nat.add_eq_left, Nat.left_eq_add, Nat.reduceAdd, Int.add_left_inj, Int.add_right_inj, a1]); rfl) ?_
    refine ks_irem rfl ⟨by omega, by omega⟩ ⟨by omega, by omega⟩ (by omega) ?_
    refine ks_iastore rfl rfl (by omega) (by omega) ?_
    refine ks_aload_n rfl rfl ?_
    refine ks_getr (b := 81) rfl rfl rfl rfl (by decide) ?_
    refine ks_iconst rfl ?_
    refine ks_iconst rfl ?_
    refine ks_iastore rfl rfl (by omega) (by omega) ?_
    refine ks_return rfl ?_
    -- at 146: ret  st []
    unfold tw_goes at t
    rw [if_neg c3] at t
    rw [kx_up_row_row, kx_up_row_row, tw_mod c0 (by omega), c2]
    exact t
  have key : ∀ (o : Int), o = (if s2 (6 + h) = 3 then tw_out s2 else 0) → kx_wx (ke (d + 2)) kt_M_oneStep Q 70 [some (kR 77), some (kI h), some (kI (s (6 + h))), none] [kI o, kI (s2 (12 + h)), kI (s2 5)] (kg L) (kx_row μ 81 s2) := by
    intro o ho
    have hob : 0 ≤ o ∧ o ≤ 4 := by rw [ho]; split <;> omega
    refine ks_iadd rfl ?_
    -- at 71: if lt -> 146 else 74 st [None, None]
    refine ks_icmp_lt rfl ⟨by omega, by omega⟩ ⟨by omega, by omega⟩ (fun c1 => ?_) (fun c1 => ?_)
    · refine ks_return rfl ?_
      -- at 146: ret  st []
      unfold tw_goes at t
      rw [if_pos (by rw [← ho]; exact c1)] at t
      exact t
    · rw [ho] at c1
      refine ks_iload_n rfl rfl ?_
      refine ks_iconst rfl ?_
      -- at 76: if ne -> 83 else 79 st ['2', None]
      refine ks_icmp_ne rfl ⟨by omega, by omega⟩ ⟨by omega, by omega⟩ (fun c2 => ?_) (fun c2 => ?_)
      · refine ks_iconst rfl ?_
        refine ks_goto rfl ?_
        -- at 122: stop  st ['2']
        refine fin 2 _ (by omega) (by omega) ?_ c1
        unfold tw_on
        rw [ak, if_pos c2, a1]
      · refine ks_iload_n rfl rfl ?_
        refine ks_iconst rfl ?_
        -- at 85: if ne -> 97 else 88 st ['4', None]
        refine ks_icmp_ne rfl ⟨by omega, by omega⟩ ⟨by omega, by omega⟩ (fun c3 => ?_) (fun c3 => ?_)
        · refine ks_aload_n rfl rfl ?_
          refine ks_getr (b := 81) rfl rfl rfl rfl (by decide) ?_
          refine ks_iconst rfl ?_
          refine ks_iaload rfl rfl (by omega) (by omega) (by (try simp only [kx_up_at, kx_row_at, up1_at, Nat.reduceEqDiff, Int.reduceEq, Int.reduceNeg, and_true, true_and, and_false, false_and, and_self, reduceIte, Nat.add_left_cancel_iff, Nat.add_eq_left, Nat.left_eq_add, Nat.reduceAdd, Int.add_left_inj, Int.add_right_inj, a0]); rfl) ?_
          refine ks_goto rfl ?_
          -- at 122: stop  st [None]
          refine fin (s 0) _ (by omega) (by omega) ?_ c1
          unfold tw_on
          rw [ak, if_neg c2, if_pos c3, a1, a0]
        · refine ks_iload_n rfl rfl ?_
          refine ks_iconst rfl ?_
          -- at 99: if ne -> 121 else 102 st ['5', None]
          refine ks_icmp_ne rfl ⟨by omega, by omega⟩ ⟨by omega, by omega⟩ (fun c4 => ?_) (fun c4 => ?_)
          · refine ks_aload_n rfl rfl ?_
            refine ks_getr (b := 81) rfl rfl rfl rfl (by decide) ?_
            refine ks_iconst rfl ?_
            refine ks_iaload rfl rfl (by omega) (by omega) (by (try simp only [kx_up_at, kx_row_at, up1_at, Nat.reduceEqDiff, Int.reduceEq, Int.reduceNeg, and_true, true_and, and_false, false_and, and_self, reduceIte, Nat.add_left_cancel_iff, Nat.add_eq_left, Nat.left_eq_add, Nat.reduceAdd, Int.add_left_inj, Int.add_right_inj, a0, a1]); rfl) ?_
            refine ks_bipush rfl ?_
            refine ks_imul rfl ?_
            refine ks_aload_n rfl rfl ?_
            refine ks_getr (b := 81) rfl rfl rfl rfl (by decide) ?_
            refine ks_iconst rfl ?_
            refine ks_iaload rfl rfl (by omega) (by omega) (by (try simp only [kx_up_at, kx_row_at, up1_at, Nat.reduceEqDiff, Int.reduceEq, Int.reduceNeg, and_true, true_and, and_false, false_and, and_self, reduceIte, Nat.add_left_cancel_iff, Nat.add_eq_left, Nat.left_eq_add, Nat.reduceAdd, Int.add_left_inj, Int.add_right_inj, a0, a1]); rfl) ?_
            refine ks_isub rfl ?_
            refine ks_goto rfl ?_
            -- at 122: stop  st [None]
            refine fin (s 1 * 6 - s 0) _ (by omega) (by omega) ?_ c1
            unfold tw_on
            rw [ak, if_neg c2, if_neg c3, if_pos c4, a1, a0]
            rw [show h + (s 1 * 6 - s 0) = (h - s 0) + s 1 * 6 by omega, Int.add_mul_emod_self_left]
          · refine ks_iconst rfl ?_
            -- at 122: stop  st ['1']
            refine fin 1 _ (by omega) (by omega) ?_ c1
            unfold tw_on
            rw [ak, if_neg c2, if_neg c3, if_neg c4, a1]
  refine ks_aload_n rfl rfl ?_
  refine ks_getr (b := 81) rfl rfl rfl rfl (by decide) ?_
  refine ks_iconst rfl ?_
  refine ks_iaload rfl rfl (by omega) (by omega) (by (try simp only [kx_up_at, kx_row_at, up1_at, Nat.reduceEqDiff, Int.reduceEq, Int.reduceNeg, and_true, true_and, and_false, false_and, and_self, reduceIte, Nat.add_left_cancel_iff, Nat.add_eq_left, Nat.left_eq_add, Nat.reduceAdd, Int.add_left_inj, Int.add_right_inj]); rfl) ?_
  refine ks_aload_n rfl rfl ?_
  refine ks_getr (b := 81) rfl rfl rfl rfl (by decide) ?_
  refine ks_bipush rfl ?_
  refine ks_iload_n rfl rfl ?_
  refine ks_iadd rfl ?_
  refine ks_iaload rfl rfl (by omega) (by omega) (by (try simp only [kx_up_at, kx_row_at, up1_at, Nat.reduceEqDiff, Int.reduceEq, Int.reduceNeg, and_true, true_and, and_false, false_and, and_self, reduceIte, Nat.add_left_cancel_iff, Nat.add_eq_left, Nat.left_eq_add, Nat.reduceAdd, Int.add_left_inj, Int.add_right_inj]); rfl) ?_
  refine ks_iload_n rfl rfl ?_
  refine ks_iconst rfl ?_
  -- at 59: if ne -> 69 else 62 st ['3', None, None, None]
  refine ks_icmp_ne rfl ⟨by omega, by omega⟩ ⟨by omega, by omega⟩ (fun c1 => ?_) (fun c1 => ?_)
  · refine ks_aload_n rfl rfl ?_
    refine ks_callv_1 rfl rfl rfl (Nat.le_of_ble_eq_true rfl) ?_
    -- at 63: call M_outMany st [None, None]
    refine r_outMany (s := s2) (kx_row_self _ _ _) ah (by omega) ?_
    show kx_wx _ _ _ _ _ (_ :: _) _ _
    refine ks_goto rfl ?_
    -- at 70: stop  st [None, None, None]
    exact key _ (by rw [ak, if_pos c1])
  · refine ks_iconst rfl ?_
    -- at 70: stop  st ['0', None, None]
    exact key _ (by rw [ak, if_neg c1])
end MT
end
section
/-! the class's town -/
/-- the town at cell a shows s on its visible places; its step is z -/
def TRx (μ : kx_M) (a : Nat) (s : Int → Int) (z : Int) : Prop := μ a 8 = s 1 ∧ μ a 9 = s 2 ∧ μ a 10 = s 0 ∧ μ a 11 = s 4 ∧ μ a 12 = s 5 ∧ μ a 13 = z ∧
  (∀ i, 0 ≤ i → i < s 1 → μ (a + 1) i = s (6 + i) ∧ μ (a + 2) i = s (12 + i) ∧ μ (a + 3) i = s (18 + i) ∧ μ (a + 4) i = s (24 + i)) ∧
  (∀ k, 0 ≤ k → k < s 2 → μ (a + 5) k = s (30 + k) ∧ μ (a + 6) k = s (34 + k) ∧ μ (a + 7) k = s (38 + k) ∧ μ (a + 8) k = if s (38 + k) = 1 then s (42 + k) else -1000000)
def TR (μ : kx_M) (a : Nat) (s : Int → Int) : Prop := TRx μ a s (s 3)
/-- nothing but the town at a is written -/
def Fr (a : Nat) (μ μ' : kx_M) : Prop := ∀ c, c < a ∨ a + 8 < c → μ' c = μ c
theorem Fr_rf (a : Nat) (μ : kx_M) : Fr a μ μ := fun _ _ => rfl
theorem Fr_tr {a : Nat} {μ μ1 μ2 : kx_M} (h : Fr a μ μ1) (k : Fr a μ1 μ2) : Fr a μ μ2 := fun c hc => (k c hc).trans (h c hc)
theorem Fr_up {a b : Nat} {μ μ1 : kx_M} {i v : Int} (h : Fr a μ μ1) (hb : a ≤ b ∧ b ≤ a + 8) : Fr a μ (kx_up μ1 b i v) := fun c hc => by rw [kx_up_row (by omega)]; exact h c hc
theorem tw_f_none {s : Int → Int} {h : Int} : ∀ (n : Nat) (f : Int), (∀ j : Nat, j < n → ¬ tw_P s h j) → tw_f s h n f = f := by
  intro n
  induction n with
  | zero => intro f _; rfl
  | succ n ih =>
    intro f hn
    have hq := hn n (by omega)
    simp only [tw_f]
    unfold tw_P tw_has at hq
    rw [if_neg hq]
    exact ih f (fun j hj => hn j (by omega))
theorem tw_f_first {s : Int → Int} {h : Int} {k : Nat} : ∀ (n : Nat) (f : Int), k < n → tw_P s h k → (∀ j : Nat, j < k → ¬ tw_P s h j) → tw_f s h n f = k := by
  intro n
  induction n with
  | zero => intro f hk; omega
  | succ n ih =>
    intro f hk hp hn
    simp only [tw_f]
    by_cases e : k = n
    · subst e
      have hq := hp
      unfold tw_P tw_has at hq
      rw [if_pos hq]
      exact tw_f_none _ _ hn
    · exact ih _ (by omega) hp hn
theorem kx_xor_neg {x n : Int} (h0 : -6 ≤ x) (h1 : x ≤ 12) (h2 : 1 ≤ n) (h3 : n ≤ 6) : (kx_xor x n < 0 ↔ x < 0) ∧ kx_in (kx_xor x n) := by
  have key : ∀ i : Nat, i < 19 → ∀ j : Nat, j < 6 → (kx_xor ((i : Int) - 6) ((j : Int) + 1) < 0 ↔ (i : Int) - 6 < 0) ∧ kx_in (kx_xor ((i : Int) - 6) ((j : Int) + 1)) := by decide
  have := key (x + 6).toNat (by omega) (n - 1).toNat (by omega)
  rw [show (((x + 6).toNat : Nat) : Int) - 6 = x by omega, show (((n - 1).toNat : Nat) : Int) + 1 = n by omega] at this
  exact this
section CT
variable {d L : Nat} {G : kx_G} {μ : kx_M} {Q : Option kx_V → kx_G → kx_M → Prop} {a : Nat} {s : Int → Int} {B z : Int}
theorem r_floorMod {x n : Int} (h0 : -6 ≤ x) (h1 : x ≤ 12) (h2 : 1 ≤ n) (h3 : n ≤ 6) (t : Q (some (kI (x % n))) G μ) : kx_cx (ke (d + 1)) 192 [kI x, kI n] G μ Q := by
  refine ke_start (tb := kt_Math_floorMod) (ls := [some (kI x), some (kI n), none]) rfl rfl ?_
  obtain ⟨k1, k2⟩ := kx_xor_neg h0 h1 h2 h3
  obtain ⟨_, _⟩ := k2
  have hm : x.tmod n = x % n ∧ 0 ≤ x ∨ x < 0 ∧ x.tmod n = 0 ∧ x % n = 0 ∨ x < 0 ∧ x.tmod n ≠ 0 ∧ x.tmod n + n = x % n := by
    have key : ∀ i : Nat, i < 19 → ∀ j : Nat, j < 6 → (((i : Int) - 6).tmod ((j : Int) + 1) = ((i : Int) - 6) % ((j : Int) + 1) ∧ 0 ≤ ((i : Int) - 6) ∨ ((i : Int) - 6) < 0 ∧ ((i : Int) - 6).tmod ((j : Int) + 1) = 0 ∧ ((i : Int) - 6) % ((j : Int) + 1) = 0 ∨ ((i : Int) - 6) < 0 ∧ ((i : Int) - 6).tmod ((j : Int) + 1) ≠ 0 ∧ ((i : Int) - 6).tmod ((j : Int) + 1) + ((j : Int) + 1) = ((i : Int) - 6) % ((j : Int) + 1)) := by decide
    have := key (x + 6).toNat (by omega) (n - 1).toNat (by omega)
    rw [show (((x + 6).toNat : Nat) : Int) - 6 = x by omega, show (((n - 1).toNat : Nat) : Int) + 1 = n by omega] at this
    exact this
  have hb : -6 ≤ x.tmod n ∧ x.tmod n ≤ 12 := by
    have a1 := Int.tmod_lt_of_pos x (show 0 < n by omega)
    have a2 := Int.lt_tmod_of_pos x (show 0 < n by omega)
    omega
  refine ks_iload_n rfl rfl ?_
  refine ks_iload_n rfl rfl ?_
  refine ks_irem rfl ⟨by omega, by omega⟩ ⟨by omega, by omega⟩ (by omega) ?_
  refine ks_istore_n_2 rfl rfl ?_
  refine ks_iload_n rfl rfl ?_
  refine ks_iload_n rfl rfl ?_
  refine ks_ixor rfl ?_
  -- at 7: if ge -> 18 else 10 st [None]
  refine ks_if_ge rfl ⟨by omega, by omega⟩ (fun c1 => ?_) (fun c1 => ?_)
  · refine ks_iload_n rfl rfl ?_
    -- at 11: if eq -> 18 else 14 st [None]
    refine ks_if_eq rfl ⟨by omega, by omega⟩ (fun c2 => ?_) (fun c2 => ?_)
    · refine ks_iload_n rfl rfl ?_
      refine ks_ireturn rfl ?_
      -- at 19: ret  st [None]
      rw [show x.tmod n = x % n by omega]
      exact t
    · refine ks_iload_n rfl rfl ?_
      refine ks_iload_n rfl rfl ?_
      refine ks_iadd rfl ?_
      refine ks_ireturn rfl ?_
      -- at 17: ret  st [None]
      rw [show x.tmod n + n = x % n by omega]
      exact t
  · refine ks_iload_n rfl rfl ?_
    refine ks_ireturn rfl ?_
    -- at 19: ret  st [None]
    rw [show x.tmod n = x % n by omega]
    exact t
theorem l_orderToWorkOn (hK : kg_T L a) (hT : TRx μ a s z) (hw : tw_W B s) (t : Q (some (kI (tw_found s (s 4)))) (kg L) μ) : ∀ (r j : Nat), j + r = (s 2).toNat → (∀ i : Nat, i < j → ¬ tw_P s (s 4) i) → kx_wx (ke d) kt_Town_orderToWorkOn Q 2 [some (kR a), some (kI j)] [] (kg L) μ := by
  obtain ⟨g0, g1, g2, g3, g4, g5, g6, g7, g8, g9, g10, g11, g12, g13, g14, g15, g16⟩ := hK
  obtain ⟨e8, e9, e10, e11, e12, e13, eh, eo⟩ := hT
  obtain ⟨w1, w2, w3, w4, w5, w6, w7, w8⟩ := hw
  have q7 := w7 (s 4) w3.1 w3.2
  have eh4 := (eh (s 4) w3.1 w3.2).2.2.1
  intro r
  induction r with
  | zero =>
    intro j hj hn
    refine ks_iload_n rfl rfl ?_
    refine ks_aload_n rfl rfl ?_
    refine ks_geti rfl rfl (by assumption) rfl (by (try simp only [kx_up_at, kx_row_at, up1_at, Nat.reduceEqDiff, Int.reduceEq, Int.reduceNeg, and_true, true_and, and_false, false_and, and_self, reduceIte, Nat.add_left_cancel_iff, Nat.add_eq_left, Nat.left_eq_add, Nat.reduceAdd, Int.add_left_inj, Int.add_right_inj, e9]); rfl) ?_
    -- at 7: if ge -> 44 else 10 st [None, None]
    refine ks_icmp_ge rfl ⟨by omega, by omega⟩ ⟨by omega, by omega⟩ (fun h => absurd h (by omega)) (fun h => ?_)
    refine ks_iconst rfl ?_
    refine ks_ireturn rfl ?_
    -- at 45: ret  st ['-1']
    unfold tw_found at t
    rw [Nat.add_zero] at hj
    rw [← hj, tw_f_none _ _ hn] at t
    exact t
  | succ r ih =>
    intro j hj hn
    have q8 := w8 j (by omega) (by omega)
    have eok := (eo j (by omega) (by omega)).2.2.1
    refine ks_iload_n rfl rfl ?_
    refine ks_aload_n rfl rfl ?_
    refine ks_geti rfl rfl (by assumption) rfl (by (try simp only [kx_up_at, kx_row_at, up1_at, Nat.reduceEqDiff, Int.reduceEq, Int.reduceNeg, and_true, true_and, and_false, false_and, and_self, reduceIte, Nat.add_left_cancel_iff, Nat.add_eq_left, Nat.left_eq_add, Nat.reduceAdd, Int.add_left_inj, Int.add_right_inj, e9]); rfl) ?_
    -- at 7: if ge -> 44 else 10 st [None, None]
    refine ks_icmp_ge rfl ⟨by omega, by omega⟩ ⟨by omega, by omega⟩ (fun h => ?_) (fun h => absurd h (by omega))
    refine ks_aload_n rfl rfl ?_
    refine ks_getr (b := a + 7) rfl rfl (by assumption) (by assumption) (Nat.succ_ne_zero _) ?_
    refine ks_iload_n rfl rfl ?_
    refine ks_iaload rfl (by assumption) (by omega) (by omega) (by (try simp only [kx_up_at, kx_row_at, up1_at, Nat.reduceEqDiff, Int.reduceEq, Int.reduceNeg, and_true, true_and, and_false, false_and, and_self, reduceIte, Nat.add_left_cancel_iff, Nat.add_eq_left, Nat.left_eq_add, Nat.reduceAdd, Int.add_left_inj, Int.add_right_inj, eok]); rfl) ?_
    -- at 16: if ne -> 38 else 19 st [None]
    refine ks_if_ne rfl ⟨by omega, by omega⟩ (fun h1 => ?_) (fun h1 => ?_)
    · obtain ⟨_, _⟩ := kx_and_in ((s (18 + s 4)).bmod 4294967296 / 2 ^ (j : Int).toNat) 1
      refine ks_aload_n rfl rfl ?_
      refine ks_getr (b := a + 3) rfl rfl (by assumption) (by assumption) (Nat.succ_ne_zero _) ?_
      refine ks_aload_n rfl rfl ?_
      refine ks_geti rfl rfl (by assumption) rfl (by (try simp only [kx_up_at, kx_row_at, up1_at, Nat.reduceEqDiff, Int.reduceEq, Int.reduceNeg, and_true, true_and, and_false, false_and, and_self, reduceIte, Nat.add_left_cancel_iff, Nat.add_eq_left, Nat.left_eq_add, Nat.reduceAdd, Int.add_left_inj, Int.add_right_inj, e11, eh4]); rfl) ?_
      refine ks_iaload rfl (by assumption) (by omega) (by omega) (by (try simp only [kx_up_at, kx_row_at, up1_at, Nat.reduceEqDiff, Int.reduceEq, Int.reduceNeg, and_true, true_and, and_false, false_and, and_self, reduceIte, Nat.add_left_cancel_iff, Nat.add_eq_left, Nat.left_eq_add, Nat.reduceAdd, Int.add_left_inj, Int.add_right_inj, e11, eh4]); rfl) ?_
      refine ks_iload_n rfl rfl ?_
      refine ks_ishr rfl (by omega) (by omega) ?_
      refine ks_iconst rfl ?_
      refine ks_iand rfl ?_
      refine ks_iconst rfl ?_
      -- at 33: if ne -> 38 else 36 st ['1', None]
      refine ks_icmp_ne rfl ⟨by omega, by omega⟩ ⟨by omega, by omega⟩ (fun h2 => ?_) (fun h2 => ?_)
      · refine ks_iload_n rfl rfl ?_
        refine ks_ireturn rfl ?_
        -- at 37: ret  st [None]
        unfold tw_found at t
        rw [tw_f_first (k := j) _ _ (by omega) ⟨h1, h2⟩ hn] at t
        exact t
      · refine ks_iinc_1 rfl rfl ?_
        refine ks_goto rfl ?_
        -- at 2: stop  st []
        exact ih (j + 1) (by omega) (fun i hi => by
          by_cases e : i = j
          · subst e; exact fun q => h2 q.2
          · exact hn i (by omega))
    · refine ks_iinc_1 rfl rfl ?_
      refine ks_goto rfl ?_
      -- at 2: stop  st []
      exact ih (j + 1) (by omega) (fun i hi => by
        by_cases e : i = j
        · subst e; exact fun q => h1 q.1
        · exact hn i (by omega))
theorem r_orderToWorkOn (hK : kg_T L a) (hT : TRx μ a s z) (hw : tw_W B s) (t : Q (some (kI (tw_found s (s 4)))) (kg L) μ) : kx_cx (ke (d + 1)) 63 [kR a] (kg L) μ Q := by
  refine ke_start (tb := kt_Town_orderToWorkOn) (ls := [some (kR a), none]) rfl rfl ?_
  refine ks_iconst rfl ?_
  refine ks_istore_n_1 rfl rfl ?_
  -- at 2: stop  st []
  have w2 := hw.2.1
  exact l_orderToWorkOn hK hT hw t (s 2).toNat 0 (by omega) (fun i hi => by omega)
end CT
end
section
/-! the class's town takes a step -/
/-- how many of the first n orders stand in state x -/
def tw_ox (s : Int → Int) (x : Int) : Nat → Int
  | 0 => 0
  | n + 1 => tw_ox s x n + (if s (38 + n) = x then 1 else 0)
theorem tw_ox_in (s : Int → Int) (x : Int) : ∀ n : Nat, 0 ≤ tw_ox s x n ∧ tw_ox s x n ≤ n := by
  intro n
  induction n with
  | zero => exact ⟨Int.le_refl 0, Int.le_refl 0⟩
  | succ n ih => simp only [tw_ox]; split <;> omega
theorem tw_ox_oc (s : Int → Int) : ∀ n : Nat, tw_ox s 0 n = tw_oc s n := by
  intro n
  induction n with
  | zero => rfl
  | succ n ih => simp only [tw_ox, tw_oc]; rw [ih]
/-- what the small questions of a town rest on -/
def tw_U (s : Int → Int) : Prop := (1 ≤ s 1 ∧ s 1 ≤ 6) ∧ (0 ≤ s 2 ∧ s 2 ≤ 4) ∧ (0 ≤ s 4 ∧ s 4 < s 1) ∧ (0 ≤ s 0 ∧ s 0 ≤ 5) ∧ (∀ i, 0 ≤ i → i < s 1 → (1 ≤ s (6 + i) ∧ s (6 + i) ≤ 5) ∧ (1 ≤ s (12 + i) ∧ s (12 + i) ≤ 9)) ∧ (∀ k, 0 ≤ k → k < s 2 → 0 ≤ s (38 + k) ∧ s (38 + k) ≤ 2)
theorem tw_U_of {B : Int} {s : Int → Int} (h : tw_W B s) : tw_U s := by
  obtain ⟨w1, w2, w3, w4, w5, w6, w7, w8⟩ := h
  exact ⟨w1, w2, w3, w4, fun i a b => ⟨(w7 i a b).1, (w7 i a b).2.1⟩, fun k a b => (w8 k a b).2.2.1⟩
section CU
variable {d L : Nat} {G : kx_G} {μ : kx_M} {Q : Option kx_V → kx_G → kx_M → Prop} {a : Nat} {s : Int → Int} {B z : Int}
theorem l_ordersThatAre {x : Int} (hx : 0 ≤ x ∧ x ≤ 2) (hK : kg_T L a) (hT : TRx μ a s z) (hw : tw_U s) (t : Q (some (kI (tw_ox s x (s 2).toNat))) (kg L) μ) : ∀ (r j : Nat), j + r = (s 2).toNat → kx_wx (ke d) kt_Town_ordersThatAre Q 4 [some (kR a), some (kI x), some (kI (tw_ox s x j)), some (kI j)] [] (kg L) μ := by
  obtain ⟨g0, g1, g2, g3, g4, g5, g6, g7, g8, g9, g10, g11, g12, g13, g14, g15, g16⟩ := hK
  obtain ⟨e8, e9, e10, e11, e12, e13, eh, eo⟩ := hT
  obtain ⟨w1, w2, w3, w4, w7, w8⟩ := hw
  intro r
  induction r with
  | zero =>
    intro j hj
    refine ks_iload_n rfl rfl ?_
    refine ks_aload_n rfl rfl ?_
    refine ks_geti rfl rfl (by assumption) rfl (by (try simp only [kx_up_at, kx_row_at, up1_at, Nat.reduceEqDiff, Int.reduceEq, Int.reduceNeg, and_true, true_and, and_false, false_and, and_self, reduceIte, Nat.add_left_cancel_iff, Nat.add_eq_left, Nat.left_eq_add, Nat.reduceAdd, Int.add_left_inj, Int.add_right_inj, e9]); rfl) ?_
    -- at 9: if ge -> 31 else 12 st [None, None]
    refine ks_icmp_ge rfl ⟨by omega, by omega⟩ ⟨by omega, by omega⟩ (fun h => absurd h (by omega)) (fun h => ?_)
    refine ks_iload_n rfl rfl ?_
    refine ks_ireturn rfl ?_
    -- at 32: ret  st [None]
    rw [Nat.add_zero] at hj
    rw [← hj] at t
    exact t
  | succ r ih =>
    intro j hj
    have q8 := w8 j (by omega) (by omega)
    have eok := (eo j (by omega) (by omega)).2.2.1
    have ob := tw_ox_in s x j
    refine ks_iload_n rfl rfl ?_
    refine ks_aload_n rfl rfl ?_
    refine ks_geti rfl rfl (by assumption) rfl (by (try simp only [kx_up_at, kx_row_at, up1_at, Nat.reduceEqDiff, Int.reduceEq, Int.reduceNeg, and_true, true_and, and_false, false_and, and_self, reduceIte, Nat.add_left_cancel_iff, Nat.add_eq_left, Nat.left_eq_add, Nat.reduceAdd, Int.add_left_inj, Int.add_right_inj, e9]); rfl) ?_
    -- at 9: if ge -> 31 else 12 st [None, None]
    refine ks_icmp_ge rfl ⟨by omega, by omega⟩ ⟨by omega, by omega⟩ (fun h => ?_) (fun h => absurd h (by omega))
    refine ks_aload_n rfl rfl ?_
    refine ks_getr (b := a + 7) rfl rfl (by assumption) (by assumption) (Nat.succ_ne_zero _) ?_
    refine ks_iload_n rfl rfl ?_
    refine ks_iaload rfl (by assumption) (by omega) (by omega) (by (try simp only [kx_up_at, kx_row_at, up1_at, Nat.reduceEqDiff, Int.reduceEq, Int.reduceNeg, and_true, true_and, and_false, false_and, and_self, reduceIte, Nat.add_left_cancel_iff, Nat.add_eq_left, Nat.left_eq_add, Nat.reduceAdd, Int.add_left_inj, Int.add_right_inj, eok]); rfl) ?_
    refine ks_iload_n rfl rfl ?_
    -- at 19: if ne -> 25 else 22 st [None, None]
    refine ks_icmp_ne rfl ⟨by omega, by omega⟩ ⟨by omega, by omega⟩ (fun h1 => ?_) (fun h1 => ?_)
    · refine ks_iinc_2 rfl rfl ?_
      refine ks_iinc_3 rfl rfl ?_
      refine ks_goto rfl ?_
      -- at 4: stop  st []
      have e : tw_ox s x j + 1 = tw_ox s x (j + 1) := by simp only [tw_ox]; rw [if_pos h1]
      rw [e]
      exact ih (j + 1) (by omega)
    · refine ks_iinc_3 rfl rfl ?_
      refine ks_goto rfl ?_
      -- at 4: stop  st []
      have e : tw_ox s x j = tw_ox s x (j + 1) := by simp only [tw_ox]; rw [if_neg h1, Int.add_zero]
      rw [e]
      exact ih (j + 1) (by omega)
theorem r_ordersThatAre {x : Int} (hx : 0 ≤ x ∧ x ≤ 2) (hK : kg_T L a) (hT : TRx μ a s z) (hw : tw_U s) (t : Q (some (kI (tw_ox s x (s 2).toNat))) (kg L) μ) : kx_cx (ke (d + 1)) 59 [kR a, kI x] (kg L) μ Q := by
  refine ke_start (tb := kt_Town_ordersThatAre) (ls := [some (kR a), some (kI x), none, none]) rfl rfl ?_
  refine ks_iconst rfl ?_
  refine ks_istore_n_2 rfl rfl ?_
  refine ks_iconst rfl ?_
  refine ks_istore_n_3 rfl rfl ?_
  -- at 4: stop  st []
  have w2 := hw.2.1
  exact l_ordersThatAre hx hK hT hw t (s 2).toNat 0 (by omega)
theorem r_patience (hK : kg_T L a) (hT : TRx μ a s z) (hw : tw_U s) (t : Q (some (kI (s (12 + s 4) + if s (6 + s 4) = 3 then tw_out s else 0))) (kg L) μ) : kx_cx (ke (d + 2)) 65 [kR a] (kg L) μ Q := by
  refine ke_start (tb := kt_Town_patience) (ls := [some (kR a), none]) rfl rfl ?_
  have hK0 := hK
  have hT0 := hT
  have hw0 := hw
  obtain ⟨g0, g1, g2, g3, g4, g5, g6, g7, g8, g9, g10, g11, g12, g13, g14, g15, g16⟩ := hK
  obtain ⟨e8, e9, e10, e11, e12, e13, eh, eo⟩ := hT
  obtain ⟨w1, w2, w3, w4, w7, w8⟩ := hw
  have q7 := w7 (s 4) w3.1 w3.2
  obtain ⟨ek, ep, el, ew⟩ := eh (s 4) w3.1 w3.2
  have ob := tw_ox_in s 0 (s 2).toNat
  refine ks_aload_n rfl rfl ?_
  refine ks_getr (b := a + 1) rfl rfl (by assumption) (by assumption) (Nat.succ_ne_zero _) ?_
  refine ks_aload_n rfl rfl ?_
  refine ks_geti rfl rfl (by assumption) rfl (by (try simp only [kx_up_at, kx_row_at, up1_at, Nat.reduceEqDiff, Int.reduceEq, Int.reduceNeg, and_true, true_and, and_false, false_and, and_self, reduceIte, Nat.add_left_cancel_iff, Nat.add_eq_left, Nat.left_eq_add, Nat.reduceAdd, Int.add_left_inj, Int.add_right_inj, e11, ek]); rfl) ?_
  refine ks_iaload rfl (by assumption) (by omega) (by omega) (by (try simp only [kx_up_at, kx_row_at, up1_at, Nat.reduceEqDiff, Int.reduceEq, Int.reduceNeg, and_true, true_and, and_false, false_and, and_self, reduceIte, Nat.add_left_cancel_iff, Nat.add_eq_left, Nat.left_eq_add, Nat.reduceAdd, Int.add_left_inj, Int.add_right_inj, e11, ek]); rfl) ?_
  refine ks_iconst rfl ?_
  -- at 10: if ne -> 21 else 13 st ['3', None]
  refine ks_icmp_ne rfl ⟨by omega, by omega⟩ ⟨by omega, by omega⟩ (fun h1 => ?_) (fun h1 => ?_)
  · refine ks_aload_n rfl rfl ?_
    refine ks_iconst rfl ?_
    refine ks_callv_2 rfl rfl (by assumption) (Nat.le_of_ble_eq_true rfl) ?_
    -- at 15: call Town_ordersThatAre st []
    refine r_ordersThatAre (by omega) hK0 hT0 hw0 ?_
    show kx_wx _ _ _ _ _ (_ :: _) _ _
    refine ks_goto rfl ?_
    refine ks_istore_n_1 rfl rfl ?_
    refine ks_aload_n rfl rfl ?_
    refine ks_getr (b := a + 2) rfl rfl (by assumption) (by assumption) (Nat.succ_ne_zero _) ?_
    refine ks_aload_n rfl rfl ?_
    refine ks_geti rfl rfl (by assumption) rfl (by (try simp only [kx_up_at, kx_row_at, up1_at, Nat.reduceEqDiff, Int.reduceEq, Int.reduceNeg, and_true, true_and, and_false, false_and, and_self, reduceIte, Nat.add_left_cancel_iff, Nat.add_eq_left, Nat.left_eq_add, Nat.reduceAdd, Int.add_left_inj, Int.add_right_inj, e11, ep]); rfl) ?_
    refine ks_iaload rfl (by assumption) (by omega) (by omega) (by (try simp only [kx_up_at, kx_row_at, up1_at, Nat.reduceEqDiff, Int.reduceEq, Int.reduceNeg, and_true, true_and, and_false, false_and, and_self, reduceIte, Nat.add_left_cancel_iff, Nat.add_eq_left, Nat.left_eq_add, Nat.reduceAdd, Int.add_left_inj, Int.add_right_inj, e11, ep]); rfl) ?_
    refine ks_iload_n rfl rfl ?_
    refine ks_iadd rfl ?_
    refine ks_ireturn rfl ?_
    -- at 34: ret  st [None]
    rw [if_pos h1] at t
    rw [tw_ox_oc]
    exact t
  · refine ks_iconst rfl ?_
    refine ks_istore_n_1 rfl rfl ?_
    refine ks_aload_n rfl rfl ?_
    refine ks_getr (b := a + 2) rfl rfl (by assumption) (by assumption) (Nat.succ_ne_zero _) ?_
    refine ks_aload_n rfl rfl ?_
    refine ks_geti rfl rfl (by assumption) rfl (by (try simp only [kx_up_at, kx_row_at, up1_at, Nat.reduceEqDiff, Int.reduceEq, Int.reduceNeg, and_true, true_and, and_false, false_and, and_self, reduceIte, Nat.add_left_cancel_iff, Nat.add_eq_left, Nat.left_eq_add, Nat.reduceAdd, Int.add_left_inj, Int.add_right_inj, e11, ep]); rfl) ?_
    refine ks_iaload rfl (by assumption) (by omega) (by omega) (by (try simp only [kx_up_at, kx_row_at, up1_at, Nat.reduceEqDiff, Int.reduceEq, Int.reduceNeg, and_true, true_and, and_false, false_and, and_self, reduceIte, Nat.add_left_cancel_iff, Nat.add_eq_left, Nat.left_eq_add, Nat.reduceAdd, Int.add_left_inj, Int.add_right_inj, e11, ep]); rfl) ?_
    refine ks_iload_n rfl rfl ?_
    refine ks_iadd rfl ?_
    refine ks_ireturn rfl ?_
    -- at 34: ret  st [None]
    rw [if_neg h1] at t
    exact t
theorem r_stride (hK : kg_T L a) (hT : TRx μ a s z) (hw : tw_U s) (t : ∀ v : Int, -5 ≤ v → v ≤ 5 → (s 4 + v) % s 1 = tw_on s (s 4) → Q (some (kI v)) (kg L) μ) : kx_cx (ke (d + 1)) 66 [kR a] (kg L) μ Q := by
  refine ke_start (tb := kt_Town_stride) (ls := [some (kR a)]) rfl rfl ?_
  obtain ⟨g0, g1, g2, g3, g4, g5, g6, g7, g8, g9, g10, g11, g12, g13, g14, g15, g16⟩ := hK
  obtain ⟨e8, e9, e10, e11, e12, e13, eh, eo⟩ := hT
  obtain ⟨w1, w2, w3, w4, w7, w8⟩ := hw
  have q7 := w7 (s 4) w3.1 w3.2
  obtain ⟨ek, ep, el, ew⟩ := eh (s 4) w3.1 w3.2
  unfold tw_on at t
  refine ks_aload_n rfl rfl ?_
  refine ks_getr (b := a + 1) rfl rfl (by assumption) (by assumption) (Nat.succ_ne_zero _) ?_
  refine ks_aload_n rfl rfl ?_
  refine ks_geti rfl rfl (by assumption) rfl (by (try simp only [kx_up_at, kx_row_at, up1_at, Nat.reduceEqDiff, Int.reduceEq, Int.reduceNeg, and_true, true_and, and_false, false_and, and_self, reduceIte, Nat.add_left_cancel_iff, Nat.add_eq_left, Nat.left_eq_add, Nat.reduceAdd, Int.add_left_inj, Int.add_right_inj, e11, ek]); rfl) ?_
  refine ks_iaload rfl (by assumption) (by omega) (by omega) (by (try simp only [kx_up_at, kx_row_at, up1_at, Nat.reduceEqDiff, Int.reduceEq, Int.reduceNeg, and_true, true_and, and_false, false_and, and_self, reduceIte, Nat.add_left_cancel_iff, Nat.add_eq_left, Nat.left_eq_add, Nat.reduceAdd, Int.add_left_inj, Int.add_right_inj, e11, ek]); rfl) ?_
  -- at 9: sw  st [None]
  refine ks_tsw rfl ⟨by omega, by omega⟩ ?_
  simp only [kx_sw, Int.reduceAdd]
  refine kx_ifs (fun h1 => ?_) (fun h1 => ?_)
  · refine ks_iconst rfl ?_
    refine ks_ireturn rfl ?_
    -- at 41: ret  st ['2']
    exact t 2 (by omega) (by omega) (by rw [if_pos h1])
  refine kx_ifs (fun h2 => ?_) (fun h2 => ?_)
  · refine ks_iconst rfl ?_
    refine ks_ireturn rfl ?_
    -- at 54: ret  st ['1']
    exact t 1 (by omega) (by omega) (by rw [if_neg h1, if_neg (by omega), if_neg (by omega)])
  refine kx_ifs (fun h3 => ?_) (fun h3 => ?_)
  · refine ks_aload_n rfl rfl ?_
    refine ks_geti rfl rfl (by assumption) rfl (by (try simp only [kx_up_at, kx_row_at, up1_at, Nat.reduceEqDiff, Int.reduceEq, Int.reduceNeg, and_true, true_and, and_false, false_and, and_self, reduceIte, Nat.add_left_cancel_iff, Nat.add_eq_left, Nat.left_eq_add, Nat.reduceAdd, Int.add_left_inj, Int.add_right_inj, e10]); rfl) ?_
    refine ks_ireturn rfl ?_
    -- at 46: ret  st [None]
    exact t (s 0) (by omega) (by omega) (by rw [if_neg h1, if_pos h3])
  refine kx_ifs (fun h4 => ?_) (fun h4 => ?_)
  · refine ks_aload_n rfl rfl ?_
    refine ks_geti rfl rfl (by assumption) rfl (by (try simp only [kx_up_at, kx_row_at, up1_at, Nat.reduceEqDiff, Int.reduceEq, Int.reduceNeg, and_true, true_and, and_false, false_and, and_self, reduceIte, Nat.add_left_cancel_iff, Nat.add_eq_left, Nat.left_eq_add, Nat.reduceAdd, Int.add_left_inj, Int.add_right_inj, e10]); rfl) ?_
    refine ks_ineg rfl ?_
    refine ks_ireturn rfl ?_
    -- at 52: ret  st [None]
    exact t (- s 0) (by omega) (by omega) (by rw [if_neg h1, if_neg h3, if_pos h4, ← Int.sub_eq_add_neg])
  · refine ks_iconst rfl ?_
    refine ks_ireturn rfl ?_
    -- at 54: ret  st ['1']
    exact t 1 (by omega) (by omega) (by rw [if_neg h1, if_neg (by omega), if_neg (by omega)])
theorem r_seat {x : Int} (h0 : -6 ≤ x) (h1 : x ≤ 12) (hK : kg_T L a) (e8 : μ a 8 = s 1) (w1 : 1 ≤ s 1 ∧ s 1 ≤ 6) (t : Q (some (kI (x % s 1))) (kg L) μ) : kx_cx (ke (d + 2)) 67 [kR a, kI x] (kg L) μ Q := by
  refine ke_start (tb := kt_Town_seat) (ls := [some (kR a), some (kI x)]) rfl rfl ?_
  obtain ⟨g0, g1, g2, g3, g4, g5, g6, g7, g8, g9, g10, g11, g12, g13, g14, g15, g16⟩ := hK
  refine ks_aload_n rfl rfl ?_
  refine ks_geti rfl rfl (by assumption) rfl (by (try simp only [kx_up_at, kx_row_at, up1_at, Nat.reduceEqDiff, Int.reduceEq, Int.reduceNeg, and_true, true_and, and_false, false_and, and_self, reduceIte, Nat.add_left_cancel_iff, Nat.add_eq_left, Nat.left_eq_add, Nat.reduceAdd, Int.add_left_inj, Int.add_right_inj, e8]); rfl) ?_
  -- at 4: if le -> 18 else 7 st [None]
  refine ks_if_le rfl ⟨by omega, by omega⟩ (fun c1 => ?_) (fun c1 => absurd c1 (by omega))
  refine ks_iload_n rfl rfl ?_
  refine ks_aload_n rfl rfl ?_
  refine ks_geti rfl rfl (by assumption) rfl (by (try simp only [kx_up_at, kx_row_at, up1_at, Nat.reduceEqDiff, Int.reduceEq, Int.reduceNeg, and_true, true_and, and_false, false_and, and_self, reduceIte, Nat.add_left_cancel_iff, Nat.add_eq_left, Nat.left_eq_add, Nat.reduceAdd, Int.add_left_inj, Int.add_right_inj, e8]); rfl) ?_
  refine ks_calls_2 rfl (Nat.le_of_ble_eq_true rfl) ?_
  -- at 12: call Math_floorMod st []
  refine r_floorMod h0 h1 w1.1 w1.2 ?_
  show kx_wx _ _ _ _ _ (_ :: _) _ _
  refine ks_goto rfl ?_
  refine ks_ireturn rfl ?_
  -- at 19: ret  st [None]
  exact t
theorem r_handTo {h : Int} (hK : kg_T L a) (t : Q none (kg L) (kx_up (kx_up μ a 11 h) a 12 0)) : kx_cx (ke (d + 1)) 60 [kR a, kI h] (kg L) μ Q := by
  refine ke_start (tb := kt_Town_handTo) (ls := [some (kR a), some (kI h)]) rfl rfl ?_
  obtain ⟨g0, g1, g2, g3, g4, g5, g6, g7, g8, g9, g10, g11, g12, g13, g14, g15, g16⟩ := hK
  refine ks_aload_n rfl rfl ?_
  refine ks_iload_n rfl rfl ?_
  refine ks_puti rfl (by assumption) ?_
  refine ks_aload_n rfl rfl ?_
  refine ks_iconst rfl ?_
  refine ks_puti rfl (by assumption) ?_
  refine ks_return rfl ?_
  -- at 10: ret  st []
  exact t
theorem r_workOn {f : Int} (hB : B ≤ 100000) (hK : kg_T L a) (hT : TRx μ a s (s 3 + 1)) (hw : tw_W B s) (hf : 0 ≤ f ∧ f < s 2) (hz : s (38 + f) = 0) (t : ∀ μ', TRx μ' a (tw_work s (s 4) f) (s 3 + 1) → Fr a μ μ' → Q none (kg L) μ') : kx_cx (ke (d + 1)) 64 [kR a, kI f] (kg L) μ Q := by
  refine ke_start (tb := kt_Town_workOn) (ls := [some (kR a), some (kI f)]) rfl rfl ?_
  obtain ⟨g0, g1, g2, g3, g4, g5, g6, g7, g8, g9, g10, g11, g12, g13, g14, g15, g16⟩ := hK
  obtain ⟨e8, e9, e10, e11, e12, e13, eh, eo⟩ := hT
  obtain ⟨w1, w2, w3, w4, w5, w6, w7, w8⟩ := hw
  have q7 := w7 (s 4) w3.1 w3.2
  have q8 := w8 f hf.1 hf.2
  obtain ⟨ek, ep, el, ew⟩ := eh (s 4) w3.1 w3.2
  obtain ⟨on, ol, os, od⟩ := eo f hf.1 hf.2
  have f0 : ¬ f < 0 := by omega
  have lo : ∀ j : Int, j < 24 ∨ 30 ≤ j ∧ j < 34 → tw_work s (s 4) f j = s j := fun j hj => tw_work_lo (by omega) (by omega) hj
  refine ks_aload_n rfl rfl ?_
  refine ks_getr (b := a + 6) rfl rfl (by assumption) (by assumption) (Nat.succ_ne_zero _) ?_
  refine ks_iload_n rfl rfl ?_
  refine ks_dup2 rfl ?_
  refine ks_iaload rfl (by assumption) (by omega) (by omega) (by (try simp only [kx_up_at, kx_row_at, up1_at, Nat.reduceEqDiff, Int.reduceEq, Int.reduceNeg, and_true, true_and, and_false, false_and, and_self, reduceIte, Nat.add_left_cancel_iff, Nat.add_eq_left, Nat.left_eq_add, Nat.reduceAdd, Int.add_left_inj, Int.add_right_inj, e11, ol, ew]); rfl) ?_
  refine ks_iconst rfl ?_
  refine ks_isub rfl ?_
  refine ks_iastore rfl (by assumption) (by omega) (by omega) ?_
  refine ks_aload_n rfl rfl ?_
  refine ks_getr (b := a + 4) rfl rfl (by assumption) (by assumption) (Nat.succ_ne_zero _) ?_
  refine ks_aload_n rfl rfl ?_
  refine ks_geti rfl rfl (by assumption) rfl (by (try simp only [kx_up_at, kx_row_at, up1_at, Nat.reduceEqDiff, Int.reduceEq, Int.reduceNeg, and_true, true_and, and_false, false_and, and_self, reduceIte, Nat.add_left_cancel_iff, Nat.add_eq_left, Nat.left_eq_add, Nat.reduceAdd, Int.add_left_inj, Int.add_right_inj, e11, ol, ew]); rfl) ?_
  refine ks_dup2 rfl ?_
  refine ks_iaload rfl (by assumption) (by omega) (by omega) (by (try simp only [kx_up_at, kx_row_at, up1_at, Nat.reduceEqDiff, Int.reduceEq, Int.reduceNeg, and_true, true_and, and_false, false_and, and_self, reduceIte, Nat.add_left_cancel_iff, Nat.add_eq_left, Nat.left_eq_add, Nat.reduceAdd, Int.add_left_inj, Int.add_right_inj, e11, ol, ew]); rfl) ?_
  refine ks_iconst rfl ?_
  refine ks_iadd rfl ?_
  refine ks_iastore rfl (by assumption) (by omega) (by omega) ?_
  refine ks_aload_n rfl rfl ?_
  refine ks_getr (b := a + 6) rfl rfl (by assumption) (by assumption) (Nat.succ_ne_zero _) ?_
  refine ks_iload_n rfl rfl ?_
  refine ks_iaload rfl (by assumption) (by omega) (by omega) (by (try simp only [kx_up_at, kx_row_at, up1_at, Nat.reduceEqDiff, Int.reduceEq, Int.reduceNeg, and_true, true_and, and_false, false_and, and_self, reduceIte, Nat.add_left_cancel_iff, Nat.add_eq_left, Nat.left_eq_add, Nat.reduceAdd, Int.add_left_inj, Int.add_right_inj, e11, ol, ew]); rfl) ?_
  -- at 29: if ne -> 49 else 32 st [None]
  refine ks_if_ne rfl ⟨by omega, by omega⟩ (fun h1 => ?_) (fun h1 => ?_)
  · refine ks_aload_n rfl rfl ?_
    refine ks_getr (b := a + 7) rfl rfl (by assumption) (by assumption) (Nat.succ_ne_zero _) ?_
    refine ks_iload_n rfl rfl ?_
    refine ks_iconst rfl ?_
    refine ks_iastore rfl (by assumption) (by omega) (by omega) ?_
    refine ks_aload_n rfl rfl ?_
    refine ks_getr (b := a + 8) rfl rfl (by assumption) (by assumption) (Nat.succ_ne_zero _) ?_
    refine ks_iload_n rfl rfl ?_
    refine ks_aload_n rfl rfl ?_
    refine ks_geti rfl rfl (by assumption) rfl (by (try simp only [kx_up_at, kx_row_at, up1_at, Nat.reduceEqDiff, Int.reduceEq, Int.reduceNeg, and_true, true_and, and_false, false_and, and_self, reduceIte, Nat.add_left_cancel_iff, Nat.add_eq_left, Nat.left_eq_add, Nat.reduceAdd, Int.add_left_inj, Int.add_right_inj, e13]); rfl) ?_
    refine ks_iastore rfl (by assumption) (by omega) (by omega) ?_
    refine ks_return rfl ?_
    -- at 49: ret  st []
    refine t _ ?_ ?_
    · refine ⟨?_, ?_, ?_, ?_, ?_, ?_, ?_, ?_⟩
      · rw [lo 1 (by omega)]; simp [kx_up_at]; exact e8
      · rw [lo 2 (by omega)]; simp [kx_up_at]; exact e9
      · rw [lo 0 (by omega)]; simp [kx_up_at]; exact e10
      · rw [lo 4 (by omega)]; simp [kx_up_at]; exact e11
      · rw [lo 5 (by omega)]; simp [kx_up_at]; exact e12
      · simp [kx_up_at]; exact e13
      · intro i i0 i1
        rw [lo 1 (by omega)] at i1
        obtain ⟨b1, b2, b3, b4⟩ := eh i i0 i1
        rw [lo (6 + i) (by omega), lo (12 + i) (by omega), lo (18 + i) (by omega)]
        refine ⟨by simp [kx_up_at]; exact b1, by simp [kx_up_at]; exact b2, by simp [kx_up_at]; exact b3, ?_⟩
        unfold tw_work
        rw [if_neg f0, if_pos h1]
        have m1 : ¬ (24 + i = 42 + f) := by omega
        have m2 : ¬ (24 + i = 38 + f) := by omega
        have m3 : ¬ (24 + i = 34 + f) := by omega
        have m4 : (24 + i = 24 + s 4) = (i = s 4) := by simp only [eq_iff_iff]; omega
        simp only [kx_up_at, up1_at, Nat.add_left_cancel_iff, Nat.reduceEqDiff, false_and, true_and, and_false, and_true, if_false, if_true, m1, m2, m3, m4]
        by_cases e : i = s 4
        · rw [if_pos e, if_pos e]
        · rw [if_neg e, if_neg e]; exact b4
      · intro k k0 k1
        rw [lo 2 (by omega)] at k1
        obtain ⟨b1, b2, b3, b4⟩ := eo k k0 k1
        rw [lo (30 + k) (by omega)]
        refine ⟨by simp [kx_up_at]; exact b1, ?_⟩
        unfold tw_work
        rw [if_neg f0, if_pos h1]
        have m2 : ¬ (34 + k = 42 + f) := by omega
        have m3 : ¬ (34 + k = 38 + f) := by omega
        have m4 : ¬ (34 + k = 24 + s 4) := by omega
        have m5 : ¬ (38 + k = 42 + f) := by omega
        have m6 : ¬ (38 + k = 24 + s 4) := by omega
        have m7 : ¬ (38 + k = 34 + f) := by omega
        have m8 : ¬ (42 + k = 38 + f) := by omega
        have m9 : ¬ (42 + k = 24 + s 4) := by omega
        have m10 : ¬ (42 + k = 34 + f) := by omega
        have c1 : (34 + k = 34 + f) = (k = f) := by simp only [eq_iff_iff]; omega
        have c2 : (38 + k = 38 + f) = (k = f) := by simp only [eq_iff_iff]; omega
        have c3 : (42 + k = 42 + f) = (k = f) := by simp only [eq_iff_iff]; omega
        simp only [kx_up_at, up1_at, Nat.add_left_cancel_iff, Nat.reduceEqDiff, false_and, true_and, and_false, and_true, if_false, if_true, m2, m3, m4, m5, m6, m7, m8, m9, m10, c1, c2, c3]
        by_cases e : k = f
        · subst e
          simp_all
        · simp only [if_neg e]
          exact ⟨b2, b3, b4⟩
    · exact Fr_up (Fr_up (Fr_up (Fr_up (Fr_rf a μ) (by omega)) (by omega)) (by omega)) (by omega)
  · refine ks_return rfl ?_
    -- at 49: ret  st []
    refine t _ ?_ ?_
    · refine ⟨?_, ?_, ?_, ?_, ?_, ?_, ?_, ?_⟩
      · rw [lo 1 (by omega)]; simp [kx_up_at]; exact e8
      · rw [lo 2 (by omega)]; simp [kx_up_at]; exact e9
      · rw [lo 0 (by omega)]; simp [kx_up_at]; exact e10
      · rw [lo 4 (by omega)]; simp [kx_up_at]; exact e11
      · rw [lo 5 (by omega)]; simp [kx_up_at]; exact e12
      · simp [kx_up_at]; exact e13
      · intro i i0 i1
        rw [lo 1 (by omega)] at i1
        obtain ⟨b1, b2, b3, b4⟩ := eh i i0 i1
        rw [lo (6 + i) (by omega), lo (12 + i) (by omega), lo (18 + i) (by omega)]
        refine ⟨by simp [kx_up_at]; exact b1, by simp [kx_up_at]; exact b2, by simp [kx_up_at]; exact b3, ?_⟩
        unfold tw_work
        rw [if_neg f0, if_neg h1]
        have m1 : ¬ (24 + i = 42 + f) := by omega
        have m2 : ¬ (24 + i = 38 + f) := by omega
        have m3 : ¬ (24 + i = 34 + f) := by omega
        have m4 : (24 + i = 24 + s 4) = (i = s 4) := by simp only [eq_iff_iff]; omega
        simp only [kx_up_at, up1_at, Nat.add_left_cancel_iff, Nat.reduceEqDiff, false_and, true_and, and_false, and_true, if_false, if_true, m1, m2, m3, m4]
        by_cases e : i = s 4
        · rw [if_pos e, if_pos e]
        · rw [if_neg e, if_neg e]; exact b4
      · intro k k0 k1
        rw [lo 2 (by omega)] at k1
        obtain ⟨b1, b2, b3, b4⟩ := eo k k0 k1
        rw [lo (30 + k) (by omega)]
        refine ⟨by simp [kx_up_at]; exact b1, ?_⟩
        unfold tw_work
        rw [if_neg f0, if_neg h1]
        have m2 : ¬ (34 + k = 42 + f) := by omega
        have m3 : ¬ (34 + k = 38 + f) := by omega
        have m4 : ¬ (34 + k = 24 + s 4) := by omega
        have m5 : ¬ (38 + k = 42 + f) := by omega
        have m6 : ¬ (38 + k = 24 + s 4) := by omega
        have m7 : ¬ (38 + k = 34 + f) := by omega
        have m8 : ¬ (42 + k = 38 + f) := by omega
        have m9 : ¬ (42 + k = 24 + s 4) := by omega
        have m10 : ¬ (42 + k = 34 + f) := by omega
        have c1 : (34 + k = 34 + f) = (k = f) := by simp only [eq_iff_iff]; omega
        have c2 : (38 + k = 38 + f) = (k = f) := by simp only [eq_iff_iff]; omega
        have c3 : (42 + k = 42 + f) = (k = f) := by simp only [eq_iff_iff]; omega
        simp only [kx_up_at, up1_at, Nat.add_left_cancel_iff, Nat.reduceEqDiff, false_and, true_and, and_false, and_true, if_false, if_true, m2, m3, m4, m5, m6, m7, m8, m9, m10, c1, c2, c3]
        by_cases e : k = f
        · subst e
          simp_all
        · simp only [if_neg e]
          exact ⟨b2, b3, b4⟩
    · exact Fr_up (Fr_up (Fr_rf a μ) (by omega)) (by omega)
end CU
end
section
/-! a step of the class's town is a step of the reference's -/
theorem up1_ne {f : Int → Int} {i v j : Int} (h : j ≠ i) : up1 f i v j = f j := by rw [up1_at, if_neg h]
theorem TRx_13 {μ : kx_M} {a : Nat} {s : Int → Int} {z v : Int} (h : TRx μ a s z) : TRx (kx_up μ a 13 v) a s v := by
  obtain ⟨e8, e9, e10, e11, e12, e13, eh, eo⟩ := h
  refine ⟨by simp [kx_up_at]; exact e8, by simp [kx_up_at]; exact e9, by simp [kx_up_at]; exact e10, by simp [kx_up_at]; exact e11, by simp [kx_up_at]; exact e12, by simp [kx_up_at], fun i i0 i1 => ?_, fun k k0 k1 => ?_⟩
  · have := eh i i0 i1
    simpa [kx_up_at] using this
  · have := eo k k0 k1
    rw [kx_up_row (by omega), kx_up_row (by omega), kx_up_row (by omega), kx_up_row (by omega)]; exact this
theorem TRx_12 {μ : kx_M} {a : Nat} {s : Int → Int} {z v : Int} (h : TRx μ a s z) (h1 : s 1 ≤ 6) : TRx (kx_up μ a 12 v) a (up1 s 5 v) z := by
  obtain ⟨e8, e9, e10, e11, e12, e13, eh, eo⟩ := h
  refine ⟨by simp [kx_up_at, up1_at]; exact e8, by simp [kx_up_at, up1_at]; exact e9, by simp [kx_up_at, up1_at]; exact e10, by simp [kx_up_at, up1_at]; exact e11, by simp [kx_up_at, up1_at], by simp [kx_up_at]; exact e13, fun i i0 i1 => ?_, fun k k0 k1 => ?_⟩
  · have := eh i i0 i1
    rw [kx_up_row (by omega), kx_up_row (by omega), kx_up_row (by omega), kx_up_row (by omega)]
    rw [up1_ne (by omega), up1_ne (by omega), up1_ne (by omega), up1_ne (by omega)]; exact this
  · have := eo k k0 k1
    rw [kx_up_row (by omega), kx_up_row (by omega), kx_up_row (by omega), kx_up_row (by omega)]
    rw [up1_ne (by omega), up1_ne (by omega), up1_ne (by omega), up1_ne (by omega)]; exact this
theorem TRx_11 {μ : kx_M} {a : Nat} {s : Int → Int} {z v : Int} (h : TRx μ a s z) : TRx (kx_up μ a 11 v) a (up1 s 4 v) z := by
  obtain ⟨e8, e9, e10, e11, e12, e13, eh, eo⟩ := h
  refine ⟨by simp [kx_up_at, up1_at]; exact e8, by simp [kx_up_at, up1_at]; exact e9, by simp [kx_up_at, up1_at]; exact e10, by simp [kx_up_at, up1_at], by simp [kx_up_at, up1_at]; exact e12, by simp [kx_up_at]; exact e13, fun i i0 i1 => ?_, fun k k0 k1 => ?_⟩
  · have := eh i i0 i1
    rw [kx_up_row (by omega), kx_up_row (by omega), kx_up_row (by omega), kx_up_row (by omega)]
    rw [up1_ne (by omega), up1_ne (by omega), up1_ne (by omega), up1_ne (by omega)]; exact this
  · have := eo k k0 k1
    rw [kx_up_row (by omega), kx_up_row (by omega), kx_up_row (by omega), kx_up_row (by omega)]
    rw [up1_ne (by omega), up1_ne (by omega), up1_ne (by omega), up1_ne (by omega)]; exact this
theorem TRx_10 {μ : kx_M} {a : Nat} {s : Int → Int} {z v : Int} (h : TRx μ a s z) : TRx (kx_up μ a 10 v) a (up1 s 0 v) z := by
  obtain ⟨e8, e9, e10, e11, e12, e13, eh, eo⟩ := h
  refine ⟨by simp [kx_up_at, up1_at]; exact e8, by simp [kx_up_at, up1_at]; exact e9, by simp [kx_up_at, up1_at], by simp [kx_up_at, up1_at]; exact e11, by simp [kx_up_at, up1_at]; exact e12, by simp [kx_up_at]; exact e13, fun i i0 i1 => ?_, fun k k0 k1 => ?_⟩
  · have := eh i i0 i1
    rw [kx_up_row (by omega), kx_up_row (by omega), kx_up_row (by omega), kx_up_row (by omega)]
    rw [up1_ne (by omega), up1_ne (by omega), up1_ne (by omega), up1_ne (by omega)]; exact this
  · have := eo k k0 k1
    rw [kx_up_row (by omega), kx_up_row (by omega), kx_up_row (by omega), kx_up_row (by omega)]
    rw [up1_ne (by omega), up1_ne (by omega), up1_ne (by omega), up1_ne (by omega)]; exact this
/-- the step's number is not seen -/
theorem TRx_s3 {μ : kx_M} {a : Nat} {s : Int → Int} {z v : Int} (h : TRx μ a s z) : TRx μ a (up1 s 3 v) z := by
  obtain ⟨e8, e9, e10, e11, e12, e13, eh, eo⟩ := h
  refine ⟨e8, e9, e10, e11, e12, e13, fun i i0 i1 => ?_, fun k k0 k1 => ?_⟩
  · have := eh i i0 i1
    rw [up1_ne (by omega), up1_ne (by omega), up1_ne (by omega), up1_ne (by omega)]; exact this
  · have := eo k k0 k1
    rw [up1_ne (by omega), up1_ne (by omega), up1_ne (by omega), up1_ne (by omega)]; exact this
section CV
variable {d L : Nat} {G : kx_G} {μ : kx_M} {Q : Option kx_V → kx_G → kx_M → Prop} {a : Nat} {s : Int → Int} {B z : Int}
theorem r_takeStep (hB : B ≤ 100000) (hK : kg_T L a) (hT : TR μ a s) (hw : tw_W B s) (t : ∀ μ', TR μ' a (tw_step s) → Fr a μ μ' → Q (some (kI (tw_found s (s 4)))) (kg L) μ') : kx_cx (ke (d + 3)) 61 [kR a] (kg L) μ Q := by
  refine ke_start (tb := kt_Town_takeStep) (ls := [some (kR a), none]) rfl rfl ?_
  have hK0 := hK
  have hw0 := hw
  obtain ⟨g0, g1, g2, g3, g4, g5, g6, g7, g8, g9, g10, g11, g12, g13, g14, g15, g16⟩ := hK
  have e13 : μ a 13 = s 3 := hT.2.2.2.2.2.1
  obtain ⟨w1, w2, w3, w4, w5, w6, w7, w8⟩ := hw
  have hfi := tw_found_in s (s 4)
  refine ks_aload_n rfl rfl ?_
  refine ks_dupR rfl ?_
  refine ks_geti rfl rfl (by assumption) rfl (by (try simp only [kx_up_at, kx_row_at, up1_at, Nat.reduceEqDiff, Int.reduceEq, Int.reduceNeg, and_true, true_and, and_false, false_and, and_self, reduceIte, Nat.add_left_cancel_iff, Nat.add_eq_left, Nat.left_eq_add, Nat.reduceAdd, Int.add_left_inj, Int.add_right_inj, e13]); rfl) ?_
  refine ks_iconst rfl ?_
  refine ks_iadd rfl ?_
  refine ks_puti rfl (by assumption) ?_
  refine ks_aload_n rfl rfl ?_
  refine ks_callv_1 rfl rfl (by assumption) (Nat.le_of_ble_eq_true rfl) ?_
  -- at 11: call Town_orderToWorkOn st []
  have hT1 : TRx (kx_up μ a 13 (s 3 + 1)) a s (s 3 + 1) := TRx_13 hT
  have F1 : Fr a μ (kx_up μ a 13 (s 3 + 1)) := Fr_up (Fr_rf a μ) (by omega)
  generalize kx_up μ a 13 (s 3 + 1) = μ1 at *
  refine r_orderToWorkOn hK0 hT1 hw0 ?_
  show kx_wx _ _ _ _ _ (_ :: _) _ _
  have key : ∀ μ2, TRx μ2 a (tw_work s (s 4) (tw_found s (s 4))) (s 3 + 1) → Fr a μ μ2 → kx_wx (ke (d + 2)) kt_Town_takeStep Q 25 [some (kR a), some (kI (tw_found s (s 4)))] [] (kg L) μ2 := by
    intro μ2 T2 F2
    unfold tw_step at t
    have hlo : ∀ j : Int, j < 24 ∨ 30 ≤ j ∧ j < 34 → tw_work s (s 4) (tw_found s (s 4)) j = s j := fun j hj => tw_work_lo (by omega) (by omega) hj
    have hho : ∀ k : Int, 0 ≤ k → k < s 2 → 0 ≤ tw_work s (s 4) (tw_found s (s 4)) (38 + k) ∧ tw_work s (s 4) (tw_found s (s 4)) (38 + k) ≤ 2 := fun k a b => tw_work_how hw0 w3 (by omega) a b
    generalize tw_work s (s 4) (tw_found s (s 4)) = s1 at *
    have e12 : μ2 a 12 = s 5 := by rw [← hlo 5 (by omega)]; exact T2.2.2.2.2.1
    have T3 : TRx (kx_up μ2 a 12 (s 5 + 1)) a (tw_tick s1) (s 3 + 1) := by
      have := TRx_s3 (v := s1 3 + 1) (TRx_12 (v := s1 5 + 1) T2 (by rw [hlo 1 (by omega)]; omega))
      rw [hlo 5 (by omega)] at this
      unfold tw_tick
      rw [hlo 5 (by omega)]
      exact this
    have a3 : tw_tick s1 3 = s 3 + 1 := by rw [← hlo 3 (by omega)]; rfl
    have a5 : tw_tick s1 5 = s 5 + 1 := by rw [← hlo 5 (by omega)]; rfl
    have ao : ∀ j : Int, j ≠ 5 ∧ j ≠ 3 → tw_tick s1 j = s1 j := fun j hj => tw_tick_at hj
    have a4 : tw_tick s1 4 = s 4 := by rw [ao 4 (by omega), hlo 4 (by omega)]
    have a1 : tw_tick s1 1 = s 1 := by rw [ao 1 (by omega), hlo 1 (by omega)]
    have U : tw_U (tw_tick s1) := by
      refine ⟨?_, ?_, ?_, ?_, ?_, ?_⟩
      · omega
      · rw [ao 2 (by omega), hlo 2 (by omega)]; exact w2
      · rw [a4, a1]; exact w3
      · rw [ao 0 (by omega), hlo 0 (by omega)]; exact w4
      · intro i i0 i1
        rw [a1] at i1
        have := w7 i i0 i1
        rw [ao (6 + i) (by omega), hlo (6 + i) (by omega), ao (12 + i) (by omega), hlo (12 + i) (by omega)]
        omega
      · intro k k0 k1
        rw [ao 2 (by omega), hlo 2 (by omega)] at k1
        rw [ao (38 + k) (by omega)]
        exact hho k k0 k1
    have F3 : Fr a μ (kx_up μ2 a 12 (s 5 + 1)) := Fr_up F2 (by omega)
    refine ks_aload_n rfl rfl ?_
    refine ks_dupR rfl ?_
    refine ks_geti rfl rfl (by assumption) rfl (by (try simp only [kx_up_at, kx_row_at, up1_at, Nat.reduceEqDiff, Int.reduceEq, Int.reduceNeg, and_true, true_and, and_false, false_and, and_self, reduceIte, Nat.add_left_cancel_iff, Nat.add_eq_left, Nat.left_eq_add, Nat.reduceAdd, Int.add_left_inj, Int.add_right_inj, e12]); rfl) ?_
    refine ks_iconst rfl ?_
    refine ks_iadd rfl ?_
    refine ks_puti rfl (by assumption) ?_
    refine ks_aload_n rfl rfl ?_
    refine ks_geti rfl rfl (by assumption) rfl (by (try simp only [kx_up_at, kx_row_at, up1_at, Nat.reduceEqDiff, Int.reduceEq, Int.reduceNeg, and_true, true_and, and_false, false_and, and_self, reduceIte, Nat.add_left_cancel_iff, Nat.add_eq_left, Nat.left_eq_add, Nat.reduceAdd, Int.add_left_inj, Int.add_right_inj, e12]); rfl) ?_
    refine ks_aload_n rfl rfl ?_
    refine ks_callv_1 rfl rfl (by assumption) (Nat.le_of_ble_eq_true rfl) ?_
    -- at 40: call Town_patience st [None]
    generalize tw_tick s1 = s2 at *
    generalize kx_up μ2 a 12 (s 5 + 1) = μ3 at *
    have ou := tw_oc_in s2 (s2 2).toNat
    have ou' : tw_oc s2 (s2 2).toNat = tw_out s2 := rfl
    refine r_patience hK0 T3 U ?_
    show kx_wx _ _ _ _ _ (_ :: _) _ _
    have e11 : μ3 a 11 = s 4 := by rw [T3.2.2.2.1, a4]
    have q7 := U.2.2.2.2.1 (s 4) w3.1 (by omega)
    unfold tw_goes at t
    rw [a4]
    have hpb : 0 ≤ s2 (12 + s 4) + (if s2 (6 + s 4) = 3 then tw_out s2 else 0) ∧ s2 (12 + s 4) + (if s2 (6 + s 4) = 3 then tw_out s2 else 0) ≤ 100 := by
      have := U.2.1
      split <;> omega
    generalize hp : s2 (12 + s 4) + (if s2 (6 + s 4) = 3 then tw_out s2 else 0) = pz at *
    refine ks_icmp_lt rfl ⟨by omega, by omega⟩ ⟨by omega, by omega⟩ (fun c1 => ?_) (fun c1 => ?_)
    · refine ks_iload_n rfl rfl ?_
      refine ks_ireturn rfl ?_
      -- at 64: ret  st [None]
      rw [a5, if_pos c1] at t
      refine t _ ?_ F3
      unfold TR
      rw [a3]
      exact T3
    · rw [a5, if_neg c1] at t
      refine ks_aload_n rfl rfl ?_
      refine ks_aload_n rfl rfl ?_
      refine ks_aload_n rfl rfl ?_
      refine ks_geti rfl rfl (by assumption) rfl (by (try simp only [kx_up_at, kx_row_at, up1_at, Nat.reduceEqDiff, Int.reduceEq, Int.reduceNeg, and_true, true_and, and_false, false_and, and_self, reduceIte, Nat.add_left_cancel_iff, Nat.add_eq_left, Nat.left_eq_add, Nat.reduceAdd, Int.add_left_inj, Int.add_right_inj, e11]); rfl) ?_
      refine ks_aload_n rfl rfl ?_
      refine ks_callv_1 rfl rfl (by assumption) (Nat.le_of_ble_eq_true rfl) ?_
      -- at 53: call Town_stride st [None, 'a', 'a']
      refine r_stride hK0 T3 U ?_
      intro v v0 v1 vv
      show kx_wx _ _ _ _ _ (_ :: _) _ _
      rw [a4] at vv
      refine ks_iadd rfl ?_
      refine ks_callv_2 rfl rfl (by assumption) (Nat.le_of_ble_eq_true rfl) ?_
      -- at 57: call Town_seat st ['a']
      refine r_seat (s := s2) (by omega) (by omega) hK0 T3.1 U.1 ?_
      show kx_wx _ _ _ _ _ (_ :: _) _ _
      rw [vv]
      refine ks_callv_2 rfl rfl (by assumption) (Nat.le_of_ble_eq_true rfl) ?_
      -- at 60: call Town_handTo st []
      refine r_handTo hK0 ?_
      show kx_wx _ _ _ _ _ _ _ _
      refine ks_iload_n rfl rfl ?_
      refine ks_ireturn rfl ?_
      -- at 64: ret  st [None]
      refine t _ ?_ (Fr_up (Fr_up F3 (by omega)) (by omega))
      unfold TR
      have := TRx_12 (v := 0) (TRx_11 (v := tw_on s2 (s 4)) T3) (by rw [up1_ne (by omega)]; omega)
      rw [up1_ne (by omega), up1_ne (by omega), a3]
      exact this
  refine ks_istore_n_1 rfl rfl ?_
  refine ks_iload_n rfl rfl ?_
  refine ks_iconst rfl ?_
  -- at 17: if eq -> 25 else 20 st ['-1', None]
  refine ks_icmp_eq rfl ⟨by omega, by omega⟩ ⟨by omega, by omega⟩ (fun c1 => ?_) (fun c1 => ?_)
  · refine key _ ?_ F1
    unfold tw_work
    rw [if_pos (by omega)]
    exact hT1
  · obtain ⟨f0, f1, f2⟩ := hfi.resolve_left c1
    refine ks_aload_n rfl rfl ?_
    refine ks_iload_n rfl rfl ?_
    refine ks_callv_2 rfl rfl (by assumption) (Nat.le_of_ble_eq_true rfl) ?_
    -- at 22: call Town_workOn st []
    refine r_workOn hB hK0 hT1 hw0 ⟨f0, f1⟩ f2.1 (fun μ2 T2 F2 => ?_)
    show kx_wx _ _ _ _ _ _ _ _
    exact key μ2 T2 (Fr_tr F1 F2)
end CV
end
section
/-! more of the class's town -/
theorem tw_W_step {B : Int} {s : Int → Int} (h : tw_W B s) : tw_W (B + 1) (tw_step s) := by
  have hw0 := h
  obtain ⟨w1, w2, w3, w4, w5, w6, w7, w8⟩ := h
  have hfi := tw_found_in s (s 4)
  have q7 := w7 (s 4) w3.1 w3.2
  unfold tw_step
  have hlo : ∀ j : Int, j < 24 ∨ 30 ≤ j ∧ j < 34 → tw_work s (s 4) (tw_found s (s 4)) j = s j := fun j hj => tw_work_lo (by omega) (by omega) hj
  have hwk : ∀ i : Int, 0 ≤ i → i < s 1 → 0 ≤ tw_work s (s 4) (tw_found s (s 4)) (24 + i) ∧ tw_work s (s 4) (tw_found s (s 4)) (24 + i) ≤ s 3 + 1 := by
    intro i i0 i1
    have q := w7 i i0 i1
    unfold tw_work
    split
    · omega
    · split
      · rw [up1_ne (by omega), up1_ne (by omega), up1_at]
        split
        · omega
        · rw [up1_ne (by omega)]; omega
      · rw [up1_at]
        split
        · omega
        · rw [up1_ne (by omega)]; omega
  have hod : ∀ k : Int, 0 ≤ k → k < s 2 → (0 ≤ tw_work s (s 4) (tw_found s (s 4)) (34 + k) ∧ tw_work s (s 4) (tw_found s (s 4)) (34 + k) ≤ 40) ∧ (0 ≤ tw_work s (s 4) (tw_found s (s 4)) (38 + k) ∧ tw_work s (s 4) (tw_found s (s 4)) (38 + k) ≤ 2) ∧ (tw_work s (s 4) (tw_found s (s 4)) (38 + k) = 0 → 1 ≤ tw_work s (s 4) (tw_found s (s 4)) (34 + k)) ∧ (tw_work s (s 4) (tw_found s (s 4)) (38 + k) = 1 → 1 ≤ tw_work s (s 4) (tw_found s (s 4)) (42 + k) ∧ tw_work s (s 4) (tw_found s (s 4)) (42 + k) ≤ s 3 + 1) := by
    intro k k0 k1
    have q := w8 k k0 k1
    generalize tw_found s (s 4) = f at *
    by_cases f0 : f < 0
    · unfold tw_work
      rw [if_pos f0]; omega
    · obtain ⟨f1, f2, f3⟩ := hfi.resolve_left (by omega)
      have f4 := f3.1
      have f5 := (w8 f f1 f2)
      by_cases e : k = f
      · subst e
        unfold tw_work
        rw [if_neg f0]
        by_cases z : s (34 + k) - 1 = 0
        · rw [if_pos z]
          simp only [up1_at]
          have m1 : ¬ (34 + k = 42 + k) := by omega
          have m2 : ¬ (34 + k = 38 + k) := by omega
          have m3 : ¬ (34 + k = 24 + s 4) := by omega
          have m4 : ¬ (38 + k = 42 + k) := by omega
          simp only [m1, m2, m3, m4, if_false, if_true]
          omega
        · rw [if_neg z]
          simp only [up1_at]
          have m3 : ¬ (34 + k = 24 + s 4) := by omega
          have m4 : ¬ (38 + k = 24 + s 4) := by omega
          have m5 : ¬ (38 + k = 34 + k) := by omega
          have m6 : ¬ (42 + k = 24 + s 4) := by omega
          have m7 : ¬ (42 + k = 34 + k) := by omega
          simp only [m3, m4, m5, m6, m7, if_false, if_true]
          omega
      · have same : ∀ j : Int, (j = 34 + k ∨ j = 38 + k ∨ j = 42 + k) → tw_work s (s 4) f j = s j := by
          intro j hj
          unfold tw_work
          rw [if_neg f0]
          split
          · rw [up1_ne (by omega), up1_ne (by omega), up1_ne (by omega), up1_ne (by omega)]
          · rw [up1_ne (by omega), up1_ne (by omega)]
        rw [same (34 + k) (by omega), same (38 + k) (by omega), same (42 + k) (by omega)]
        omega
  generalize tw_work s (s 4) (tw_found s (s 4)) = s1 at *
  have a3 : tw_tick s1 3 = s 3 + 1 := by rw [← hlo 3 (by omega)]; rfl
  have a5 : tw_tick s1 5 = s 5 + 1 := by rw [← hlo 5 (by omega)]; rfl
  have ao : ∀ j : Int, j ≠ 5 ∧ j ≠ 3 → tw_tick s1 j = s1 j := fun j hj => tw_tick_at hj
  have a4 : tw_tick s1 4 = s 4 := by rw [ao 4 (by omega), hlo 4 (by omega)]
  have a1 : tw_tick s1 1 = s 1 := by rw [ao 1 (by omega), hlo 1 (by omega)]
  have a2 : tw_tick s1 2 = s 2 := by rw [ao 2 (by omega), hlo 2 (by omega)]
  have a0 : tw_tick s1 0 = s 0 := by rw [ao 0 (by omega), hlo 0 (by omega)]
  have b7 : ∀ i, 0 ≤ i → i < s 1 → (1 ≤ tw_tick s1 (6 + i) ∧ tw_tick s1 (6 + i) ≤ 5) ∧ (1 ≤ tw_tick s1 (12 + i) ∧ tw_tick s1 (12 + i) ≤ 9) ∧ (0 ≤ tw_tick s1 (18 + i) ∧ tw_tick s1 (18 + i) ≤ 15) ∧ (0 ≤ tw_tick s1 (24 + i) ∧ tw_tick s1 (24 + i) ≤ s 3 + 1) := by
    intro i i0 i1
    rw [ao (6 + i) (by omega), ao (12 + i) (by omega), ao (18 + i) (by omega), ao (24 + i) (by omega), hlo (6 + i) (by omega), hlo (12 + i) (by omega), hlo (18 + i) (by omega)]
    have := w7 i i0 i1
    exact ⟨this.1, this.2.1, this.2.2.1, hwk i i0 i1⟩
  have b8 : ∀ k, 0 ≤ k → k < s 2 → (1 ≤ tw_tick s1 (30 + k) ∧ tw_tick s1 (30 + k) ≤ 40) ∧ (0 ≤ tw_tick s1 (34 + k) ∧ tw_tick s1 (34 + k) ≤ 40) ∧ (0 ≤ tw_tick s1 (38 + k) ∧ tw_tick s1 (38 + k) ≤ 2) ∧ (tw_tick s1 (38 + k) = 0 → 1 ≤ tw_tick s1 (34 + k)) ∧ (tw_tick s1 (38 + k) = 1 → 1 ≤ tw_tick s1 (42 + k) ∧ tw_tick s1 (42 + k) ≤ s 3 + 1) := by
    intro k k0 k1
    rw [ao (30 + k) (by omega), ao (34 + k) (by omega), ao (38 + k) (by omega), ao (42 + k) (by omega), hlo (30 + k) (by omega)]
    exact ⟨(w8 k k0 k1).1, hod k k0 k1⟩
  clear hlo hwk hod
  generalize tw_tick s1 = s2 at *
  have ou := tw_oc_in s2 (s2 2).toNat
  have ou' : tw_oc s2 (s2 2).toNat = tw_out s2 := rfl
  have b74 := b7 (s 4) w3.1 w3.2
  unfold tw_goes
  have hx : (if s2 (6 + s 4) = 3 then tw_out s2 else 0) ≤ 4 := by split <;> omega
  by_cases hc : s2 5 < s2 (12 + s 4) + (if s2 (6 + s 4) = 3 then tw_out s2 else 0)
  · rw [if_pos hc]
    have hc2 : s2 5 < 13 := by omega
    refine ⟨by omega, by omega, by omega, by omega, by omega, by omega, ?_, ?_⟩
    · rw [a1, a3]; exact b7
    · rw [a2, a3]; exact b8
  · rw [if_neg hc]
    have on : 0 ≤ tw_on s2 (s 4) ∧ tw_on s2 (s 4) < s 1 := by
      unfold tw_on
      rw [a1]
      have p1 : ∀ x : Int, 0 ≤ x % s 1 ∧ x % s 1 < s 1 := fun x => ⟨Int.emod_nonneg _ (by omega), Int.emod_lt_of_pos _ (by omega)⟩
      split
      · exact p1 _
      · split
        · exact p1 _
        · split
          · exact p1 _
          · exact p1 _
    generalize tw_on s2 (s 4) = o at *
    have n : ∀ j : Int, j ≠ 5 ∧ j ≠ 4 → up1 (up1 s2 4 o) 5 0 j = s2 j := fun j hj => by rw [up1_ne hj.1, up1_ne hj.2]
    have n4 : up1 (up1 s2 4 o) 5 0 4 = o := rfl
    have n5 : up1 (up1 s2 4 o) 5 0 5 = 0 := rfl
    have n0 := n 0 (by omega)
    have n1 := n 1 (by omega)
    have n2 := n 2 (by omega)
    have n3 := n 3 (by omega)
    refine ⟨by omega, by omega, by omega, by omega, by omega, by omega, ?_, ?_⟩
    · rw [n1, n3, a1, a3]
      intro i i0 i1
      rw [n (6 + i) (by omega), n (12 + i) (by omega), n (18 + i) (by omega), n (24 + i) (by omega)]
      exact b7 i i0 i1
    · rw [n2, n3, a2, a3]
      intro k k0 k1
      rw [n (30 + k) (by omega), n (34 + k) (by omega), n (38 + k) (by omega), n (42 + k) (by omega)]
      exact b8 k k0 k1
theorem tw_W_mono {B C : Int} {s : Int → Int} (h : tw_W B s) (hc : B ≤ C) : tw_W C s := by
  obtain ⟨w1, w2, w3, w4, w5, w6, w7, w8⟩ := h
  exact ⟨w1, w2, w3, w4, ⟨w5.1, by omega⟩, w6, w7, w8⟩
theorem tw_W_go {B : Int} {s : Int → Int} (h : tw_W B s) : ∀ n : Nat, tw_W (B + n) (tw_go s n) := by
  intro n
  induction n with
  | zero => simpa [tw_go] using h
  | succ n ih =>
    have := tw_W_step ih
    exact tw_W_mono this (by omega)
theorem kx_up_self (μ : kx_M) (a : Nat) (i v : Int) : kx_up μ a i v a i = v := by rw [kx_up_at, if_pos ⟨rfl, rfl⟩]
theorem kx_up_oth {μ : kx_M} {a : Nat} {i v j : Int} (h : j ≠ i) : kx_up μ a i v a j = μ a j := by rw [kx_up_at, if_neg (fun q => h q.2)]
theorem kx_cpy_ne {μ : kx_M} {s d c : Nat} {sp dp n : Int} (h : c ≠ d) : kx_cpy μ s sp d dp n c = μ c := by
  funext j
  simp [kx_cpy, h]
theorem kx_cpy_in {μ : kx_M} {s d : Nat} {n j : Int} (h0 : 0 ≤ j) (h1 : j < n) : kx_cpy μ s 0 d 0 n d j = μ s j := by
  unfold kx_cpy
  rw [if_pos ⟨rfl, h0, by omega⟩, show (0 : Int) + (j - 0) = j by omega]
theorem up1_self (f : Int → Int) (i v : Int) : up1 f i v i = v := by rw [up1_at, if_pos rfl]
section CW
variable {d L : Nat} {G : kx_G} {μ : kx_M} {Q : Option kx_V → kx_G → kx_M → Prop} {a b : Nat} {s : Int → Int} {B z : Int}
theorem r_becomeLike (hA : kg_T L a) (hK : kg_T L b) (hd : a + 8 < b ∨ b + 8 < a) (hT : TRx μ b s z) (h1 : s 1 ≤ 6) (h2 : s 2 ≤ 4) (t : ∀ μ', TRx μ' a s z → Fr a μ μ' → Q none (kg L) μ') : kx_cx (ke (d + 1)) 54 [kR a, kR b] (kg L) μ Q := by
  refine ke_start (tb := kt_Town_becomeLike) (ls := [some (kR a), some (kR b)]) rfl rfl ?_
  obtain ⟨g0, g1, g2, g3, g4, g5, g6, g7, g8, g9, g10, g11, g12, g13, g14, g15, g16⟩ := hK
  obtain ⟨k0, k1, k2, k3, k4, k5, k6, k7, k8, k9, k10, k11, k12, k13, k14, k15, k16⟩ := hA
  obtain ⟨e8, e9, e10, e11, e12, e13, eh, eo⟩ := hT
  have hba : ¬ (b = a) := by omega
  have fin : ∀ M : kx_M, M b = μ b → (∀ i, 0 ≤ i → i < 6 → M (a + 1) i = μ (b + 1) i ∧ M (a + 2) i = μ (b + 2) i ∧ M (a + 3) i = μ (b + 3) i ∧ M (a + 4) i = μ (b + 4) i) → (∀ k, 0 ≤ k → k < 4 → M (a + 5) k = μ (b + 5) k ∧ M (a + 6) k = μ (b + 6) k ∧ M (a + 7) k = μ (b + 7) k ∧ M (a + 8) k = μ (b + 8) k) → Fr a μ M → kx_wx (ke d) kt_Town_becomeLike Q 116 [some (kR a), some (kR b)] [] (kg L) M := by
    intro M m0 m1 m2 m3
    have f8 : M b 8 = s 1 := by rw [m0]; exact e8
    have f9 : M b 9 = s 2 := by rw [m0]; exact e9
    have f10 : M b 10 = s 0 := by rw [m0]; exact e10
    have f11 : M b 11 = s 4 := by rw [m0]; exact e11
    have f12 : M b 12 = s 5 := by rw [m0]; exact e12
    have f13 : M b 13 = z := by rw [m0]; exact e13
    refine ks_aload_n rfl rfl ?_
    refine ks_aload_n rfl rfl ?_
    refine ks_geti rfl rfl (by assumption) rfl (by (try simp only [kx_up_at, kx_row_at, up1_at, Nat.reduceEqDiff, Int.reduceEq, Int.reduceNeg, and_true, true_and, and_false, false_and, and_self, reduceIte, Nat.add_left_cancel_iff, Nat.add_eq_left, Nat.left_eq_add, Nat.reduceAdd, Int.add_left_inj, Int.add_right_inj, hba, f8, f9, f10, f11, f12, f13]); rfl) ?_
    refine ks_puti rfl (by assumption) ?_
    refine ks_aload_n rfl rfl ?_
    refine ks_aload_n rfl rfl ?_
    refine ks_geti rfl rfl (by assumption) rfl (by (try simp only [kx_up_at, kx_row_at, up1_at, Nat.reduceEqDiff, Int.reduceEq, Int.reduceNeg, and_true, true_and, and_false, false_and, and_self, reduceIte, Nat.add_left_cancel_iff, Nat.add_eq_left, Nat.left_eq_add, Nat.reduceAdd, Int.add_left_inj, Int.add_right_inj, hba, f8, f9, f10, f11, f12, f13]); rfl) ?_
    refine ks_puti rfl (by assumption) ?_
    refine ks_aload_n rfl rfl ?_
    refine ks_aload_n rfl rfl ?_
    refine ks_geti rfl rfl (by assumption) rfl (by (try simp only [kx_up_at, kx_row_at, up1_at, Nat.reduceEqDiff, Int.reduceEq, Int.reduceNeg, and_true, true_and, and_false, false_and, and_self, reduceIte, Nat.add_left_cancel_iff, Nat.add_eq_left, Nat.left_eq_add, Nat.reduceAdd, Int.add_left_inj, Int.add_right_inj, hba, f8, f9, f10, f11, f12, f13]); rfl) ?_
    refine ks_puti rfl (by assumption) ?_
    refine ks_aload_n rfl rfl ?_
    refine ks_aload_n rfl rfl ?_
    refine ks_geti rfl rfl (by assumption) rfl (by (try simp only [kx_up_at, kx_row_at, up1_at, Nat.reduceEqDiff, Int.reduceEq, Int.reduceNeg, and_true, true_and, and_false, false_and, and_self, reduceIte, Nat.add_left_cancel_iff, Nat.add_eq_left, Nat.left_eq_add, Nat.reduceAdd, Int.add_left_inj, Int.add_right_inj, hba, f8, f9, f10, f11, f12, f13]); rfl) ?_
    refine ks_puti rfl (by assumption) ?_
    refine ks_aload_n rfl rfl ?_
    refine ks_aload_n rfl rfl ?_
    refine ks_geti rfl rfl (by assumption) rfl (by (try simp only [kx_up_at, kx_row_at, up1_at, Nat.reduceEqDiff, Int.reduceEq, Int.reduceNeg, and_true, true_and, and_false, false_and, and_self, reduceIte, Nat.add_left_cancel_iff, Nat.add_eq_left, Nat.left_eq_add, Nat.reduceAdd, Int.add_left_inj, Int.add_right_inj, hba, f8, f9, f10, f11, f12, f13]); rfl) ?_
    refine ks_puti rfl (by assumption) ?_
    refine ks_aload_n rfl rfl ?_
    refine ks_aload_n rfl rfl ?_
    refine ks_geti rfl rfl (by assumption) rfl (by (try simp only [kx_up_at, kx_row_at, up1_at, Nat.reduceEqDiff, Int.reduceEq, Int.reduceNeg, and_true, true_and, and_false, false_and, and_self, reduceIte, Nat.add_left_cancel_iff, Nat.add_eq_left, Nat.left_eq_add, Nat.reduceAdd, Int.add_left_inj, Int.add_right_inj, hba, f8, f9, f10, f11, f12, f13]); rfl) ?_
    refine ks_puti rfl (by assumption) ?_
    refine ks_return rfl ?_
    -- at 164: ret  st []
    clear f8 f9 f10 f11 f12 f13 g0 g1 g2 g3 g4 g5 g6 g7 g8 g9 g10 g11 g12 g13 g14 g15 g16 k0 k1 k2 k3 k4 k5 k6 k7 k8 k9 k10 k11 k12 k13 k14 k15 k16
    refine t _ ?_ ?_
    · refine ⟨?_, ?_, ?_, ?_, ?_, ?_, fun i i0 i1 => ?_, fun k k0 k1 => ?_⟩
      · simp (disch := omega) only [kx_up_self, kx_up_oth]
      · simp (disch := omega) only [kx_up_self, kx_up_oth]
      · simp (disch := omega) only [kx_up_self, kx_up_oth]
      · simp (disch := omega) only [kx_up_self, kx_up_oth]
      · simp (disch := omega) only [kx_up_self, kx_up_oth]
      · simp (disch := omega) only [kx_up_self, kx_up_oth]
      · obtain ⟨c1, c2, c3, c4⟩ := m1 i i0 (by omega)
        simp (disch := omega) only [kx_up_row]
        rw [c1, c2, c3, c4]; exact eh i i0 i1
      · obtain ⟨c1, c2, c3, c4⟩ := m2 k k0 (by omega)
        simp (disch := omega) only [kx_up_row]
        rw [c1, c2, c3, c4]; exact eo k k0 k1
    · exact Fr_up (Fr_up (Fr_up (Fr_up (Fr_up (Fr_up m3 (by omega)) (by omega)) (by omega)) (by omega)) (by omega)) (by omega)
  refine ks_aload_n rfl rfl ?_
  refine ks_getr (b := b + 1) rfl rfl (by assumption) (by assumption) (Nat.succ_ne_zero _) ?_
  refine ks_iconst rfl ?_
  refine ks_aload_n rfl rfl ?_
  refine ks_getr (b := a + 1) rfl rfl (by assumption) (by assumption) (Nat.succ_ne_zero _) ?_
  refine ks_iconst rfl ?_
  refine ks_bipush rfl ?_
  refine ks_acopy rfl (Nat.le_refl 91) (by assumption) (by assumption) (by omega) (by omega) (by omega) (by omega) (by omega) (Nat.le_of_ble_eq_true rfl) ?_
  refine ks_aload_n rfl rfl ?_
  refine ks_getr (b := b + 2) rfl rfl (by assumption) (by assumption) (Nat.succ_ne_zero _) ?_
  refine ks_iconst rfl ?_
  refine ks_aload_n rfl rfl ?_
  refine ks_getr (b := a + 2) rfl rfl (by assumption) (by assumption) (Nat.succ_ne_zero _) ?_
  refine ks_iconst rfl ?_
  refine ks_bipush rfl ?_
  refine ks_acopy rfl (Nat.le_refl 91) (by assumption) (by assumption) (by omega) (by omega) (by omega) (by omega) (by omega) (Nat.le_of_ble_eq_true rfl) ?_
  refine ks_aload_n rfl rfl ?_
  refine ks_getr (b := b + 3) rfl rfl (by assumption) (by assumption) (Nat.succ_ne_zero _) ?_
  refine ks_iconst rfl ?_
  refine ks_aload_n rfl rfl ?_
  refine ks_getr (b := a + 3) rfl rfl (by assumption) (by assumption) (Nat.succ_ne_zero _) ?_
  refine ks_iconst rfl ?_
  refine ks_bipush rfl ?_
  refine ks_acopy rfl (Nat.le_refl 91) (by assumption) (by assumption) (by omega) (by omega) (by omega) (by omega) (by omega) (Nat.le_of_ble_eq_true rfl) ?_
  refine ks_aload_n rfl rfl ?_
  refine ks_getr (b := b + 4) rfl rfl (by assumption) (by assumption) (Nat.succ_ne_zero _) ?_
  refine ks_iconst rfl ?_
  refine ks_aload_n rfl rfl ?_
  refine ks_getr (b := a + 4) rfl rfl (by assumption) (by assumption) (Nat.succ_ne_zero _) ?_
  refine ks_iconst rfl ?_
  refine ks_bipush rfl ?_
  refine ks_acopy rfl (Nat.le_refl 91) (by assumption) (by assumption) (by omega) (by omega) (by omega) (by omega) (by omega) (Nat.le_of_ble_eq_true rfl) ?_
  refine ks_aload_n rfl rfl ?_
  refine ks_getr (b := b + 5) rfl rfl (by assumption) (by assumption) (Nat.succ_ne_zero _) ?_
  refine ks_iconst rfl ?_
  refine ks_aload_n rfl rfl ?_
  refine ks_getr (b := a + 5) rfl rfl (by assumption) (by assumption) (Nat.succ_ne_zero _) ?_
  refine ks_iconst rfl ?_
  refine ks_iconst rfl ?_
  refine ks_acopy rfl (Nat.le_refl 91) (by assumption) (by assumption) (by omega) (by omega) (by omega) (by omega) (by omega) (Nat.le_of_ble_eq_true rfl) ?_
  refine ks_aload_n rfl rfl ?_
  refine ks_getr (b := b + 6) rfl rfl (by assumption) (by assumption) (Nat.succ_ne_zero _) ?_
  refine ks_iconst rfl ?_
  refine ks_aload_n rfl rfl ?_
  refine ks_getr (b := a + 6) rfl rfl (by assumption) (by assumption) (Nat.succ_ne_zero _) ?_
  refine ks_iconst rfl ?_
  refine ks_iconst rfl ?_
  refine ks_acopy rfl (Nat.le_refl 91) (by assumption) (by assumption) (by omega) (by omega) (by omega) (by omega) (by omega) (Nat.le_of_ble_eq_true rfl) ?_
  refine ks_aload_n rfl rfl ?_
  refine ks_getr (b := b + 7) rfl rfl (by assumption) (by assumption) (Nat.succ_ne_zero _) ?_
  refine ks_iconst rfl ?_
  refine ks_aload_n rfl rfl ?_
  refine ks_getr (b := a + 7) rfl rfl (by assumption) (by assumption) (Nat.succ_ne_zero _) ?_
  refine ks_iconst rfl ?_
  refine ks_iconst rfl ?_
  refine ks_acopy rfl (Nat.le_refl 91) (by assumption) (by assumption) (by omega) (by omega) (by omega) (by omega) (by omega) (Nat.le_of_ble_eq_true rfl) ?_
  refine ks_aload_n rfl rfl ?_
  refine ks_getr (b := b + 8) rfl rfl (by assumption) (by assumption) (Nat.succ_ne_zero _) ?_
  refine ks_iconst rfl ?_
  refine ks_aload_n rfl rfl ?_
  refine ks_getr (b := a + 8) rfl rfl (by assumption) (by assumption) (Nat.succ_ne_zero _) ?_
  refine ks_iconst rfl ?_
  refine ks_iconst rfl ?_
  refine ks_acopy rfl (Nat.le_refl 91) (by assumption) (by assumption) (by omega) (by omega) (by omega) (by omega) (by omega) (Nat.le_of_ble_eq_true rfl) ?_
  -- at 116: stop  st []
  clear g0 g1 g2 g3 g4 g5 g6 g7 g8 g9 g10 g11 g12 g13 g14 g15 g16 k0 k1 k2 k3 k4 k5 k6 k7 k8 k9 k10 k11 k12 k13 k14 k15 k16
  refine fin _ ?_ ?_ ?_ ?_
  · simp (disch := omega) only [kx_cpy_ne]
  · intro i i0 i1
    simp (disch := omega) only [kx_cpy_ne, kx_cpy_in]
    simp
  · intro k k0 k1
    simp (disch := omega) only [kx_cpy_ne, kx_cpy_in]
    simp
  · intro c hc
    simp (disch := omega) only [kx_cpy_ne]
theorem r_clear (hA : kg_T L a) (t : ∀ μ', μ' a 8 = 0 → TRx μ' a (fun _ => 0) 0 → Fr a μ μ' → Q none (kg L) μ') : kx_cx (ke (d + 1)) 53 [kR a] (kg L) μ Q := by
  refine ke_start (tb := kt_Town_clear) (ls := [some (kR a)]) rfl rfl ?_
  obtain ⟨g0, g1, g2, g3, g4, g5, g6, g7, g8, g9, g10, g11, g12, g13, g14, g15, g16⟩ := hA
  refine ks_aload_n rfl rfl ?_
  refine ks_iconst rfl ?_
  refine ks_puti rfl (by assumption) ?_
  refine ks_aload_n rfl rfl ?_
  refine ks_iconst rfl ?_
  refine ks_puti rfl (by assumption) ?_
  refine ks_aload_n rfl rfl ?_
  refine ks_iconst rfl ?_
  refine ks_puti rfl (by assumption) ?_
  refine ks_aload_n rfl rfl ?_
  refine ks_iconst rfl ?_
  refine ks_puti rfl (by assumption) ?_
  refine ks_aload_n rfl rfl ?_
  refine ks_iconst rfl ?_
  refine ks_puti rfl (by assumption) ?_
  refine ks_aload_n rfl rfl ?_
  refine ks_iconst rfl ?_
  refine ks_puti rfl (by assumption) ?_
  refine ks_return rfl ?_
  -- at 30: ret  st []
  refine t _ ?_ ?_ ?_
  · simp (disch := omega) only [kx_up_self, kx_up_oth]
  · refine ⟨?_, ?_, ?_, ?_, ?_, ?_, fun i i0 i1 => absurd (show i < 0 from i1) (by omega), fun k k0 k1 => absurd (show k < 0 from k1) (by omega)⟩ <;> simp (disch := omega) only [kx_up_self, kx_up_oth]
  · intro c hc
    simp (disch := omega) only [kx_up_row]
theorem r_addHead {k p l : Int} (hA : kg_T L a) (hT : TRx μ a s z) (h1 : 0 ≤ s 1 ∧ s 1 < 6) (h2 : s 2 = 0) (t : ∀ μ', TRx μ' a (up1 (up1 (up1 (up1 (up1 s (6 + s 1) k) (12 + s 1) p) (18 + s 1) l) (24 + s 1) 0) 1 (s 1 + 1)) z → Fr a μ μ' → Q none (kg L) μ') : kx_cx (ke (d + 1)) 55 [kR a, kI k, kI p, kI l] (kg L) μ Q := by
  refine ke_start (tb := kt_Town_addHead) (ls := [some (kR a), some (kI k), some (kI p), some (kI l)]) rfl rfl ?_
  obtain ⟨g0, g1, g2, g3, g4, g5, g6, g7, g8, g9, g10, g11, g12, g13, g14, g15, g16⟩ := hA
  obtain ⟨e8, e9, e10, e11, e12, e13, eh, eo⟩ := hT
  refine ks_aload_n rfl rfl ?_
  refine ks_getr (b := a + 1) rfl rfl (by assumption) (by assumption) (Nat.succ_ne_zero _) ?_
  refine ks_aload_n rfl rfl ?_
  refine ks_geti rfl rfl (by assumption) rfl (by (try simp only [kx_up_at, kx_row_at, up1_at, Nat.reduceEqDiff, Int.reduceEq, Int.reduceNeg, and_true, true_and, and_false, false_and, and_self, reduceIte, Nat.add_left_cancel_iff, Nat.add_eq_left, Nat.left_eq_add, Nat.reduceAdd, Int.add_left_inj, Int.add_right_inj, e8]); rfl) ?_
  refine ks_iload_n rfl rfl ?_
  refine ks_iastore rfl (by assumption) (by omega) (by omega) ?_
  refine ks_aload_n rfl rfl ?_
  refine ks_getr (b := a + 2) rfl rfl (by assumption) (by assumption) (Nat.succ_ne_zero _) ?_
  refine ks_aload_n rfl rfl ?_
  refine ks_geti rfl rfl (by assumption) rfl (by (try simp only [kx_up_at, kx_row_at, up1_at, Nat.reduceEqDiff, Int.reduceEq, Int.reduceNeg, and_true, true_and, and_false, false_and, and_self, reduceIte, Nat.add_left_cancel_iff, Nat.add_eq_left, Nat.left_eq_add, Nat.reduceAdd, Int.add_left_inj, Int.add_right_inj, e8]); rfl) ?_
  refine ks_iload_n rfl rfl ?_
  refine ks_iastore rfl (by assumption) (by omega) (by omega) ?_
  refine ks_aload_n rfl rfl ?_
  refine ks_getr (b := a + 3) rfl rfl (by assumption) (by assumption) (Nat.succ_ne_zero _) ?_
  refine ks_aload_n rfl rfl ?_
  refine ks_geti rfl rfl (by assumption) rfl (by (try simp only [kx_up_at, kx_row_at, up1_at, Nat.reduceEqDiff, Int.reduceEq, Int.reduceNeg, and_true, true_and, and_false, false_and, and_self, reduceIte, Nat.add_left_cancel_iff, Nat.add_eq_left, Nat.left_eq_add, Nat.reduceAdd, Int.add_left_inj, Int.add_right_inj, e8]); rfl) ?_
  refine ks_iload_n rfl rfl ?_
  refine ks_iastore rfl (by assumption) (by omega) (by omega) ?_
  refine ks_aload_n rfl rfl ?_
  refine ks_getr (b := a + 4) rfl rfl (by assumption) (by assumption) (Nat.succ_ne_zero _) ?_
  refine ks_aload_n rfl rfl ?_
  refine ks_geti rfl rfl (by assumption) rfl (by (try simp only [kx_up_at, kx_row_at, up1_at, Nat.reduceEqDiff, Int.reduceEq, Int.reduceNeg, and_true, true_and, and_false, false_and, and_self, reduceIte, Nat.add_left_cancel_iff, Nat.add_eq_left, Nat.left_eq_add, Nat.reduceAdd, Int.add_left_inj, Int.add_right_inj, e8]); rfl) ?_
  refine ks_iconst rfl ?_
  refine ks_iastore rfl (by assumption) (by omega) (by omega) ?_
  refine ks_aload_n rfl rfl ?_
  refine ks_dupR rfl ?_
  refine ks_geti rfl rfl (by assumption) rfl (by (try simp only [kx_up_at, kx_row_at, up1_at, Nat.reduceEqDiff, Int.reduceEq, Int.reduceNeg, and_true, true_and, and_false, false_and, and_self, reduceIte, Nat.add_left_cancel_iff, Nat.add_eq_left, Nat.left_eq_add, Nat.reduceAdd, Int.add_left_inj, Int.add_right_inj, e8]); rfl) ?_
  refine ks_iconst rfl ?_
  refine ks_iadd rfl ?_
  refine ks_puti rfl (by assumption) ?_
  refine ks_return rfl ?_
  -- at 50: ret  st []
  refine t _ ?_ ?_
  · refine ⟨?_, ?_, ?_, ?_, ?_, ?_, fun i i0 i1 => ?_, fun k k0 k1 => ?_⟩
    · simp (disch := omega) only [kx_up_row, kx_up_self, kx_up_oth, up1_ne, up1_at, if_true]
    · simp (disch := omega) only [kx_up_row, kx_up_self, kx_up_oth, up1_ne]; exact e9
    · simp (disch := omega) only [kx_up_row, kx_up_self, kx_up_oth, up1_ne]; exact e10
    · simp (disch := omega) only [kx_up_row, kx_up_self, kx_up_oth, up1_ne]; exact e11
    · simp (disch := omega) only [kx_up_row, kx_up_self, kx_up_oth, up1_ne]; exact e12
    · simp (disch := omega) only [kx_up_row, kx_up_self, kx_up_oth, up1_ne]; exact e13
    · rw [up1_at, if_pos rfl] at i1
      by_cases e : i = s 1
      · subst e
        simp (disch := omega) only [kx_up_row, kx_up_self, up1_ne, up1_self]
        simp
      · have := eh i i0 (by omega)
        simp (disch := omega) only [kx_up_row, kx_up_oth, up1_ne]
        exact this
    · simp (disch := omega) only [up1_ne] at k1
      omega
  · intro c hc
    simp (disch := omega) only [kx_up_row]
theorem r_addOrder {x : Int} (hA : kg_T L a) (hT : TRx μ a s z) (h1 : s 1 ≤ 6) (h2 : 0 ≤ s 2 ∧ s 2 < 4) (t : ∀ μ', TRx μ' a (up1 (up1 (up1 (up1 s (30 + s 2) x) (34 + s 2) x) (38 + s 2) 0) 2 (s 2 + 1)) z → Fr a μ μ' → Q (some (kI (s 2))) (kg L) μ') : kx_cx (ke (d + 1)) 56 [kR a, kI x] (kg L) μ Q := by
  refine ke_start (tb := kt_Town_addOrder) (ls := [some (kR a), some (kI x), none]) rfl rfl ?_
  obtain ⟨g0, g1, g2, g3, g4, g5, g6, g7, g8, g9, g10, g11, g12, g13, g14, g15, g16⟩ := hA
  obtain ⟨e8, e9, e10, e11, e12, e13, eh, eo⟩ := hT
  refine ks_aload_n rfl rfl ?_
  refine ks_geti rfl rfl (by assumption) rfl (by (try simp only [kx_up_at, kx_row_at, up1_at, Nat.reduceEqDiff, Int.reduceEq, Int.reduceNeg, and_true, true_and, and_false, false_and, and_self, reduceIte, Nat.add_left_cancel_iff, Nat.add_eq_left, Nat.left_eq_add, Nat.reduceAdd, Int.add_left_inj, Int.add_right_inj, e9]); rfl) ?_
  refine ks_istore_n_2 rfl rfl ?_
  refine ks_aload_n rfl rfl ?_
  refine ks_getr (b := a + 5) rfl rfl (by assumption) (by assumption) (Nat.succ_ne_zero _) ?_
  refine ks_iload_n rfl rfl ?_
  refine ks_iload_n rfl rfl ?_
  refine ks_iastore rfl (by assumption) (by omega) (by omega) ?_
  refine ks_aload_n rfl rfl ?_
  refine ks_getr (b := a + 6) rfl rfl (by assumption) (by assumption) (Nat.succ_ne_zero _) ?_
  refine ks_iload_n rfl rfl ?_
  refine ks_iload_n rfl rfl ?_
  refine ks_iastore rfl (by assumption) (by omega) (by omega) ?_
  refine ks_aload_n rfl rfl ?_
  refine ks_getr (b := a + 7) rfl rfl (by assumption) (by assumption) (Nat.succ_ne_zero _) ?_
  refine ks_iload_n rfl rfl ?_
  refine ks_iconst rfl ?_
  refine ks_iastore rfl (by assumption) (by omega) (by omega) ?_
  refine ks_aload_n rfl rfl ?_
  refine ks_getr (b := a + 8) rfl rfl (by assumption) (by assumption) (Nat.succ_ne_zero _) ?_
  refine ks_iload_n rfl rfl ?_
  refine ks_ldc rfl ?_
  refine ks_iastore rfl (by assumption) (by omega) (by omega) ?_
  refine ks_aload_n rfl rfl ?_
  refine ks_dupR rfl ?_
  refine ks_geti rfl rfl (by assumption) rfl (by (try simp only [kx_up_at, kx_row_at, up1_at, Nat.reduceEqDiff, Int.reduceEq, Int.reduceNeg, and_true, true_and, and_false, false_and, and_self, reduceIte, Nat.add_left_cancel_iff, Nat.add_eq_left, Nat.left_eq_add, Nat.reduceAdd, Int.add_left_inj, Int.add_right_inj, e9]); rfl) ?_
  refine ks_iconst rfl ?_
  refine ks_iadd rfl ?_
  refine ks_puti rfl (by assumption) ?_
  refine ks_iload_n rfl rfl ?_
  refine ks_ireturn rfl ?_
  -- at 45: ret  st [None]
  refine t _ ?_ ?_
  · refine ⟨?_, ?_, ?_, ?_, ?_, ?_, fun i i0 i1 => ?_, fun k k0 k1 => ?_⟩
    · simp (disch := omega) only [kx_up_row, kx_up_self, kx_up_oth, up1_ne]; exact e8
    · simp (disch := omega) only [kx_up_row, kx_up_self, kx_up_oth, up1_ne, up1_at, if_true]
    · simp (disch := omega) only [kx_up_row, kx_up_self, kx_up_oth, up1_ne]; exact e10
    · simp (disch := omega) only [kx_up_row, kx_up_self, kx_up_oth, up1_ne]; exact e11
    · simp (disch := omega) only [kx_up_row, kx_up_self, kx_up_oth, up1_ne]; exact e12
    · simp (disch := omega) only [kx_up_row, kx_up_self, kx_up_oth, up1_ne]; exact e13
    · simp (disch := omega) only [up1_ne] at i1
      have := eh i i0 (by omega)
      simp (disch := omega) only [kx_up_row, kx_up_oth, up1_ne]
      exact this
    · rw [up1_at, if_pos rfl] at k1
      by_cases e : k = s 2
      · subst e
        simp (disch := omega) only [kx_up_row, kx_up_self, up1_ne, up1_self]
        simp
      · have := eo k k0 (by omega)
        rw [up1_ne (i := 2) (j := 38 + k) (by omega), up1_ne (i := 38 + s 2) (j := 38 + k) (by omega), up1_ne (i := 34 + s 2) (j := 38 + k) (by omega), up1_ne (i := 30 + s 2) (j := 38 + k) (by omega)]
        simp (disch := omega) only [kx_up_row, kx_up_oth, up1_ne]
        exact this
  · intro c hc
    simp (disch := omega) only [kx_up_row]
end CW
end
section
/-! a step taken back -/
theorem tw_goes_at {s : Int → Int} {h j : Int} (n : j ≠ 4 ∧ j ≠ 5) : tw_goes s h j = s j := by
  unfold tw_goes
  generalize (if s (6 + h) = 3 then tw_out s else 0) = x
  split
  · rfl
  · rw [up1_ne n.2, up1_ne n.1]
theorem tw_step_at {s : Int → Int} {j : Int} (h : j ≠ 3 ∧ j ≠ 4 ∧ j ≠ 5) : tw_step s j = tw_work s (s 4) (tw_found s (s 4)) j := by
  unfold tw_step
  rw [tw_goes_at h.2]; exact tw_tick_at ⟨h.2.2, h.1⟩
theorem tw_step_3 {B : Int} {s : Int → Int} (hw : tw_W B s) : tw_step s 3 = s 3 + 1 := by
  have hfi := tw_found_in s (s 4)
  have w2 := hw.2.1
  have w1 := hw.1
  have w3 := hw.2.2.1
  have e : tw_tick (tw_work s (s 4) (tw_found s (s 4))) 3 = s 3 + 1 := by
    rw [← tw_work_lo (s := s) (h := s 4) (f := tw_found s (s 4)) (j := 3) (by omega) (by omega) (by omega)]; rfl
  unfold tw_step
  rw [tw_goes_at (by omega)]; exact e
section CX
variable {d L : Nat} {G : kx_G} {μ : kx_M} {Q : Option kx_V → kx_G → kx_M → Prop} {a b : Nat} {s : Int → Int} {B z : Int}
theorem r_revertStep (hB : B ≤ 100000) (hK : kg_T L a) (hT : TR μ a (tw_step s)) (hw : tw_W B s) (t : ∀ μ', TR μ' a s → Fr a μ μ' → Q none (kg L) μ') : kx_cx (ke (d + 1)) 62 [kR a, kI (s 4), kI (s 5), kI (tw_found s (s 4))] (kg L) μ Q := by
  refine ke_start (tb := kt_Town_revertStep) (ls := [some (kR a), some (kI (s 4)), some (kI (s 5)), some (kI (tw_found s (s 4)))]) rfl rfl ?_
  have hs3 := tw_step_3 hw
  obtain ⟨g0, g1, g2, g3, g4, g5, g6, g7, g8, g9, g10, g11, g12, g13, g14, g15, g16⟩ := hK
  obtain ⟨e8, e9, e10, e11, e12, e13, eh, eo⟩ := hT
  obtain ⟨w1, w2, w3, w4, w5, w6, w7, w8⟩ := hw
  have hfi := tw_found_in s (s 4)
  have lo : ∀ j : Int, j < 24 ∨ 30 ≤ j ∧ j < 34 → j ≠ 3 ∧ j ≠ 4 ∧ j ≠ 5 → tw_step s j = s j := fun j hj hn => by rw [tw_step_at hn, tw_work_lo (by omega) (by omega) hj]
  rw [hs3] at e13
  rw [lo 1 (by omega) (by omega)] at e8 eh
  rw [lo 2 (by omega) (by omega)] at e9 eo
  rw [lo 0 (by omega) (by omega)] at e10
  have q7 := w7 (s 4) w3.1 w3.2
  have e3 : s 3 + 1 - 1 = s 3 := by omega
  refine ks_aload_n rfl rfl ?_
  refine ks_dupR rfl ?_
  refine ks_geti rfl rfl (by assumption) rfl (by (try simp only [kx_up_at, kx_row_at, up1_at, Nat.reduceEqDiff, Int.reduceEq, Int.reduceNeg, and_true, true_and, and_false, false_and, and_self, reduceIte, Nat.add_left_cancel_iff, Nat.add_eq_left, Nat.left_eq_add, Nat.reduceAdd, Int.add_left_inj, Int.add_right_inj, e13, e3]); rfl) ?_
  refine ks_iconst rfl ?_
  refine ks_isub rfl ?_
  refine ks_puti rfl (by assumption) ?_
  refine ks_aload_n rfl rfl ?_
  refine ks_iload_n rfl rfl ?_
  refine ks_puti rfl (by assumption) ?_
  refine ks_aload_n rfl rfl ?_
  refine ks_iload_n rfl rfl ?_
  refine ks_puti rfl (by assumption) ?_
  refine ks_iload_n rfl rfl ?_
  refine ks_iconst rfl ?_
  -- at 22: if eq -> 60 else 25 st ['-1', None]
  refine ks_icmp_eq rfl ⟨by omega, by omega⟩ ⟨by omega, by omega⟩ (fun c1 => ?_) (fun c1 => ?_)
  · refine ks_return rfl ?_
    -- at 60: ret  st []
    clear g0 g1 g2 g3 g4 g5 g6 g7 g8 g9 g10 g11 g12 g13 g14 g15 g16
    have all : ∀ j : Int, j ≠ 3 ∧ j ≠ 4 ∧ j ≠ 5 → tw_step s j = s j := fun j hn => by
      rw [tw_step_at hn]; unfold tw_work; rw [if_pos (by omega)]
    refine t _ ?_ ?_
    · refine ⟨?_, ?_, ?_, ?_, ?_, ?_, fun i i0 i1 => ?_, fun k k0 k1 => ?_⟩
      · simp (disch := omega) only [kx_up_self, kx_up_oth]; exact e8
      · simp (disch := omega) only [kx_up_self, kx_up_oth]; exact e9
      · simp (disch := omega) only [kx_up_self, kx_up_oth]; exact e10
      · simp (disch := omega) only [kx_up_self, kx_up_oth]
      · simp (disch := omega) only [kx_up_self, kx_up_oth]
      · simp (disch := omega) only [kx_up_self, kx_up_oth]; try omega
      · have := eh i i0 i1
        rw [all (6 + i) (by omega), all (12 + i) (by omega), all (18 + i) (by omega), all (24 + i) (by omega)] at this
        simp (disch := omega) only [kx_up_row]; exact this
      · have := eo k k0 k1
        rw [all (30 + k) (by omega), all (34 + k) (by omega), all (38 + k) (by omega), all (42 + k) (by omega)] at this
        simp (disch := omega) only [kx_up_row]; exact this
    · exact Fr_up (Fr_up (Fr_up (Fr_rf a μ) (by omega)) (by omega)) (by omega)
  · obtain ⟨f0, f1, f2⟩ := hfi.resolve_left c1
    have f3 := f2.1
    have hat : ∀ j : Int, j ≠ 3 ∧ j ≠ 4 ∧ j ≠ 5 → tw_step s j = tw_work s (s 4) (tw_found s (s 4)) j := fun j hn => tw_step_at hn
    generalize tw_found s (s 4) = f at *
    have f4 := w8 f f0 f1
    have nf : ¬ f < 0 := by omega
    have l1 : tw_step s (34 + f) = s (34 + f) - 1 := by
      rw [hat _ (by omega)]; unfold tw_work; rw [if_neg nf]
      split
      · simp (disch := omega) only [up1_self, up1_ne]
      · simp (disch := omega) only [up1_self, up1_ne]
    have l2 : tw_step s (24 + s 4) = s (24 + s 4) + 1 := by
      rw [hat _ (by omega)]; unfold tw_work; rw [if_neg nf]
      split
      · simp (disch := omega) only [up1_self, up1_ne]
      · simp (disch := omega) only [up1_self, up1_ne]
    have l3 : ∀ i : Int, 0 ≤ i → i < 6 → i ≠ s 4 → tw_step s (24 + i) = s (24 + i) := by
      intro i i0 i1 i2
      rw [hat _ (by omega)]; unfold tw_work; rw [if_neg nf]
      split
      · simp (disch := omega) only [up1_ne]
      · simp (disch := omega) only [up1_ne]
    have l4 : ∀ k : Int, 0 ≤ k → k < 4 → k ≠ f → tw_step s (34 + k) = s (34 + k) ∧ tw_step s (38 + k) = s (38 + k) ∧ tw_step s (42 + k) = s (42 + k) := by
      intro k k0 k1 k2
      rw [hat _ (by omega), hat _ (by omega), hat _ (by omega)]; unfold tw_work; rw [if_neg nf]
      split
      · simp (disch := omega) only [up1_ne]
        simp
      · simp (disch := omega) only [up1_ne]
        simp
    have b1 : μ (a + 6) f = s (34 + f) - 1 := by rw [(eo f f0 f1).2.1, l1]
    have b2 : μ (a + 4) (s 4) = s (24 + s 4) + 1 := by rw [(eh (s 4) w3.1 w3.2).2.2.2, l2]
    have e34 : s (34 + f) - 1 + 1 = s (34 + f) := by omega
    have e24 : s (24 + s 4) + 1 - 1 = s (24 + s 4) := by omega
    refine ks_aload_n rfl rfl ?_
    refine ks_getr (b := a + 6) rfl rfl (by assumption) (by assumption) (Nat.succ_ne_zero _) ?_
    refine ks_iload_n rfl rfl ?_
    refine ks_dup2 rfl ?_
    refine ks_iaload rfl (by assumption) (by omega) (by omega) (by (try simp only [kx_up_at, kx_row_at, up1_at, Nat.reduceEqDiff, Int.reduceEq, Int.reduceNeg, and_true, true_and, and_false, false_and, and_self, reduceIte, Nat.add_left_cancel_iff, Nat.add_eq_left, Nat.left_eq_add, Nat.reduceAdd, Int.add_left_inj, Int.add_right_inj, b1, b2, e34, e24]); rfl) ?_
    refine ks_iconst rfl ?_
    refine ks_iadd rfl ?_
    refine ks_iastore rfl (by assumption) (by omega) (by omega) ?_
    refine ks_aload_n rfl rfl ?_
    refine ks_getr (b := a + 7) rfl rfl (by assumption) (by assumption) (Nat.succ_ne_zero _) ?_
    refine ks_iload_n rfl rfl ?_
    refine ks_iconst rfl ?_
    refine ks_iastore rfl (by assumption) (by omega) (by omega) ?_
    refine ks_aload_n rfl rfl ?_
    refine ks_getr (b := a + 8) rfl rfl (by assumption) (by assumption) (Nat.succ_ne_zero _) ?_
    refine ks_iload_n rfl rfl ?_
    refine ks_ldc rfl ?_
    refine ks_iastore rfl (by assumption) (by omega) (by omega) ?_
    refine ks_aload_n rfl rfl ?_
    refine ks_getr (b := a + 4) rfl rfl (by assumption) (by assumption) (Nat.succ_ne_zero _) ?_
    refine ks_iload_n rfl rfl ?_
    refine ks_dup2 rfl ?_
    refine ks_iaload rfl (by assumption) (by omega) (by omega) (by (try simp only [kx_up_at, kx_row_at, up1_at, Nat.reduceEqDiff, Int.reduceEq, Int.reduceNeg, and_true, true_and, and_false, false_and, and_self, reduceIte, Nat.add_left_cancel_iff, Nat.add_eq_left, Nat.left_eq_add, Nat.reduceAdd, Int.add_left_inj, Int.add_right_inj, b1, b2, e34, e24]); rfl) ?_
    refine ks_iconst rfl ?_
    refine ks_isub rfl ?_
    refine ks_iastore rfl (by assumption) (by omega) (by omega) ?_
    refine ks_return rfl ?_
    -- at 60: ret  st []
    clear g0 g1 g2 g3 g4 g5 g6 g7 g8 g9 g10 g11 g12 g13 g14 g15 g16
    refine t _ ?_ ?_
    · refine ⟨?_, ?_, ?_, ?_, ?_, ?_, fun i i0 i1 => ?_, fun k k0 k1 => ?_⟩
      · simp (disch := omega) only [kx_up_row, kx_up_self, kx_up_oth]; exact e8
      · simp (disch := omega) only [kx_up_row, kx_up_self, kx_up_oth]; exact e9
      · simp (disch := omega) only [kx_up_row, kx_up_self, kx_up_oth]; exact e10
      · simp (disch := omega) only [kx_up_row, kx_up_self, kx_up_oth]
      · simp (disch := omega) only [kx_up_row, kx_up_self, kx_up_oth]
      · simp (disch := omega) only [kx_up_row, kx_up_self, kx_up_oth]; try omega
      · obtain ⟨c2, c3, c4, c5⟩ := eh i i0 i1
        rw [lo (6 + i) (by omega) (by omega)] at c2
        rw [lo (12 + i) (by omega) (by omega)] at c3
        rw [lo (18 + i) (by omega) (by omega)] at c4
        by_cases e : i = s 4
        · subst e
          simp (disch := omega) only [kx_up_row, kx_up_self]
          exact ⟨c2, c3, c4, by omega⟩
        · rw [l3 i i0 (by omega) e] at c5
          simp (disch := omega) only [kx_up_row, kx_up_oth]
          exact ⟨c2, c3, c4, c5⟩
      · obtain ⟨c2, c3, c4, c5⟩ := eo k k0 k1
        rw [lo (30 + k) (by omega) (by omega)] at c2
        by_cases e : k = f
        · subst e
          simp (disch := omega) only [kx_up_row, kx_up_self]
          rw [f3]
          exact ⟨c2, by omega, rfl, by rw [if_neg (by omega)]⟩
        · obtain ⟨d1, d2, d3⟩ := l4 k k0 (by omega) e
          rw [d1] at c3
          rw [d2] at c4 c5
          rw [d3] at c5
          simp (disch := omega) only [kx_up_row, kx_up_oth]
          exact ⟨c2, c3, c4, c5⟩
    · exact Fr_up (Fr_up (Fr_up (Fr_up (Fr_up (Fr_up (Fr_up (Fr_rf a μ) (by omega)) (by omega)) (by omega)) (by omega)) (by omega)) (by omega)) (by omega)
end CX
end
section
/-! rows, and small ones of the platform -/
section CR
variable {d L : Nat} {G : kx_G} {μ : kx_M} {Q : Option kx_V → kx_G → kx_M → Prop} {a : Nat}
theorem r_min {x y : Int} (hx : kx_in x) (hy : kx_in y) (t : Q (some (kI (min x y))) G μ) : kx_cx (ke (d + 1)) 193 [kI x, kI y] G μ Q := by
  refine ke_start (tb := kt_Math_min) (ls := [some (kI x), some (kI y)]) rfl rfl ?_
  refine ks_iload_n rfl rfl ?_
  refine ks_iload_n rfl rfl ?_
  -- at 2: if gt -> 9 else 5 st [None, None]
  refine ks_icmp_gt rfl hx hy (fun h => ?_) (fun h => ?_)
  · refine ks_iload_n rfl rfl ?_
    refine ks_ireturn rfl ?_
    -- at 10: ret  st [None]
    rw [show min x y = y by omega] at t
    exact t
  · refine ks_iload_n rfl rfl ?_
    refine ks_goto rfl ?_
    refine ks_ireturn rfl ?_
    -- at 10: ret  st [None]
    rw [show min x y = x by omega] at t
    exact t
theorem r_max {x y : Int} (hx : kx_in x) (hy : kx_in y) (t : Q (some (kI (max x y))) G μ) : kx_cx (ke (d + 1)) 195 [kI x, kI y] G μ Q := by
  refine ke_start (tb := kt_Math_max) (ls := [some (kI x), some (kI y)]) rfl rfl ?_
  refine ks_iload_n rfl rfl ?_
  refine ks_iload_n rfl rfl ?_
  -- at 2: if lt -> 9 else 5 st [None, None]
  refine ks_icmp_lt rfl hx hy (fun h => ?_) (fun h => ?_)
  · refine ks_iload_n rfl rfl ?_
    refine ks_ireturn rfl ?_
    -- at 10: ret  st [None]
    rw [show max x y = y by omega] at t
    exact t
  · refine ks_iload_n rfl rfl ?_
    refine ks_goto rfl ?_
    refine ks_ireturn rfl ?_
    -- at 10: ret  st [None]
    rw [show max x y = x by omega] at t
    exact t
theorem l_fill {n : Nat} {v : Int} (hn : n ≤ 2000) (hs : (kg L).1 a = (2, n)) (t : ∀ μ', (∀ i : Int, 0 ≤ i → i < n → μ' a i = v) → (∀ c, c ≠ a → μ' c = μ c) → Q none (kg L) μ') : ∀ (r j : Nat) (μ1 : kx_M), j + r = n → (∀ i : Int, 0 ≤ i → i < j → μ1 a i = v) → (∀ c, c ≠ a → μ1 c = μ c) → kx_wx (ke d) kt_Arrays_fill Q 5 [some (kR a), some (kI v), some (kI j), some (kI n)] [] (kg L) μ1 := by
  intro r
  induction r with
  | zero =>
    intro j μ1 hj h1 h2
    refine ks_iload_n rfl rfl ?_
    refine ks_iload_n rfl rfl ?_
    -- at 7: if ge -> 20 else 10 st [None, None]
    refine ks_icmp_ge rfl ⟨by omega, by omega⟩ ⟨by omega, by omega⟩ (fun h => absurd h (by omega)) (fun h => ?_)
    refine ks_return rfl ?_
    -- at 20: ret  st []
    exact t μ1 (fun i i0 i1 => h1 i i0 (by omega)) h2
  | succ r ih =>
    intro j μ1 hj h1 h2
    refine ks_iload_n rfl rfl ?_
    refine ks_iload_n rfl rfl ?_
    -- at 7: if ge -> 20 else 10 st [None, None]
    refine ks_icmp_ge rfl ⟨by omega, by omega⟩ ⟨by omega, by omega⟩ (fun h => ?_) (fun h => absurd h (by omega))
    refine ks_aload_n rfl rfl ?_
    refine ks_iload_n rfl rfl ?_
    refine ks_iload_n rfl rfl ?_
    refine ks_iastore rfl (by assumption) (by omega) (by omega) ?_
    refine ks_iinc_2 rfl rfl ?_
    refine ks_goto rfl ?_
    -- at 5: stop  st []
    refine ih (j + 1) _ (by omega) (fun i i0 i1 => ?_) (fun c hc => ?_)
    · by_cases e : i = j
      · subst e; exact kx_up_self _ _ _ _
      · rw [kx_up_oth e]; exact h1 i i0 (by omega)
    · rw [kx_up_row hc]; exact h2 c hc
theorem r_fill {n : Nat} {v : Int} (hn : n ≤ 2000) (hs : (kg L).1 a = (2, n)) (t : ∀ μ', (∀ i : Int, 0 ≤ i → i < n → μ' a i = v) → (∀ c, c ≠ a → μ' c = μ c) → Q none (kg L) μ') : kx_cx (ke (d + 1)) 194 [kR a, kI v] (kg L) μ Q := by
  refine ke_start (tb := kt_Arrays_fill) (ls := [some (kR a), some (kI v), none, none]) rfl rfl ?_
  refine ks_iconst rfl ?_
  refine ks_istore_n_2 rfl rfl ?_
  refine ks_aload_n rfl rfl ?_
  refine ks_arraylength rfl (by assumption) ?_
  refine ks_istore_n_3 rfl rfl ?_
  -- at 5: stop  st []
  exact l_fill hn hs t n 0 μ (by omega) (fun i i0 i1 => absurd i1 (by omega)) (fun _ _ => rfl)
theorem r_remove (hR : kg_R L a) (t : Q (some (kI (μ a 2))) (kg L) (kx_up μ a 2 (-1))) : kx_cx (ke (d + 1)) 33 [kR a] (kg L) μ Q := by
  refine ke_start (tb := kt_Row_remove) (ls := [some (kR a), none]) rfl rfl ?_
  obtain ⟨g0, g1, g2⟩ := hR
  refine ks_aload_n rfl rfl ?_
  refine ks_geti rfl rfl (by assumption) rfl (by (try simp only [kx_up_at, kx_row_at, up1_at, Nat.reduceEqDiff, Int.reduceEq, Int.reduceNeg, and_true, true_and, and_false, false_and, and_self, reduceIte, Nat.add_left_cancel_iff, Nat.add_eq_left, Nat.left_eq_add, Nat.reduceAdd, Int.add_left_inj, Int.add_right_inj]); rfl) ?_
  refine ks_istore_n_1 rfl rfl ?_
  refine ks_aload_n rfl rfl ?_
  refine ks_iconst rfl ?_
  refine ks_puti rfl (by assumption) ?_
  refine ks_iload_n rfl rfl ?_
  refine ks_ireturn rfl ?_
  -- at 11: ret  st [None]
  exact t
theorem r_lay {l n : Int} (hR : kg_R L a) (t : ∀ μ', μ' a 1 = l → μ' a 2 = n → (∀ i, 0 ≤ i → i < 40 → μ' (a + 1) i = 0) → (∀ c, c ≠ a → c ≠ a + 1 → μ' c = μ c) → Q none (kg L) μ') : kx_cx (ke (d + 2)) 32 [kR a, kI l, kI n] (kg L) μ Q := by
  refine ke_start (tb := kt_Row_lay) (ls := [some (kR a), some (kI l), some (kI n)]) rfl rfl ?_
  obtain ⟨g0, g1, g2⟩ := hR
  refine ks_aload_n rfl rfl ?_
  refine ks_getr (b := a + 1) rfl rfl (by assumption) (by assumption) (Nat.succ_ne_zero _) ?_
  refine ks_iconst rfl ?_
  refine ks_calls_2 rfl (Nat.le_of_ble_eq_true rfl) ?_
  -- at 5: call Arrays_fill st []
  refine r_fill (n := 40) (by omega) g2 (fun μ1 h1 h2 => ?_)
  show kx_wx _ _ _ _ _ _ _ _
  refine ks_aload_n rfl rfl ?_
  refine ks_iload_n rfl rfl ?_
  refine ks_puti rfl (by assumption) ?_
  refine ks_aload_n rfl rfl ?_
  refine ks_iload_n rfl rfl ?_
  refine ks_puti rfl (by assumption) ?_
  refine ks_return rfl ?_
  -- at 18: ret  st []
  refine t _ ?_ ?_ (fun i i0 i1 => ?_) (fun c c0 c1 => ?_)
  · simp (disch := omega) only [kx_up_self, kx_up_oth]
  · simp (disch := omega) only [kx_up_self, kx_up_oth]
  · simp (disch := omega) only [kx_up_row]; exact h1 i i0 i1
  · simp (disch := omega) only [kx_up_row]; exact h2 c c1
/-- a number cut to a lane -/
def ln_cut (l x : Int) : Int := if l = 0 then x.bmod 256 else if l = 1 then x.bmod 65536 else x
theorem ln_cut_in {l x : Int} (hx : kx_in x) : kx_in (ln_cut l x) := by
  obtain ⟨h0, h1⟩ := hx
  unfold ln_cut
  split
  · rw [Int.bmod_def]; constructor <;> split <;> omega
  · split
    · rw [Int.bmod_def]; constructor <;> split <;> omega
    · exact ⟨h0, h1⟩
theorem ln_24 (x : Int) : (x * 2 ^ (24 : Int).toNat).bmod 4294967296 / 2 ^ (24 : Int).toNat = x.bmod 256 := by
  have e : (2 : Int) ^ (24 : Int).toNat = 16777216 := by decide
  rw [e, Int.bmod_def, Int.bmod_def]
  split <;> split <;> omega
theorem ln_16 (x : Int) : (x * 2 ^ (16 : Int).toNat).bmod 4294967296 / 2 ^ (16 : Int).toNat = x.bmod 65536 := by
  have e : (2 : Int) ^ (16 : Int).toNat = 65536 := by decide
  rw [e, Int.bmod_def, Int.bmod_def]
  split <;> split <;> omega
theorem r_cutToLane {x : Int} (hR : kg_R L a) (hl : kx_in (μ a 1)) (t : Q (some (kI (ln_cut (μ a 1) x))) (kg L) μ) : kx_cx (ke (d + 1)) 36 [kR a, kI x] (kg L) μ Q := by
  refine ke_start (tb := kt_Row_cutToLane) (ls := [some (kR a), some (kI x)]) rfl rfl ?_
  obtain ⟨g0, g1, g2⟩ := hR
  unfold ln_cut at t
  refine ks_aload_n rfl rfl ?_
  refine ks_geti rfl rfl (by assumption) rfl (by (try simp only [kx_up_at, kx_row_at, up1_at, Nat.reduceEqDiff, Int.reduceEq, Int.reduceNeg, and_true, true_and, and_false, false_and, and_self, reduceIte, Nat.add_left_cancel_iff, Nat.add_eq_left, Nat.left_eq_add, Nat.reduceAdd, Int.add_left_inj, Int.add_right_inj]); rfl) ?_
  -- at 4: sw  st [None]
  refine ks_lsw rfl hl ?_
  simp only [kx_sw, Int.reduceAdd]
  refine kx_ifs (fun h => ?_) (fun h => ?_)
  · rw [if_pos h] at t
    refine ks_iload_n rfl rfl ?_
    refine ks_i2b rfl ?_
    refine ks_ireturn rfl ?_
    -- at 34: ret  st [None]
    exact t
  refine kx_ifs (fun h1 => ?_) (fun h1 => ?_)
  · rw [if_neg h, if_pos h1] at t
    refine ks_iload_n rfl rfl ?_
    refine ks_i2s rfl ?_
    refine ks_ireturn rfl ?_
    -- at 37: ret  st [None]
    exact t
  · rw [if_neg h, if_neg h1] at t
    refine ks_iload_n rfl rfl ?_
    refine ks_ireturn rfl ?_
    -- at 39: ret  st [None]
    exact t
theorem r_asLane {l x : Int} (hl : kx_in l) (hx : kx_in x) (t : Q (some (kI (ln_cut l x))) G μ) : kx_cx (ke (d + 1)) 122 [kI l, kI x] G μ Q := by
  refine ke_start (tb := kt_M_asLane) (ls := [some (kI l), some (kI x)]) rfl rfl ?_
  unfold ln_cut at t
  refine ks_iload_n rfl rfl ?_
  -- at 1: if ne -> 14 else 4 st [None]
  refine ks_if_ne rfl hl (fun h => ?_) (fun h => ?_)
  · rw [if_pos h] at t
    refine ks_iload_n rfl rfl ?_
    refine ks_bipush rfl ?_
    refine ks_ishl rfl (by omega) (by omega) ?_
    refine ks_bipush rfl ?_
    refine ks_ishr rfl (by omega) (by omega) ?_
    refine ks_goto rfl ?_
    refine ks_ireturn rfl ?_
    -- at 30: ret  st [None]
    rw [ln_24]
    exact t
  · rw [if_neg h] at t
    refine ks_iload_n rfl rfl ?_
    refine ks_iconst rfl ?_
    -- at 16: if ne -> 29 else 19 st ['1', None]
    refine ks_icmp_ne rfl hl ⟨by omega, by omega⟩ (fun h1 => ?_) (fun h1 => ?_)
    · rw [if_pos h1] at t
      refine ks_iload_n rfl rfl ?_
      refine ks_bipush rfl ?_
      refine ks_ishl rfl (by omega) (by omega) ?_
      refine ks_bipush rfl ?_
      refine ks_ishr rfl (by omega) (by omega) ?_
      refine ks_goto rfl ?_
      refine ks_ireturn rfl ?_
      -- at 30: ret  st [None]
      rw [ln_16]
      exact t
    · rw [if_neg h1] at t
      refine ks_iload_n rfl rfl ?_
      refine ks_ireturn rfl ?_
      -- at 30: ret  st [None]
      exact t
end CR
end
section
/-! rows and acts, class side -/
section CS
variable {d L : Nat} {G : kx_G} {μ : kx_M} {Q : Option kx_V → kx_G → kx_M → Prop} {a : Nat}
theorem r_put {i x : Int} (hR : kg_R L a) (hl : kx_in (μ a 1)) (h0 : 0 ≤ i) (h1 : i < 40) (t : Q (some (kI (ln_cut (μ a 1) x))) (kg L) (kx_up μ (a + 1) i (ln_cut (μ a 1) x))) : kx_cx (ke (d + 2)) 35 [kR a, kI i, kI x] (kg L) μ Q := by
  refine ke_start (tb := kt_Row_put) (ls := [some (kR a), some (kI i), some (kI x)]) rfl rfl ?_
  have hR0 := hR
  obtain ⟨g0, g1, g2⟩ := hR
  refine ks_aload_n rfl rfl ?_
  refine ks_getr (b := a + 1) rfl rfl (by assumption) (by assumption) (Nat.succ_ne_zero _) ?_
  refine ks_iload_n rfl rfl ?_
  refine ks_aload_n rfl rfl ?_
  refine ks_iload_n rfl rfl ?_
  refine ks_callv_2 rfl rfl (by assumption) (Nat.le_of_ble_eq_true rfl) ?_
  -- at 7: call Row_cutToLane st [None, 'a + 1']
  refine r_cutToLane hR0 hl ?_
  show kx_wx _ _ _ _ _ (_ :: _) _ _
  refine ks_iastore rfl (by assumption) (by omega) (by omega) ?_
  refine ks_aload_n rfl rfl ?_
  refine ks_getr (b := a + 1) rfl rfl (by assumption) (by assumption) (Nat.succ_ne_zero _) ?_
  refine ks_iload_n rfl rfl ?_
  refine ks_iaload rfl (by assumption) (by omega) (by omega) (by (try simp only [kx_up_at, kx_row_at, up1_at, Nat.reduceEqDiff, Int.reduceEq, Int.reduceNeg, and_true, true_and, and_false, false_and, and_self, reduceIte, Nat.add_left_cancel_iff, Nat.add_eq_left, Nat.left_eq_add, Nat.reduceAdd, Int.add_left_inj, Int.add_right_inj]); rfl) ?_
  refine ks_ireturn rfl ?_
  -- at 17: ret  st [None]
  exact t
theorem r_forgetAll (t : Q none (kg L) (kx_up μ 39 5 0)) : kx_cx (ke (d + 1)) 1 [kR 39] (kg L) μ Q := by
  refine ke_start (tb := kt_Acts_forgetAll) (ls := [some (kR 39)]) rfl rfl ?_
  refine ks_aload_n rfl rfl ?_
  refine ks_iconst rfl ?_
  refine ks_puti rfl rfl ?_
  refine ks_return rfl ?_
  -- at 5: ret  st []
  exact t
theorem r_keep {x y w v : Int} {p n : Int} (hp : μ 39 4 = p) (hn : μ 39 5 = n) (p0 : 0 ≤ p) (p1 : p < 24) (n0 : 0 ≤ n) (n1 : n ≤ 24) (t : Q none (kg L) (kx_up (kx_up (kx_up (kx_up (kx_up (kx_up μ 40 p x) 41 p y) 42 p w) 43 p v) 39 4 ((p + 1) % 24)) 39 5 (min (n + 1) 24))) : kx_cx (ke (d + 2)) 2 [kR 39, kI x, kI y, kI w, kI v] (kg L) μ Q := by
  refine ke_start (tb := kt_Acts_keep) (ls := [some (kR 39), some (kI x), some (kI y), some (kI w), some (kI v)]) rfl rfl ?_
  have hm : (p + 1).tmod 24 = (p + 1) % 24 := Int.tmod_eq_emod_of_nonneg (by omega)
  refine ks_aload_n rfl rfl ?_
  refine ks_getr (b := 40) rfl rfl rfl rfl (by decide) ?_
  refine ks_aload_n rfl rfl ?_
  refine ks_geti rfl rfl rfl rfl (by (try simp only [kx_up_at, kx_row_at, up1_at, Nat.reduceEqDiff, Int.reduceEq, Int.reduceNeg, and_true, true_and, and_false, false_and, and_self, reduceIte, Nat.add_left_cancel_iff, Nat.add_eq_left, Nat.left_eq_add, Nat.reduceAdd, Int.add_left_inj, Int.add_right_inj, hp, hn, hm]); rfl) ?_
  refine ks_iload_n rfl rfl ?_
  refine ks_iastore rfl rfl (by omega) (by omega) ?_
  refine ks_aload_n rfl rfl ?_
  refine ks_getr (b := 41) rfl rfl rfl rfl (by decide) ?_
  refine ks_aload_n rfl rfl ?_
  refine ks_geti rfl rfl rfl rfl (by (try simp only [kx_up_at, kx_row_at, up1_at, Nat.reduceEqDiff, Int.reduceEq, Int.reduceNeg, and_true, true_and, and_false, false_and, and_self, reduceIte, Nat.add_left_cancel_iff, Nat.add_eq_left, Nat.left_eq_add, Nat.reduceAdd, Int.add_left_inj, Int.add_right_inj, hp, hn, hm]); rfl) ?_
  refine ks_iload_n rfl rfl ?_
  refine ks_iastore rfl rfl (by omega) (by omega) ?_
  refine ks_aload_n rfl rfl ?_
  refine ks_getr (b := 42) rfl rfl rfl rfl (by decide) ?_
  refine ks_aload_n rfl rfl ?_
  refine ks_geti rfl rfl rfl rfl (by (try simp only [kx_up_at, kx_row_at, up1_at, Nat.reduceEqDiff, Int.reduceEq, Int.reduceNeg, and_true, true_and, and_false, false_and, and_self, reduceIte, Nat.add_left_cancel_iff, Nat.add_eq_left, Nat.left_eq_add, Nat.reduceAdd, Int.add_left_inj, Int.add_right_inj, hp, hn, hm]); rfl) ?_
  refine ks_iload_n rfl rfl ?_
  refine ks_iastore rfl rfl (by omega) (by omega) ?_
  refine ks_aload_n rfl rfl ?_
  refine ks_getr (b := 43) rfl rfl rfl rfl (by decide) ?_
  refine ks_aload_n rfl rfl ?_
  refine ks_geti rfl rfl rfl rfl (by (try simp only [kx_up_at, kx_row_at, up1_at, Nat.reduceEqDiff, Int.reduceEq, Int.reduceNeg, and_true, true_and, and_false, false_and, and_self, reduceIte, Nat.add_left_cancel_iff, Nat.add_eq_left, Nat.left_eq_add, Nat.reduceAdd, Int.add_left_inj, Int.add_right_inj, hp, hn, hm]); rfl) ?_
  refine ks_iload rfl rfl ?_
  refine ks_iastore rfl rfl (by omega) (by omega) ?_
  refine ks_aload_n rfl rfl ?_
  refine ks_aload_n rfl rfl ?_
  refine ks_geti rfl rfl rfl rfl (by (try simp only [kx_up_at, kx_row_at, up1_at, Nat.reduceEqDiff, Int.reduceEq, Int.reduceNeg, and_true, true_and, and_false, false_and, and_self, reduceIte, Nat.add_left_cancel_iff, Nat.add_eq_left, Nat.left_eq_add, Nat.reduceAdd, Int.add_left_inj, Int.add_right_inj, hp, hn, hm]); rfl) ?_
  refine ks_iconst rfl ?_
  refine ks_iadd rfl ?_
  refine ks_bipush rfl ?_
  refine ks_irem rfl ⟨by omega, by omega⟩ ⟨by omega, by omega⟩ (by omega) ?_
  refine ks_puti rfl rfl ?_
  refine ks_aload_n rfl rfl ?_
  refine ks_aload_n rfl rfl ?_
  refine ks_geti rfl rfl rfl rfl (by (try simp only [kx_up_at, kx_row_at, up1_at, Nat.reduceEqDiff, Int.reduceEq, Int.reduceNeg, and_true, true_and, and_false, false_and, and_self, reduceIte, Nat.add_left_cancel_iff, Nat.add_eq_left, Nat.left_eq_add, Nat.reduceAdd, Int.add_left_inj, Int.add_right_inj, hp, hn, hm]); rfl) ?_
  refine ks_iconst rfl ?_
  refine ks_iadd rfl ?_
  refine ks_bipush rfl ?_
  refine ks_calls_2 rfl (Nat.le_of_ble_eq_true rfl) ?_
  -- at 63: call Math_min st ['39']
  refine r_min ⟨by omega, by omega⟩ ⟨by omega, by omega⟩ ?_
  show kx_wx _ _ _ _ _ (_ :: _) _ _
  refine ks_puti rfl rfl ?_
  refine ks_return rfl ?_
  -- at 69: ret  st []
  rw [hm]
  exact t
end CS
end
section
/-! the reference notes its town -/
section MN
variable {d L : Nat} {G : kx_G} {μ : kx_M} {Q : Option kx_V → kx_G → kx_M → Prop} {a : Nat}
theorem l_note1 (t : ∀ μ', (∀ x : Int, 0 ≤ x → x < 1058 → μ' 85 x = μ 85 (x + 46)) → (∀ c, c ≠ 85 → μ' c = μ c) → kx_wx (ke d) kt_M_note Q 39 [some (kR 77), some (kI 1058)] [] (kg L) μ') : ∀ (r j : Nat) (μ1 : kx_M), j + r = 1058 → (∀ x : Int, 0 ≤ x → x < j → μ1 85 x = μ 85 (x + 46)) → (∀ x : Int, j ≤ x → μ1 85 x = μ 85 x) → (∀ c, c ≠ 85 → μ1 c = μ c) → kx_wx (ke d) kt_M_note Q 11 [some (kR 77), some (kI j)] [] (kg L) μ1 := by
  intro r
  induction r with
  | zero =>
    intro j μ1 hj h1 h2 h3
    rw [Nat.add_zero] at hj
    subst hj
    refine ks_iload_n rfl rfl ?_
    refine ks_sipush rfl ?_
    -- at 15: if ge -> 39 else 18 st ['1058', None]
    refine ks_icmp_ge rfl ⟨by omega, by omega⟩ ⟨by omega, by omega⟩ (fun h => absurd h (by omega)) (fun h => ?_)
    exact t μ1 h1 h3
  | succ r ih =>
    intro j μ1 hj h1 h2 h3
    refine ks_iload_n rfl rfl ?_
    refine ks_sipush rfl ?_
    -- at 15: if ge -> 39 else 18 st ['1058', None]
    refine ks_icmp_ge rfl ⟨by omega, by omega⟩ ⟨by omega, by omega⟩ (fun h => ?_) (fun h => absurd h (by omega))
    refine ks_aload_n rfl rfl ?_
    refine ks_getr (b := 85) rfl rfl rfl rfl (by decide) ?_
    refine ks_iload_n rfl rfl ?_
    refine ks_aload_n rfl rfl ?_
    refine ks_getr (b := 85) rfl rfl rfl rfl (by decide) ?_
    refine ks_iload_n rfl rfl ?_
    refine ks_bipush rfl ?_
    refine ks_iadd rfl ?_
    refine ks_iaload rfl rfl (by omega) (by omega) (by (try simp only [kx_up_at, kx_row_at, up1_at, Nat.reduceEqDiff, Int.reduceEq, Int.reduceNeg, and_true, true_and, and_false, false_and, and_self, reduceIte, Nat.add_left_cancel_iff, Nat.add_eq_left, Nat.left_eq_add, Nat.reduceAdd, Int.add_left_inj, Int.add_right_inj]); rfl) ?_
    refine ks_iastore rfl rfl (by omega) (by omega) ?_
    refine ks_iinc_1 rfl rfl ?_
    refine ks_goto rfl ?_
    -- at 11: stop  st []
    refine ih (j + 1) _ (by omega) (fun x x0 x1 => ?_) (fun x x0 => ?_) (fun c hc => ?_)
    · by_cases e : x = j
      · subst e; rw [kx_up_self, h2 _ (by omega)]
      · rw [kx_up_oth e]; exact h1 x x0 (by omega)
    · rw [kx_up_oth (by omega)]; exact h2 x (by omega)
    · rw [kx_up_row hc]; exact h3 c hc
theorem l_note2 {m : Int} (m0 : 0 ≤ m) (m1 : m < 24) (hm : μ 77 17 = m) (t : ∀ μ', (∀ k : Int, 0 ≤ k → k < 46 → μ' 85 (46 * m + k) = μ 81 k) → (∀ x : Int, x < 46 * m → μ' 85 x = μ 85 x) → μ' 77 17 = m + 1 → (∀ j, j ≠ 17 → μ' 77 j = μ 77 j) → (∀ c, c ≠ 85 → c ≠ 77 → μ' c = μ c) → Q none (kg L) μ') : ∀ (r j : Nat) (μ1 : kx_M), j + r = 46 → (∀ k : Int, 0 ≤ k → k < j → μ1 85 (46 * m + k) = μ 81 k) → (∀ x : Int, x < 46 * m → μ1 85 x = μ 85 x) → (∀ c, c ≠ 85 → μ1 c = μ c) → kx_wx (ke d) kt_M_note Q 51 [some (kR 77), some (kI j)] [] (kg L) μ1 := by
  intro r
  induction r with
  | zero =>
    intro j μ1 hj h1 h2 h3
    rw [Nat.add_zero] at hj
    subst hj
    have hm1 : μ1 77 17 = m := by rw [h3 77 (by omega)]; exact hm
    refine ks_iload_n rfl rfl ?_
    refine ks_bipush rfl ?_
    -- at 54: if ge -> 83 else 57 st ['46', None]
    refine ks_icmp_ge rfl ⟨by omega, by omega⟩ ⟨by omega, by omega⟩ (fun h => absurd h (by omega)) (fun h => ?_)
    refine ks_aload_n rfl rfl ?_
    refine ks_dupR rfl ?_
    refine ks_geti rfl rfl rfl rfl (by (try simp only [kx_up_at, kx_row_at, up1_at, Nat.reduceEqDiff, Int.reduceEq, Int.reduceNeg, and_true, true_and, and_false, false_and, and_self, reduceIte, Nat.add_left_cancel_iff, Nat.add_eq_left, Nat.left_eq_add, Nat.reduceAdd, Int.add_left_inj, Int.add_right_inj, hm1]); rfl) ?_
    refine ks_iconst rfl ?_
    refine ks_iadd rfl ?_
    refine ks_puti rfl rfl ?_
    refine ks_return rfl ?_
    -- at 93: ret  st []
    refine t _ (fun k k0 k1 => ?_) (fun x hx => ?_) ?_ (fun j hj => ?_) (fun c c0 c1 => ?_)
    · rw [kx_up_row (by omega)]; exact h1 k k0 k1
    · rw [kx_up_row (by omega)]; exact h2 x hx
    · rw [kx_up_self]
    · rw [kx_up_oth hj, h3 77 (by omega)]
    · rw [kx_up_row c1]; exact h3 c c0
  | succ r ih =>
    intro j μ1 hj h1 h2 h3
    have hm1 : μ1 77 17 = m := by rw [h3 77 (by omega)]; exact hm
    refine ks_iload_n rfl rfl ?_
    refine ks_bipush rfl ?_
    -- at 54: if ge -> 83 else 57 st ['46', None]
    refine ks_icmp_ge rfl ⟨by omega, by omega⟩ ⟨by omega, by omega⟩ (fun h => ?_) (fun h => absurd h (by omega))
    refine ks_aload_n rfl rfl ?_
    refine ks_getr (b := 85) rfl rfl rfl rfl (by decide) ?_
    refine ks_bipush rfl ?_
    refine ks_aload_n rfl rfl ?_
    refine ks_geti rfl rfl rfl rfl (by (try simp only [kx_up_at, kx_row_at, up1_at, Nat.reduceEqDiff, Int.reduceEq, Int.reduceNeg, and_true, true_and, and_false, false_and, and_self, reduceIte, Nat.add_left_cancel_iff, Nat.add_eq_left, Nat.left_eq_add, Nat.reduceAdd, Int.add_left_inj, Int.add_right_inj, hm1]); rfl) ?_
    refine ks_imul rfl ?_
    refine ks_iload_n rfl rfl ?_
    refine ks_iadd rfl ?_
    refine ks_aload_n rfl rfl ?_
    refine ks_getr (b := 81) rfl rfl rfl rfl (by decide) ?_
    refine ks_iload_n rfl rfl ?_
    refine ks_iaload rfl rfl (by omega) (by omega) (by (try simp only [kx_up_at, kx_row_at, up1_at, Nat.reduceEqDiff, Int.reduceEq, Int.reduceNeg, and_true, true_and, and_false, false_and, and_self, reduceIte, Nat.add_left_cancel_iff, Nat.add_eq_left, Nat.left_eq_add, Nat.reduceAdd, Int.add_left_inj, Int.add_right_inj, hm1]); rfl) ?_
    refine ks_iastore rfl rfl (by omega) (by omega) ?_
    refine ks_iinc_1 rfl rfl ?_
    refine ks_goto rfl ?_
    -- at 51: stop  st []
    refine ih (j + 1) _ (by omega) (fun x x0 x1 => ?_) (fun x x0 => ?_) (fun c hc => ?_)
    · by_cases e : x = j
      · subst e; rw [kx_up_self, h3 81 (by omega)]
      · rw [kx_up_oth (by omega)]; exact h1 x x0 (by omega)
    · rw [kx_up_oth (by omega)]; exact h2 x x0
    · rw [kx_up_row hc]; exact h3 c hc
/-- after a note: the newest is the town, those before are kept, the oldest of 24 is lost -/
theorem r_note {m : Int} (m0 : 0 ≤ m) (m1 : m ≤ 24) (hm : μ 77 17 = m) (t : ∀ μ' n, n = (if m = 24 then 23 else m) → (∀ k : Int, 0 ≤ k → k < 46 → μ' 85 (46 * n + k) = μ 81 k) → (∀ x : Int, 0 ≤ x → x < 46 * n → μ' 85 x = μ 85 (if m = 24 then x + 46 else x)) → μ' 77 17 = n + 1 → (∀ j, j ≠ 17 → μ' 77 j = μ 77 j) → (∀ c, c ≠ 85 → c ≠ 77 → μ' c = μ c) → Q none (kg L) μ') : kx_cx (ke (d + 1)) 142 [kR 77] (kg L) μ Q := by
  refine ke_start (tb := kt_M_note) (ls := [some (kR 77), none]) rfl rfl ?_
  refine ks_aload_n rfl rfl ?_
  refine ks_geti rfl rfl rfl rfl (by (try simp only [kx_up_at, kx_row_at, up1_at, Nat.reduceEqDiff, Int.reduceEq, Int.reduceNeg, and_true, true_and, and_false, false_and, and_self, reduceIte, Nat.add_left_cancel_iff, Nat.add_eq_left, Nat.left_eq_add, Nat.reduceAdd, Int.add_left_inj, Int.add_right_inj, hm]); rfl) ?_
  refine ks_bipush rfl ?_
  -- at 6: if ne -> 49 else 9 st ['24', None]
  refine ks_icmp_ne rfl ⟨by omega, by omega⟩ ⟨by omega, by omega⟩ (fun h => ?_) (fun h => ?_)
  · subst h
    refine ks_iconst rfl ?_
    refine ks_istore_n_1 rfl rfl ?_
    -- at 11: stop  st []
    refine l_note1 (μ := μ) (fun μ1 h1 h2 => ?_) 1058 0 μ (by omega) (fun x x0 x1 => absurd x1 (by omega)) (fun _ _ => rfl) (fun _ _ => rfl)
    have hm1 : μ1 77 17 = 24 := by rw [h2 77 (by omega)]; exact hm
    refine ks_aload_n rfl rfl ?_
    refine ks_dupR rfl ?_
    refine ks_geti rfl rfl rfl rfl (by (try simp only [kx_up_at, kx_row_at, up1_at, Nat.reduceEqDiff, Int.reduceEq, Int.reduceNeg, and_true, true_and, and_false, false_and, and_self, reduceIte, Nat.add_left_cancel_iff, Nat.add_eq_left, Nat.left_eq_add, Nat.reduceAdd, Int.add_left_inj, Int.add_right_inj, hm1]); rfl) ?_
    refine ks_iconst rfl ?_
    refine ks_isub rfl ?_
    refine ks_puti rfl rfl ?_
    refine ks_iconst rfl ?_
    refine ks_istore_n_1 rfl rfl ?_
    -- at 51: stop  st []
    refine l_note2 (μ := kx_up μ1 77 17 23) (m := 23) (by omega) (by omega) (kx_up_self _ _ _ _) (fun μ2 k1 k2 k3 k4 k5 => ?_) 46 0 _ (by omega) (fun x x0 x1 => absurd x1 (by omega)) (fun _ _ => rfl) (fun _ _ => rfl)
    refine t μ2 23 (by rw [if_pos rfl]) (fun k k0 kk => ?_) (fun x x0 x1 => ?_) k3 (fun j hj => ?_) (fun c c0 c1 => ?_)
    · rw [k1 k k0 kk, kx_up_row (by omega), h2 81 (by omega)]
    · rw [if_pos rfl, k2 x x1, kx_up_row (by omega), h1 x x0 (by omega)]
    · rw [k4 j hj, kx_up_oth hj, h2 77 (by omega)]
    · rw [k5 c c0 c1, kx_up_row c1, h2 c c0]
  · refine ks_iconst rfl ?_
    refine ks_istore_n_1 rfl rfl ?_
    -- at 51: stop  st []
    refine l_note2 (μ := μ) (m := m) m0 (by omega) hm (fun μ2 k1 k2 k3 k4 k5 => ?_) 46 0 _ (by omega) (fun x x0 x1 => absurd x1 (by omega)) (fun _ _ => rfl) (fun _ _ => rfl)
    refine t μ2 m (by rw [if_neg h]) k1 (fun x x0 x1 => ?_) k3 k4 k5
    rw [if_neg h]; exact k2 x x1
end MN
end
section
/-! the reference takes an act back -/
section MU
variable {d L : Nat} {G : kx_G} {μ : kx_M} {Q : Option kx_V → kx_G → kx_M → Prop} {a : Nat}
theorem l_Mundo {m : Int} (m0 : 0 ≤ m) (m1 : m < 24) (hm : μ 77 17 = m) (t : ∀ μ', (∀ k : Int, 0 ≤ k → k < 46 → μ' 81 k = μ 85 (46 * m + k)) → (∀ c, c ≠ 81 → μ' c = μ c) → Q (some (kI m)) (kg L) μ') : ∀ (r j : Nat) (μ1 : kx_M), j + r = 46 → (∀ k : Int, 0 ≤ k → k < j → μ1 81 k = μ 85 (46 * m + k)) → (∀ c, c ≠ 81 → μ1 c = μ c) → kx_wx (ke d) kt_M_undo Q 22 [some (kR 77), some (kI j)] [] (kg L) μ1 := by
  intro r
  induction r with
  | zero =>
    intro j μ1 hj h1 h3
    rw [Nat.add_zero] at hj
    subst hj
    have hm1 : μ1 77 17 = m := by rw [h3 77 (by omega)]; exact hm
    refine ks_iload_n rfl rfl ?_
    refine ks_bipush rfl ?_
    -- at 25: if ge -> 54 else 28 st ['46', None]
    refine ks_icmp_ge rfl ⟨by omega, by omega⟩ ⟨by omega, by omega⟩ (fun h => absurd h (by omega)) (fun h => ?_)
    refine ks_aload_n rfl rfl ?_
    refine ks_geti rfl rfl rfl rfl (by (try simp only [kx_up_at, kx_row_at, up1_at, Nat.reduceEqDiff, Int.reduceEq, Int.reduceNeg, and_true, true_and, and_false, false_and, and_self, reduceIte, Nat.add_left_cancel_iff, Nat.add_eq_left, Nat.left_eq_add, Nat.reduceAdd, Int.add_left_inj, Int.add_right_inj, hm1]); rfl) ?_
    refine ks_ireturn rfl ?_
    -- at 58: ret  st [None]
    exact t _ h1 h3
  | succ r ih =>
    intro j μ1 hj h1 h3
    have hm1 : μ1 77 17 = m := by rw [h3 77 (by omega)]; exact hm
    refine ks_iload_n rfl rfl ?_
    refine ks_bipush rfl ?_
    -- at 25: if ge -> 54 else 28 st ['46', None]
    refine ks_icmp_ge rfl ⟨by omega, by omega⟩ ⟨by omega, by omega⟩ (fun h => ?_) (fun h => absurd h (by omega))
    refine ks_aload_n rfl rfl ?_
    refine ks_getr (b := 81) rfl rfl rfl rfl (by decide) ?_
    refine ks_iload_n rfl rfl ?_
    refine ks_aload_n rfl rfl ?_
    refine ks_getr (b := 85) rfl rfl rfl rfl (by decide) ?_
    refine ks_bipush rfl ?_
    refine ks_aload_n rfl rfl ?_
    refine ks_geti rfl rfl rfl rfl (by (try simp only [kx_up_at, kx_row_at, up1_at, Nat.reduceEqDiff, Int.reduceEq, Int.reduceNeg, and_true, true_and, and_false, false_and, and_self, reduceIte, Nat.add_left_cancel_iff, Nat.add_eq_left, Nat.left_eq_add, Nat.reduceAdd, Int.add_left_inj, Int.add_right_inj, hm1]); rfl) ?_
    refine ks_imul rfl ?_
    refine ks_iload_n rfl rfl ?_
    refine ks_iadd rfl ?_
    refine ks_iaload rfl rfl (by omega) (by omega) (by (try simp only [kx_up_at, kx_row_at, up1_at, Nat.reduceEqDiff, Int.reduceEq, Int.reduceNeg, and_true, true_and, and_false, false_and, and_self, reduceIte, Nat.add_left_cancel_iff, Nat.add_eq_left, Nat.left_eq_add, Nat.reduceAdd, Int.add_left_inj, Int.add_right_inj, hm1]); rfl) ?_
    refine ks_iastore rfl rfl (by omega) (by omega) ?_
    refine ks_iinc_1 rfl rfl ?_
    refine ks_goto rfl ?_
    -- at 22: stop  st []
    refine ih (j + 1) _ (by omega) (fun x x0 x1 => ?_) (fun c hc => ?_)
    · by_cases e : x = j
      · subst e; rw [kx_up_self, h3 85 (by omega)]
      · rw [kx_up_oth (by omega)]; exact h1 x x0 (by omega)
    · rw [kx_up_row hc]; exact h3 c hc
theorem r_Mundo {m : Int} (m0 : 0 ≤ m) (m1 : m ≤ 24) (hm : μ 77 17 = m) (t0 : m = 0 → Q (some (kI (-1000002))) (kg L) μ) (t : ¬ m = 0 → ∀ μ', (∀ k : Int, 0 ≤ k → k < 46 → μ' 81 k = μ 85 (46 * (m - 1) + k)) → μ' 77 17 = m - 1 → (∀ j, j ≠ 17 → μ' 77 j = μ 77 j) → (∀ c, c ≠ 81 → c ≠ 77 → μ' c = μ c) → Q (some (kI (m - 1))) (kg L) μ') : kx_cx (ke (d + 1)) 149 [kR 77] (kg L) μ Q := by
  refine ke_start (tb := kt_M_undo) (ls := [some (kR 77), none]) rfl rfl ?_
  refine ks_aload_n rfl rfl ?_
  refine ks_geti rfl rfl rfl rfl (by (try simp only [kx_up_at, kx_row_at, up1_at, Nat.reduceEqDiff, Int.reduceEq, Int.reduceNeg, and_true, true_and, and_false, false_and, and_self, reduceIte, Nat.add_left_cancel_iff, Nat.add_eq_left, Nat.left_eq_add, Nat.reduceAdd, Int.add_left_inj, Int.add_right_inj, hm]); rfl) ?_
  -- at 4: if ne -> 10 else 7 st [None]
  refine ks_if_ne rfl ⟨by omega, by omega⟩ (fun h => ?_) (fun h => ?_)
  · refine ks_ldc rfl ?_
    refine ks_ireturn rfl ?_
    -- at 9: ret  st ['-1000002']
    exact t0 h
  · refine ks_aload_n rfl rfl ?_
    refine ks_dupR rfl ?_
    refine ks_geti rfl rfl rfl rfl (by (try simp only [kx_up_at, kx_row_at, up1_at, Nat.reduceEqDiff, Int.reduceEq, Int.reduceNeg, and_true, true_and, and_false, false_and, and_self, reduceIte, Nat.add_left_cancel_iff, Nat.add_eq_left, Nat.left_eq_add, Nat.reduceAdd, Int.add_left_inj, Int.add_right_inj, hm]); rfl) ?_
    refine ks_iconst rfl ?_
    refine ks_isub rfl ?_
    refine ks_puti rfl rfl ?_
    refine ks_iconst rfl ?_
    refine ks_istore_n_1 rfl rfl ?_
    -- at 22: stop  st []
    refine l_Mundo (μ := kx_up μ 77 17 (m - 1)) (m := m - 1) (by omega) (by omega) (kx_up_self _ _ _ _) (fun μ2 k1 k2 => ?_) 46 0 _ (by omega) (fun x x0 x1 => absurd x1 (by omega)) (fun _ _ => rfl)
    refine t h μ2 (fun k k0 kk => ?_) ?_ (fun j hj => ?_) (fun c c0 c1 => ?_)
    · rw [k1 k k0 kk, kx_up_row (by omega)]
    · rw [k2 77 (by omega), kx_up_self]
    · rw [k2 77 (by omega), kx_up_oth hj]
    · rw [k2 c c0, kx_up_row c1]
end MU
end
section
/-! the reference's rows -/
section MR
variable {d L : Nat} {G : kx_G} {μ : kx_M} {Q : Option kx_V → kx_G → kx_M → Prop} {a : Nat}
theorem r_Mdrop {r : Int} (hr : kx_in r) (hb : ∀ i, 0 ≤ i → i < 8 → -1 ≤ μ 79 i ∧ μ 79 i ≤ 40) (t0 : ¬ (0 ≤ r ∧ r ≤ 7) → Q (some (kI (-1000001))) (kg L) μ) (t1 : 0 ≤ r → r ≤ 7 → μ 79 r = -1 → Q (some (kI (-1000011))) (kg L) (kx_up μ 77 3 1)) (t2 : 0 ≤ r → r ≤ 7 → 0 ≤ μ 79 r → Q (some (kI (μ 79 r))) (kg L) (kx_up (kx_up μ 79 r (-1)) 77 3 0)) : kx_cx (ke (d + 3)) 125 [kR 77, kI r] (kg L) μ Q := by
  refine ke_start (tb := kt_M_drop) (ls := [some (kR 77), some (kI r), none]) rfl rfl ?_
  refine ks_iload_n rfl rfl ?_
  refine ks_calls_1 rfl (Nat.le_of_ble_eq_true rfl) ?_
  -- at 1: call M_isRow st []
  refine r_MisRow hr (fun h => ?_) (fun h => ?_)
  · show kx_wx _ _ _ _ _ (_ :: _) _ _
    have b := hb r h.1 (by omega)
    refine ks_if_ne_1 rfl ?_
    refine ks_aload_n rfl rfl ?_
    refine ks_getr (b := 79) rfl rfl rfl rfl (by decide) ?_
    refine ks_iload_n rfl rfl ?_
    refine ks_iaload rfl rfl (by omega) (by omega) (by (try simp only [kx_up_at, kx_row_at, up1_at, Nat.reduceEqDiff, Int.reduceEq, Int.reduceNeg, and_true, true_and, and_false, false_and, and_self, reduceIte, Nat.add_left_cancel_iff, Nat.add_eq_left, Nat.left_eq_add, Nat.reduceAdd, Int.add_left_inj, Int.add_right_inj]); rfl) ?_
    -- at 16: if ge -> 25 else 19 st [None]
    refine ks_if_ge rfl ⟨by omega, by omega⟩ (fun h1 => ?_) (fun h1 => ?_)
    · refine ks_aload_n rfl rfl ?_
      refine ks_iconst rfl ?_
      refine ks_callv_2 rfl rfl rfl (Nat.le_of_ble_eq_true rfl) ?_
      -- at 21: call M_find st []
      refine r_find ?_
      show kx_wx _ _ _ _ _ (_ :: _) _ _
      refine ks_ireturn rfl ?_
      -- at 24: ret  st [None]
      exact t1 h.1 h.2 (by omega)
    · refine ks_aload_n rfl rfl ?_
      refine ks_getr (b := 79) rfl rfl rfl rfl (by decide) ?_
      refine ks_iload_n rfl rfl ?_
      refine ks_iaload rfl rfl (by omega) (by omega) (by (try simp only [kx_up_at, kx_row_at, up1_at, Nat.reduceEqDiff, Int.reduceEq, Int.reduceNeg, and_true, true_and, and_false, false_and, and_self, reduceIte, Nat.add_left_cancel_iff, Nat.add_eq_left, Nat.left_eq_add, Nat.reduceAdd, Int.add_left_inj, Int.add_right_inj]); rfl) ?_
      refine ks_istore_n_2 rfl rfl ?_
      refine ks_aload_n rfl rfl ?_
      refine ks_getr (b := 79) rfl rfl rfl rfl (by decide) ?_
      refine ks_iload_n rfl rfl ?_
      refine ks_iconst rfl ?_
      refine ks_iastore rfl rfl (by omega) (by omega) ?_
      refine ks_aload_n rfl rfl ?_
      refine ks_iload_n rfl rfl ?_
      refine ks_callv_2 rfl rfl rfl (Nat.le_of_ble_eq_true rfl) ?_
      -- at 41: call M_well st []
      refine r_well ?_
      show kx_wx _ _ _ _ _ (_ :: _) _ _
      refine ks_ireturn rfl ?_
      -- at 44: ret  st [None]
      exact t2 h.1 h.2 (by omega)
  · show kx_wx _ _ _ _ _ (_ :: _) _ _
    refine ks_if_ne_0 rfl ?_
    refine ks_ldc rfl ?_
    refine ks_ireturn rfl ?_
    -- at 9: ret  st ['-1000001']
    exact t0 h
theorem r_Mset {r i x : Int} (hr : kx_in r) (hi : kx_in i) (hx : kx_in x) (hl : ∀ i, 0 ≤ i → i < 8 → 0 ≤ μ 78 i ∧ μ 78 i ≤ 2) (hb : ∀ i, 0 ≤ i → i < 8 → -1 ≤ μ 79 i ∧ μ 79 i ≤ 40) (t0 : ¬ (0 ≤ r ∧ r ≤ 7) → Q (some (kI (-1000001))) (kg L) μ) (t1 : 0 ≤ r → r ≤ 7 → μ 79 r = -1 → Q (some (kI (-1000011))) (kg L) (kx_up μ 77 3 1)) (t2 : 0 ≤ r → r ≤ 7 → 0 ≤ μ 79 r → ¬ (0 ≤ i ∧ i < μ 79 r) → Q (some (kI (-1000012))) (kg L) (kx_up μ 77 3 2)) (t3 : 0 ≤ r → r ≤ 7 → 0 ≤ i → i < μ 79 r → Q (some (kI (ln_cut (μ 78 r) x))) (kg L) (kx_up (kx_up μ 80 (40 * r + i) (ln_cut (μ 78 r) x)) 77 3 0)) : kx_cx (ke (d + 3)) 123 [kR 77, kI r, kI i, kI x] (kg L) μ Q := by
  refine ke_start (tb := kt_M_set) (ls := [some (kR 77), some (kI r), some (kI i), some (kI x)]) rfl rfl ?_
  obtain ⟨_, _⟩ := hi
  refine ks_iload_n rfl rfl ?_
  refine ks_calls_1 rfl (Nat.le_of_ble_eq_true rfl) ?_
  -- at 1: call M_isRow st []
  refine r_MisRow hr (fun h => ?_) (fun h => ?_)
  · show kx_wx _ _ _ _ _ (_ :: _) _ _
    have b := hb r h.1 (by omega)
    have bl := hl r h.1 (by omega)
    refine ks_if_ne_1 rfl ?_
    refine ks_aload_n rfl rfl ?_
    refine ks_getr (b := 79) rfl rfl rfl rfl (by decide) ?_
    refine ks_iload_n rfl rfl ?_
    refine ks_iaload rfl rfl (by omega) (by omega) (by (try simp only [kx_up_at, kx_row_at, up1_at, Nat.reduceEqDiff, Int.reduceEq, Int.reduceNeg, and_true, true_and, and_false, false_and, and_self, reduceIte, Nat.add_left_cancel_iff, Nat.add_eq_left, Nat.left_eq_add, Nat.reduceAdd, Int.add_left_inj, Int.add_right_inj]); rfl) ?_
    -- at 16: if ge -> 25 else 19 st [None]
    refine ks_if_ge rfl ⟨by omega, by omega⟩ (fun h1 => ?_) (fun h1 => ?_)
    · refine ks_aload_n rfl rfl ?_
      refine ks_iconst rfl ?_
      refine ks_callv_2 rfl rfl rfl (Nat.le_of_ble_eq_true rfl) ?_
      -- at 21: call M_find st []
      refine r_find ?_
      show kx_wx _ _ _ _ _ (_ :: _) _ _
      refine ks_ireturn rfl ?_
      -- at 24: ret  st [None]
      exact t1 h.1 h.2 (by omega)
    · refine ks_iload_n rfl rfl ?_
      refine ks_i2l rfl ⟨by omega, by omega⟩ ?_
      refine ks_lconst rfl ?_
      refine ks_aload_n rfl rfl ?_
      refine ks_getr (b := 79) rfl rfl rfl rfl (by decide) ?_
      refine ks_iload_n rfl rfl ?_
      refine ks_iaload rfl rfl (by omega) (by omega) (by (try simp only [kx_up_at, kx_row_at, up1_at, Nat.reduceEqDiff, Int.reduceEq, Int.reduceNeg, and_true, true_and, and_false, false_and, and_self, reduceIte, Nat.add_left_cancel_iff, Nat.add_eq_left, Nat.left_eq_add, Nat.reduceAdd, Int.add_left_inj, Int.add_right_inj]); rfl) ?_
      refine ks_iconst rfl ?_
      refine ks_isub rfl ?_
      refine ks_i2l rfl ⟨by omega, by omega⟩ ?_
      refine ks_calls_3 rfl (Nat.le_of_ble_eq_true rfl) ?_
      -- at 37: call M_in st []
      refine r_in ⟨by omega, by omega⟩ ⟨by omega, by omega⟩ ⟨by omega, by omega⟩ (fun h2 => ?_) (fun h2 => ?_)
      · show kx_wx _ _ _ _ _ (_ :: _) _ _
        refine ks_if_ne_1 rfl ?_
        refine ks_aload_n rfl rfl ?_
        refine ks_getr (b := 80) rfl rfl rfl rfl (by decide) ?_
        refine ks_bipush rfl ?_
        refine ks_iload_n rfl rfl ?_
        refine ks_imul rfl ?_
        refine ks_iload_n rfl rfl ?_
        refine ks_iadd rfl ?_
        refine ks_aload_n rfl rfl ?_
        refine ks_getr (b := 78) rfl rfl rfl rfl (by decide) ?_
        refine ks_iload_n rfl rfl ?_
        refine ks_iaload rfl rfl (by omega) (by omega) (by (try simp only [kx_up_at, kx_row_at, up1_at, Nat.reduceEqDiff, Int.reduceEq, Int.reduceNeg, and_true, true_and, and_false, false_and, and_self, reduceIte, Nat.add_left_cancel_iff, Nat.add_eq_left, Nat.left_eq_add, Nat.reduceAdd, Int.add_left_inj, Int.add_right_inj]); rfl) ?_
        refine ks_iload_n rfl rfl ?_
        refine ks_calls_2 rfl (Nat.le_of_ble_eq_true rfl) ?_
        -- at 66: call M_asLane st [None, '80']
        refine r_asLane ⟨by omega, by omega⟩ hx ?_
        show kx_wx _ _ _ _ _ (_ :: _) _ _
        refine ks_iastore rfl rfl (by omega) (by omega) ?_
        refine ks_aload_n rfl rfl ?_
        refine ks_aload_n rfl rfl ?_
        refine ks_getr (b := 80) rfl rfl rfl rfl (by decide) ?_
        refine ks_bipush rfl ?_
        refine ks_iload_n rfl rfl ?_
        refine ks_imul rfl ?_
        refine ks_iload_n rfl rfl ?_
        refine ks_iadd rfl ?_
        refine ks_iaload rfl rfl (by omega) (by omega) (by (try simp only [kx_up_at, kx_row_at, up1_at, Nat.reduceEqDiff, Int.reduceEq, Int.reduceNeg, and_true, true_and, and_false, false_and, and_self, reduceIte, Nat.add_left_cancel_iff, Nat.add_eq_left, Nat.left_eq_add, Nat.reduceAdd, Int.add_left_inj, Int.add_right_inj]); rfl) ?_
        refine ks_callv_2 rfl rfl rfl (Nat.le_of_ble_eq_true rfl) ?_
        -- at 82: call M_well st []
        refine r_well ?_
        show kx_wx _ _ _ _ _ (_ :: _) _ _
        refine ks_ireturn rfl ?_
        -- at 85: ret  st [None]
        exact t3 h.1 h.2 h2.1 (by omega)
      · show kx_wx _ _ _ _ _ (_ :: _) _ _
        refine ks_if_ne_0 rfl ?_
        refine ks_aload_n rfl rfl ?_
        refine ks_iconst rfl ?_
        refine ks_callv_2 rfl rfl rfl (Nat.le_of_ble_eq_true rfl) ?_
        -- at 45: call M_find st []
        refine r_find ?_
        show kx_wx _ _ _ _ _ (_ :: _) _ _
        refine ks_ireturn rfl ?_
        -- at 48: ret  st [None]
        exact t2 h.1 h.2 (by omega) (by omega)
  · show kx_wx _ _ _ _ _ (_ :: _) _ _
    refine ks_if_ne_0 rfl ?_
    refine ks_ldc rfl ?_
    refine ks_ireturn rfl ?_
    -- at 9: ret  st ['-1000001']
    exact t0 h
end MR
end
section
/-! the reference lays a row -/
section MS
variable {d L : Nat} {G : kx_G} {μ : kx_M} {Q : Option kx_V → kx_G → kx_M → Prop} {a : Nat}
theorem l_Mrow {r l n : Int} (r0 : 0 ≤ r) (r1 : r ≤ 7) (t : ∀ μ', (∀ i : Int, 0 ≤ i → i < 40 → μ' 80 (40 * r + i) = 0) → (∀ x : Int, x < 40 * r ∨ 40 * r + 40 ≤ x → μ' 80 x = μ 80 x) → (∀ c, c ≠ 80 → μ' c = μ c) → kx_wx (ke d) kt_M_row Q 81 [some (kR 77), some (kI r), some (kI l), some (kI n), some (kI 40)] [] (kg L) μ') : ∀ (q j : Nat) (μ1 : kx_M), j + q = 40 → (∀ i : Int, 0 ≤ i → i < j → μ1 80 (40 * r + i) = 0) → (∀ x : Int, x < 40 * r ∨ 40 * r + 40 ≤ x → μ1 80 x = μ 80 x) → (∀ c, c ≠ 80 → μ1 c = μ c) → kx_wx (ke d) kt_M_row Q 55 [some (kR 77), some (kI r), some (kI l), some (kI n), some (kI j)] [] (kg L) μ1 := by
  intro q
  induction q with
  | zero =>
    intro j μ1 hj h1 h2 h3
    rw [Nat.add_zero] at hj
    subst hj
    refine ks_iload rfl rfl ?_
    refine ks_bipush rfl ?_
    -- at 59: if ge -> 81 else 62 st ['40', None]
    refine ks_icmp_ge rfl ⟨by omega, by omega⟩ ⟨by omega, by omega⟩ (fun h => absurd h (by omega)) (fun h => ?_)
    exact t _ h1 h2 h3
  | succ q ih =>
    intro j μ1 hj h1 h2 h3
    refine ks_iload rfl rfl ?_
    refine ks_bipush rfl ?_
    -- at 59: if ge -> 81 else 62 st ['40', None]
    refine ks_icmp_ge rfl ⟨by omega, by omega⟩ ⟨by omega, by omega⟩ (fun h => ?_) (fun h => absurd h (by omega))
    refine ks_aload_n rfl rfl ?_
    refine ks_getr (b := 80) rfl rfl rfl rfl (by decide) ?_
    refine ks_bipush rfl ?_
    refine ks_iload_n rfl rfl ?_
    refine ks_imul rfl ?_
    refine ks_iload rfl rfl ?_
    refine ks_iadd rfl ?_
    refine ks_iconst rfl ?_
    refine ks_iastore rfl rfl (by omega) (by omega) ?_
    refine ks_iinc_4 rfl rfl ?_
    refine ks_goto rfl ?_
    -- at 55: stop  st []
    refine ih (j + 1) _ (by omega) (fun x x0 x1 => ?_) (fun x hx => ?_) (fun c hc => ?_)
    · by_cases e : x = j
      · subst e; rw [kx_up_self]
      · rw [kx_up_oth (by omega)]; exact h1 x x0 (by omega)
    · rw [kx_up_oth (by omega)]; exact h2 x hx
    · rw [kx_up_row hc]; exact h3 c hc
theorem r_Mrow {r l n : Int} (hr : kx_in r) (hl : kx_in l) (hn : kx_in n) (t0 : ¬ ((0 ≤ r ∧ r ≤ 7) ∧ (0 ≤ l ∧ l ≤ 2) ∧ n ≤ 40) → Q (some (kI (-1000001))) (kg L) μ) (t1 : (0 ≤ r ∧ r ≤ 7) → (0 ≤ l ∧ l ≤ 2) → n < 0 → Q (some (kI (-1000014))) (kg L) (kx_up μ 77 3 4)) (t2 : (0 ≤ r ∧ r ≤ 7) → (0 ≤ l ∧ l ≤ 2) → 0 ≤ n → n ≤ 40 → ∀ μ', (∀ i : Int, 0 ≤ i → i < 40 → μ' 80 (40 * r + i) = 0) → (∀ x : Int, x < 40 * r ∨ 40 * r + 40 ≤ x → μ' 80 x = μ 80 x) → μ' 78 = up1 (μ 78) r l → μ' 79 = up1 (μ 79) r n → μ' 77 = up1 (μ 77) 3 0 → (∀ c, c < 77 ∨ 80 < c → μ' c = μ c) → Q (some (kI n)) (kg L) μ') : kx_cx (ke (d + 3)) 121 [kR 77, kI r, kI l, kI n] (kg L) μ Q := by
  refine ke_start (tb := kt_M_row) (ls := [some (kR 77), some (kI r), some (kI l), some (kI n), none]) rfl rfl ?_
  obtain ⟨_, _⟩ := hl
  have bad : ¬ ((0 ≤ r ∧ r ≤ 7) ∧ (0 ≤ l ∧ l ≤ 2) ∧ n ≤ 40) → kx_wx (ke (d + 2)) kt_M_row Q 25 [some (kR 77), some (kI r), some (kI l), some (kI n), none] [] (kg L) μ := by
    intro h
    refine ks_ldc rfl ?_
    refine ks_ireturn rfl ?_
    -- at 27: ret  st ['-1000001']
    exact t0 h
  refine ks_iload_n rfl rfl ?_
  refine ks_calls_1 rfl (Nat.le_of_ble_eq_true rfl) ?_
  -- at 1: call M_isRow st []
  refine r_MisRow hr (fun h => ?_) (fun h => ?_)
  · show kx_wx _ _ _ _ _ (_ :: _) _ _
    refine ks_if_eq_1 rfl ?_
    refine ks_iload_n rfl rfl ?_
    refine ks_i2l rfl ⟨by omega, by omega⟩ ?_
    refine ks_lconst rfl ?_
    refine ks_ldc2_w rfl ?_
    refine ks_calls_3 rfl (Nat.le_of_ble_eq_true rfl) ?_
    -- at 13: call M_in st []
    refine r_in ⟨by omega, by omega⟩ ⟨by omega, by omega⟩ ⟨by omega, by omega⟩ (fun h2 => ?_) (fun h2 => ?_)
    · show kx_wx _ _ _ _ _ (_ :: _) _ _
      refine ks_if_eq_1 rfl ?_
      refine ks_iload_n rfl rfl ?_
      refine ks_bipush rfl ?_
      -- at 22: if le -> 28 else 25 st ['40', None]
      refine ks_icmp_le rfl hn ⟨by omega, by omega⟩ (fun h3 => ?_) (fun h3 => ?_)
      · exact bad (by omega)
      · refine ks_iload_n rfl rfl ?_
        -- at 29: if ge -> 38 else 32 st [None]
        refine ks_if_ge rfl hn (fun h4 => ?_) (fun h4 => ?_)
        · refine ks_aload_n rfl rfl ?_
          refine ks_iconst rfl ?_
          refine ks_callv_2 rfl rfl rfl (Nat.le_of_ble_eq_true rfl) ?_
          -- at 34: call M_find st []
          refine r_find ?_
          show kx_wx _ _ _ _ _ (_ :: _) _ _
          refine ks_ireturn rfl ?_
          -- at 37: ret  st [None]
          exact t1 h h2 h4
        · refine ks_aload_n rfl rfl ?_
          refine ks_getr (b := 78) rfl rfl rfl rfl (by decide) ?_
          refine ks_iload_n rfl rfl ?_
          refine ks_iload_n rfl rfl ?_
          refine ks_iastore rfl rfl (by omega) (by omega) ?_
          refine ks_aload_n rfl rfl ?_
          refine ks_getr (b := 79) rfl rfl rfl rfl (by decide) ?_
          refine ks_iload_n rfl rfl ?_
          refine ks_iload_n rfl rfl ?_
          refine ks_iastore rfl rfl (by omega) (by omega) ?_
          refine ks_iconst rfl ?_
          refine ks_istore_4 rfl rfl ?_
          -- at 55: stop  st []
          refine l_Mrow (μ := kx_up (kx_up μ 78 r l) 79 r n) h.1 h.2 (fun μ1 k1 k2 k3 => ?_) 40 0 _ (by omega) (fun x x0 x1 => absurd x1 (by omega)) (fun _ _ => rfl) (fun _ _ => rfl)
          refine ks_aload_n rfl rfl ?_
          refine ks_iload_n rfl rfl ?_
          refine ks_callv_2 rfl rfl rfl (Nat.le_of_ble_eq_true rfl) ?_
          -- at 83: call M_well st []
          refine r_well ?_
          show kx_wx _ _ _ _ _ (_ :: _) _ _
          refine ks_ireturn rfl ?_
          -- at 86: ret  st [None]
          refine t2 h h2 (by omega) (by omega) _ (fun i i0 i1 => ?_) (fun x hx => ?_) ?_ ?_ ?_ (fun c hc => ?_)
          · rw [kx_up_row (by omega)]; exact k1 i i0 i1
          · rw [kx_up_row (by omega), k2 x hx, kx_up_row (by omega), kx_up_row (by omega)]
          · rw [kx_up_row (by omega), k3 78 (by omega), kx_up_row (by omega), kx_up_up1, kx_row_self]
          · rw [kx_up_row (by omega), k3 79 (by omega), kx_up_up1, kx_row_self, kx_up_row (by omega)]
          · rw [kx_up_up1, kx_row_self, k3 77 (by omega), kx_up_row (by omega), kx_up_row (by omega)]
          · rw [kx_up_row (by omega), k3 c (by omega), kx_up_row (by omega), kx_up_row (by omega)]
    · show kx_wx _ _ _ _ _ (_ :: _) _ _
      refine ks_if_eq_0 rfl ?_
      exact bad (fun q => h2 q.2.1)
  · show kx_wx _ _ _ _ _ (_ :: _) _ _
    refine ks_if_eq_0 rfl ?_
    exact bad (fun q => h q.1)
end MS
end
section
/-! the class's rows -/
section XR
variable {d L : Nat} {G : kx_G} {μ : kx_M} {Q : Option kx_V → kx_G → kx_M → Prop} {a : Nat}
theorem r_Xdrop {r : Int} (hr : kx_in r) (hb : ∀ i : Nat, i < 8 → -1 ≤ μ (3 + 2 * i) 2 ∧ μ (3 + 2 * i) 2 ≤ 40) (t0 : ¬ (0 ≤ r ∧ r ≤ 7) → Q (some (kI (-1000001))) (kg L) μ) (t1 : 0 ≤ r → r ≤ 7 → μ (3 + 2 * r.toNat) 2 = -1 → Q (some (kI (-1000011))) (kg L) (kx_up μ 1 10 1)) (t2 : 0 ≤ r → r ≤ 7 → 0 ≤ μ (3 + 2 * r.toNat) 2 → Q (some (kI (μ (3 + 2 * r.toNat) 2))) (kg L) (kx_up (kx_up μ (3 + 2 * r.toNat) 2 (-1)) 1 10 0)) : kx_cx (ke (d + 3)) 72 [kR 1, kI r] (kg L) μ Q := by
  refine ke_start (tb := kt_X_drop) (ls := [some (kR 1), some (kI r)]) rfl rfl ?_
  refine ks_iload_n rfl rfl ?_
  refine ks_calls_1 rfl (Nat.le_of_ble_eq_true rfl) ?_
  -- at 1: call X_isRow st []
  refine r_isRow hr (fun h => ?_) (fun h => ?_)
  · show kx_wx _ _ _ _ _ (_ :: _) _ _
    have b := hb r.toNat (by omega)
    obtain ⟨a1, a2⟩ := kg_rows L (i := r) h.1 (by omega)
    refine ks_if_ne_1 rfl ?_
    generalize hw : 3 + 2 * r.toNat = w at *
    have w0 : w ≠ 1 := by omega
    have a3 := a2.1
    refine ks_aload_n rfl rfl ?_
    refine ks_getr (b := 2) rfl rfl rfl rfl (by decide) ?_
    refine ks_iload_n rfl rfl ?_
    refine ks_aaload (b := w) rfl rfl (Or.inl rfl) (by omega) (by omega) a1 (by omega) ?_
    refine ks_callv_1 rfl rfl (by assumption) (Nat.le_of_ble_eq_true rfl) ?_
    -- at 16: call Row_isMissing st []
    refine r_isMissing a2 ⟨by omega, by omega⟩ (fun h1 => ?_) (fun h1 => ?_)
    · show kx_wx _ _ _ _ _ (_ :: _) _ _
      refine ks_if_eq_1 rfl ?_
      refine ks_aload_n rfl rfl ?_
      refine ks_iconst rfl ?_
      refine ks_callv_2 rfl rfl rfl (Nat.le_of_ble_eq_true rfl) ?_
      -- at 24: call X_finding st []
      refine r_finding ?_
      show kx_wx _ _ _ _ _ (_ :: _) _ _
      refine ks_ireturn rfl ?_
      -- at 27: ret  st [None]
      exact t1 h.1 h.2 h1
    · show kx_wx _ _ _ _ _ (_ :: _) _ _
      refine ks_if_eq_0 rfl ?_
      refine ks_aload_n rfl rfl ?_
      refine ks_aload_n rfl rfl ?_
      refine ks_getr (b := 2) rfl rfl rfl rfl (by decide) ?_
      refine ks_iload_n rfl rfl ?_
      refine ks_aaload (b := w) rfl rfl (Or.inl rfl) (by omega) (by omega) a1 (by omega) ?_
      refine ks_callv_1 rfl rfl (by assumption) (Nat.le_of_ble_eq_true rfl) ?_
      -- at 35: call Row_remove st ['1']
      refine r_remove a2 ?_
      show kx_wx _ _ _ _ _ (_ :: _) _ _
      refine ks_callv_2 rfl rfl rfl (Nat.le_of_ble_eq_true rfl) ?_
      -- at 38: call X_noFinding st []
      refine r_noFinding ?_
      show kx_wx _ _ _ _ _ (_ :: _) _ _
      refine ks_ireturn rfl ?_
      -- at 41: ret  st [None]
      exact t2 h.1 h.2 (by omega)
  · show kx_wx _ _ _ _ _ (_ :: _) _ _
    refine ks_if_ne_0 rfl ?_
    refine ks_ldc rfl ?_
    refine ks_ireturn rfl ?_
    -- at 9: ret  st ['-1000001']
    exact t0 h
theorem r_Xrow {r l n : Int} (hr : kx_in r) (hl : kx_in l) (hn : kx_in n) (t0 : ¬ ((0 ≤ r ∧ r ≤ 7) ∧ (0 ≤ l ∧ l ≤ 2) ∧ n ≤ 40) → Q (some (kI (-1000001))) (kg L) μ) (t1 : (0 ≤ r ∧ r ≤ 7) → (0 ≤ l ∧ l ≤ 2) → n < 0 → Q (some (kI (-1000014))) (kg L) (kx_up μ 1 10 4)) (t2 : (0 ≤ r ∧ r ≤ 7) → (0 ≤ l ∧ l ≤ 2) → 0 ≤ n → n ≤ 40 → ∀ μ', μ' (3 + 2 * r.toNat) 1 = l → μ' (3 + 2 * r.toNat) 2 = n → (∀ i, 0 ≤ i → i < 40 → μ' (3 + 2 * r.toNat + 1) i = 0) → (∀ c, c ≠ 3 + 2 * r.toNat → c ≠ 3 + 2 * r.toNat + 1 → μ' c = μ c) → Q (some (kI n)) (kg L) (kx_up μ' 1 10 0)) : kx_cx (ke (d + 3)) 69 [kR 1, kI r, kI l, kI n] (kg L) μ Q := by
  refine ke_start (tb := kt_X_row) (ls := [some (kR 1), some (kI r), some (kI l), some (kI n)]) rfl rfl ?_
  have bad : ¬ ((0 ≤ r ∧ r ≤ 7) ∧ (0 ≤ l ∧ l ≤ 2) ∧ n ≤ 40) → kx_wx (ke (d + 2)) kt_X_row Q 22 [some (kR 1), some (kI r), some (kI l), some (kI n)] [] (kg L) μ := by
    intro h
    refine ks_ldc rfl ?_
    refine ks_ireturn rfl ?_
    -- at 24: ret  st ['-1000001']
    exact t0 h
  refine ks_iload_n rfl rfl ?_
  refine ks_calls_1 rfl (Nat.le_of_ble_eq_true rfl) ?_
  -- at 1: call X_isRow st []
  refine r_isRow hr (fun h => ?_) (fun h => ?_)
  · show kx_wx _ _ _ _ _ (_ :: _) _ _
    refine ks_if_eq_1 rfl ?_
    refine ks_iload_n rfl rfl ?_
    refine ks_iconst rfl ?_
    refine ks_iconst rfl ?_
    refine ks_calls_3 rfl (Nat.le_of_ble_eq_true rfl) ?_
    -- at 10: call X_isBetween st []
    refine r_isBetween hl ⟨by omega, by omega⟩ ⟨by omega, by omega⟩ (fun h2 => ?_) (fun h2 => ?_)
    · show kx_wx _ _ _ _ _ (_ :: _) _ _
      refine ks_if_eq_1 rfl ?_
      refine ks_iload_n rfl rfl ?_
      refine ks_bipush rfl ?_
      -- at 19: if le -> 25 else 22 st ['40', None]
      refine ks_icmp_le rfl hn ⟨by omega, by omega⟩ (fun h3 => ?_) (fun h3 => ?_)
      · exact bad (by omega)
      · refine ks_iload_n rfl rfl ?_
        -- at 26: if ge -> 35 else 29 st [None]
        refine ks_if_ge rfl hn (fun h4 => ?_) (fun h4 => ?_)
        · refine ks_aload_n rfl rfl ?_
          refine ks_iconst rfl ?_
          refine ks_callv_2 rfl rfl rfl (Nat.le_of_ble_eq_true rfl) ?_
          -- at 31: call X_finding st []
          refine r_finding ?_
          show kx_wx _ _ _ _ _ (_ :: _) _ _
          refine ks_ireturn rfl ?_
          -- at 34: ret  st [None]
          exact t1 h h2 h4
        · obtain ⟨a1, a2⟩ := kg_rows L (i := r) h.1 (by omega)
          generalize hw : 3 + 2 * r.toNat = w at *
          have w0 : w ≠ 1 := by omega
          have a3 := a2.1
          refine ks_aload_n rfl rfl ?_
          refine ks_getr (b := 2) rfl rfl rfl rfl (by decide) ?_
          refine ks_iload_n rfl rfl ?_
          refine ks_aaload (b := w) rfl rfl (Or.inl rfl) (by omega) (by omega) a1 (by omega) ?_
          refine ks_iload_n rfl rfl ?_
          refine ks_iload_n rfl rfl ?_
          refine ks_callv_3 rfl rfl (by assumption) (Nat.le_of_ble_eq_true rfl) ?_
          -- at 43: call Row_lay st []
          refine r_lay a2 (fun μ1 k1 k2 k3 k4 => ?_)
          show kx_wx _ _ _ _ _ _ _ _
          refine ks_aload_n rfl rfl ?_
          refine ks_iload_n rfl rfl ?_
          refine ks_callv_2 rfl rfl rfl (Nat.le_of_ble_eq_true rfl) ?_
          -- at 48: call X_noFinding st []
          refine r_noFinding ?_
          show kx_wx _ _ _ _ _ (_ :: _) _ _
          refine ks_ireturn rfl ?_
          -- at 51: ret  st [None]
          exact t2 h h2 (by omega) (by omega) μ1 k1 k2 k3 k4
    · show kx_wx _ _ _ _ _ (_ :: _) _ _
      refine ks_if_eq_0 rfl ?_
      exact bad (fun q => h2 q.2.1)
  · show kx_wx _ _ _ _ _ (_ :: _) _ _
    refine ks_if_eq_0 rfl ?_
    exact bad (fun q => h q.1)
end XR
end
