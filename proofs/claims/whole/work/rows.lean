section
/-! A small machine of our own over numbers: its values are whole numbers (an int stands for its class modulo 2^32) and cell numbers; its steps are those of the bytecode. Proved once against the kit's rows (parts sx), then the methods are proved over this machine alone. -/
abbrev kx_V : Type := Int ⊕ (Int ⊕ Nat)
abbrev kI (x : Int) : kx_V := Sum.inl x
abbrev kL (x : Int) : kx_V := Sum.inr (Sum.inl x)
abbrev kR (a : Nat) : kx_V := Sum.inr (Sum.inr a)
/-- the shape of each cell (kind, class or length), the next cell's number, the references that cells hold -/
abbrev kx_G : Type := (Nat → Nat × Nat) × Nat × (Nat → Int → Nat)
/-- the numbers that cells hold -/
abbrev kx_M : Type := Nat → Int → Int
abbrev kx_L : Type := List (Option kx_V)
/-- an instruction with what is found for it: the place behind it, two numbers, a constant, targets -/
abbrev kx_E : Type := Instr × Nat × Nat × Nat × Int × List Nat
abbrev kx_in (a : Int) : Prop := -2147483648 ≤ a ∧ a ≤ 2147483647
abbrev kx_inL (a : Int) : Prop := -9223372036854775808 ≤ a ∧ a ≤ 9223372036854775807
def kx_cat (v : kx_V) : Nat := match v with
  | .inr (.inl _) => 2
  | _ => 1
def kx_cats : List kx_V → Nat
  | [] => 0
  | v :: l => kx_cat v + kx_cats l
def kx_up (μ : kx_M) (a : Nat) (i v : Int) : kx_M := fun b j => if b = a ∧ j = i then v else μ b j
theorem kx_up_at (μ : kx_M) (a : Nat) (i v : Int) (b : Nat) (j : Int) : kx_up μ a i v b j = if b = a ∧ j = i then v else μ b j := rfl
def kx_zero (μ : kx_M) (a : Nat) : kx_M := fun b j => if b = a then 0 else μ b j
def kx_upr (rf : Nat → Int → Nat) (a : Nat) (i : Int) (v : Nat) : Nat → Int → Nat := fun b j => if b = a ∧ j = i then v else rf b j
def kx_zeror (rf : Nat → Int → Nat) (a : Nat) : Nat → Int → Nat := fun b j => if b = a then 0 else rf b j
def kx_shp (sh : Nat → Nat × Nat) (a : Nat) (q : Nat × Nat) : Nat → Nat × Nat := fun b => if b = a then q else sh b
def kx_cpy (μ : kx_M) (src : Nat) (sp : Int) (dst : Nat) (dp n : Int) : kx_M := fun b j => if b = dst ∧ dp ≤ j ∧ j < dp + n then μ src (sp + (j - dp)) else μ b j
def kx_new (G : kx_G) (q : Nat × Nat) : kx_G := (kx_shp G.1 G.2.1 q, G.2.1 + 1, kx_zeror G.2.2 G.2.1)
def kx_and (a b : Int) : Int := (Int32.ofInt a &&& Int32.ofInt b).toInt
def kx_or (a b : Int) : Int := (Int32.ofInt a ||| Int32.ofInt b).toInt
def kx_xor (a b : Int) : Int := (Int32.ofInt a ^^^ Int32.ofInt b).toInt
def kx_lor (a b : Int) : Int := (Int64.ofInt a ||| Int64.ofInt b).toInt
def kx_br {α : Type} (c : Jvm.ClassFile.Cond) (a b : Int) (t f : α) : α := match c with
  | .eq => if a = b then t else f
  | .ne => if a = b then f else t
  | .lt => if a < b then t else f
  | .ge => if a < b then f else t
  | .gt => if b < a then t else f
  | .le => if b < a then f else t
def kx_sw {α : Type} (x lo : Int) (f : Nat → α) (d : Nat) : List Nat → α
  | [] => f d
  | t :: ts => if x = lo then f t else kx_sw x (lo + 1) f d ts
def kx_ent : List kx_V → kx_L
  | [] => []
  | v :: l => if kx_cat v = 2 then some v :: none :: kx_ent l else some v :: kx_ent l
/-- the locals at a method's start -/
def kx_pad (l : kx_L) (n : Nat) : kx_L := l ++ List.replicate (n - l.length) none
def kx_get : kx_L → Nat → Option kx_V
  | [], _ => none
  | x :: _, 0 => x
  | _ :: l, n + 1 => kx_get l n
def kx_put : kx_L → Nat → Option kx_V → kx_L
  | [], _, _ => []
  | _ :: l, 0, v => v :: l
  | x :: l, n + 1, v => x :: kx_put l n v
/-- a long ahead of the place is gone -/
def kx_clr (ls : kx_L) (i : Nat) : kx_L := match i with
  | 0 => ls
  | j + 1 => match kx_get ls j with
    | some (.inr (.inl _)) => kx_put ls j none
    | _ => ls
def kx_set1 (ls : kx_L) (i : Nat) (v : kx_V) : kx_L := kx_put (kx_clr ls i) i (some v)
def kx_set2 (ls : kx_L) (i : Nat) (v : kx_V) : kx_L := kx_put (kx_put (kx_clr ls i) i (some v)) (i + 1) none
section KX
variable {α : Type}
def kx_load (w : Nat) (dead : α) (k : kx_V → α) (ls : kx_L) (i : Nat) : α := match kx_get ls i with
  | some (.inl x) => if w = 0 then k (kI x) else dead
  | some (.inr (.inl x)) => if w = 1 then k (kL x) else dead
  | some (.inr (.inr a)) => if w = 2 then k (kR a) else dead
  | none => dead
/-- one instruction: where it goes, by 'k'; what it returns, by 'ret'; what it calls, by 'call'; else 'dead' -/
def kx_do (i : Instr) (nx r1 r2 : Nat) (r3 : Int) (tg : List Nat) (dead : α) (k : Nat → kx_L → List kx_V → kx_G → kx_M → α) (ret : Option kx_V → kx_G → kx_M → α) (call : Nat → List kx_V → kx_G → kx_M → Nat → kx_L → List kx_V → α) (ls : kx_L) (st : List kx_V) (G : kx_G) (μ : kx_M) : α :=
  match i with
  | .iload_n _ => kx_load 0 dead (fun v => k nx ls (v :: st) G μ) ls r1
  | .iload _ => kx_load 0 dead (fun v => k nx ls (v :: st) G μ) ls r1
  | .lload_n _ => kx_load 1 dead (fun v => k nx ls (v :: st) G μ) ls r1
  | .lload _ => kx_load 1 dead (fun v => k nx ls (v :: st) G μ) ls r1
  | .aload_n _ => kx_load 2 dead (fun v => k nx ls (v :: st) G μ) ls r1
  | .aload _ => kx_load 2 dead (fun v => k nx ls (v :: st) G μ) ls r1
  | .istore_n _ => match st with
    | .inl x :: st => k nx (kx_set1 ls r1 (kI x)) st G μ
    | _ => dead
  | .istore _ => match st with
    | .inl x :: st => k nx (kx_set1 ls r1 (kI x)) st G μ
    | _ => dead
  | .lstore_n _ => match st with
    | .inr (.inl x) :: st => k nx (kx_set2 ls r1 (kL x)) st G μ
    | _ => dead
  | .astore_n _ => match st with
    | .inr (.inr x) :: st => k nx (kx_set1 ls r1 (kR x)) st G μ
    | _ => dead
  | .astore _ => match st with
    | .inr (.inr x) :: st => k nx (kx_set1 ls r1 (kR x)) st G μ
    | _ => dead
  | .iinc _ _ => match kx_get ls r1 with
    | some (.inl x) => k nx (kx_set1 ls r1 (kI (x + r3))) st G μ
    | _ => dead
  | .iconst _ => k nx ls (kI r3 :: st) G μ
  | .bipush _ => k nx ls (kI r3 :: st) G μ
  | .sipush _ => k nx ls (kI r3 :: st) G μ
  | .lconst _ => k nx ls (kL r3 :: st) G μ
  | .ldc _ => if r1 = 0 then k nx ls (kI r3 :: st) G μ else k nx ls (kR r2 :: st) G μ
  | .ldc_w _ => k nx ls (kI r3 :: st) G μ
  | .ldc2_w _ => k nx ls (kL r3 :: st) G μ
  | .getstatic _ => if r1 = 0 then k nx ls (kR r2 :: st) G μ else k nx ls (kI r3 :: st) G μ
  | .getfield _ => match st with
    | .inr (.inr a) :: st => if r1 = 8 then (if a = 105 then (if r2 = 1 then k nx ls (kR 106 :: st) G μ else k nx ls (kI 0 :: st) G μ) else dead) else if G.1 a = (1, r1) then (if r2 = 1 then (if G.2.2 a r3 = 0 then dead else k nx ls (kR (G.2.2 a r3) :: st) G μ) else k nx ls (kI (μ a r3) :: st) G μ) else dead
    | _ => dead
  | .putfield _ => match st with
    | .inl v :: .inr (.inr a) :: st => if G.1 a = (1, r1) ∧ (r2 = 0 ∨ r2 = 2 ∧ (v = 0 ∨ v = 1)) then k nx ls st G (kx_up μ a r3 v) else dead
    | .inr (.inr v) :: .inr (.inr a) :: st => if G.1 a = (1, r1) ∧ r2 = 1 ∧ v ≠ 0 then k nx ls st (G.1, G.2.1, kx_upr G.2.2 a r3 v) μ else dead
    | _ => dead
  | .iaload => match st with
    | .inl i :: .inr (.inr a) :: st => if ((G.1 a).1 = 2 ∨ (G.1 a).1 = 7) ∧ 0 ≤ i ∧ i < (G.1 a).2 then k nx ls (kI (μ a i) :: st) G μ else dead
    | _ => dead
  | .laload => match st with
    | .inl i :: .inr (.inr a) :: st => if (G.1 a).1 = 3 ∧ 0 ≤ i ∧ i < (G.1 a).2 then k nx ls (kL (μ a i) :: st) G μ else dead
    | _ => dead
  | .baload => match st with
    | .inl i :: .inr (.inr a) :: st => if (G.1 a).1 = 4 ∧ 0 ≤ i ∧ i < (G.1 a).2 then k nx ls (kI (μ a i) :: st) G μ else if a = 106 ∧ 0 ≤ i ∧ i < 5 then k nx ls (kI (μ 106 i) :: st) G μ else dead
    | _ => dead
  | .aaload => match st with
    | .inl i :: .inr (.inr a) :: st => if ((G.1 a).1 = 5 ∨ (G.1 a).1 = 6) ∧ 0 ≤ i ∧ i < (G.1 a).2 ∧ G.2.2 a i ≠ 0 then k nx ls (kR (G.2.2 a i) :: st) G μ else dead
    | _ => dead
  | .iastore => match st with
    | .inl v :: .inl i :: .inr (.inr a) :: st => if (G.1 a).1 = 2 ∧ 0 ≤ i ∧ i < (G.1 a).2 then k nx ls st G (kx_up μ a i v) else dead
    | _ => dead
  | .lastore => match st with
    | .inr (.inl v) :: .inl i :: .inr (.inr a) :: st => if (G.1 a).1 = 3 ∧ 0 ≤ i ∧ i < (G.1 a).2 then k nx ls st G (kx_up μ a i v) else dead
    | _ => dead
  | .bastore => match st with
    | .inl v :: .inl i :: .inr (.inr a) :: st => if (G.1 a).1 = 4 ∧ 0 ≤ i ∧ i < (G.1 a).2 ∧ (v = 0 ∨ v = 1) then k nx ls st G (kx_up μ a i v) else dead
    | _ => dead
  | .aastore => match st with
    | .inr (.inr v) :: .inl i :: .inr (.inr a) :: st => if ((G.1 a).1 = 5 ∧ G.1 v = (1, 3) ∨ (G.1 a).1 = 6 ∧ G.1 v = (1, 5)) ∧ 0 ≤ i ∧ i < (G.1 a).2 ∧ v ≠ 0 then k nx ls st (G.1, G.2.1, kx_upr G.2.2 a i v) μ else dead
    | _ => dead
  | .newarray _ => match st with
    | .inl n :: st => if 0 ≤ n ∧ n ≤ 5000 then k nx ls (kR G.2.1 :: st) (kx_new G (r1, n.toNat)) (kx_zero μ G.2.1) else dead
    | _ => dead
  | .anewarray _ => match st with
    | .inl n :: st => if 0 ≤ n ∧ n ≤ 5000 then k nx ls (kR G.2.1 :: st) (kx_new G (r1, n.toNat)) (kx_zero μ G.2.1) else dead
    | _ => dead
  | .new _ => k nx ls (kR G.2.1 :: st) (kx_new G (1, r1)) (kx_zero μ G.2.1)
  | .arraylength => match st with
    | .inr (.inr a) :: st => if (G.1 a).1 = 2 ∨ (G.1 a).1 = 7 ∧ a = 104 then k nx ls (kI (G.1 a).2 :: st) G μ else if a = 106 then k nx ls (kI 5 :: st) G μ else dead
    | _ => dead
  | .dup => match st with
    | .inl x :: st => k nx ls (kI x :: kI x :: st) G μ
    | .inr (.inr x) :: st => k nx ls (kR x :: kR x :: st) G μ
    | _ => dead
  | .dup2 => match st with
    | .inl y :: .inr (.inr x) :: st => k nx ls (kI y :: kR x :: kI y :: kR x :: st) G μ
    | _ => dead
  | .pop => match st with
    | .inl _ :: st => k nx ls st G μ
    | _ => dead
  | .iadd => match st with
    | .inl b :: .inl a :: st => k nx ls (kI (a + b) :: st) G μ
    | _ => dead
  | .isub => match st with
    | .inl b :: .inl a :: st => k nx ls (kI (a - b) :: st) G μ
    | _ => dead
  | .imul => match st with
    | .inl b :: .inl a :: st => k nx ls (kI (a * b) :: st) G μ
    | _ => dead
  | .idiv => match st with
    | .inl b :: .inl a :: st => if kx_in a ∧ kx_in b ∧ b ≠ 0 then k nx ls (kI (a.tdiv b) :: st) G μ else dead
    | _ => dead
  | .irem => match st with
    | .inl b :: .inl a :: st => if kx_in a ∧ kx_in b ∧ b ≠ 0 then k nx ls (kI (a.tmod b) :: st) G μ else dead
    | _ => dead
  | .ineg => match st with
    | .inl a :: st => k nx ls (kI (-a) :: st) G μ
    | _ => dead
  | .iand => match st with
    | .inl b :: .inl a :: st => k nx ls (kI (kx_and a b) :: st) G μ
    | _ => dead
  | .ior => match st with
    | .inl b :: .inl a :: st => k nx ls (kI (kx_or a b) :: st) G μ
    | _ => dead
  | .ixor => match st with
    | .inl b :: .inl a :: st => k nx ls (kI (kx_xor a b) :: st) G μ
    | _ => dead
  | .ishl => match st with
    | .inl b :: .inl a :: st => if 0 ≤ b ∧ b < 32 then k nx ls (kI (a * 2 ^ b.toNat) :: st) G μ else dead
    | _ => dead
  | .ishr => match st with
    | .inl b :: .inl a :: st => if 0 ≤ b ∧ b < 32 then k nx ls (kI (a.bmod 4294967296 / 2 ^ b.toNat) :: st) G μ else dead
    | _ => dead
  | .iushr => match st with
    | .inl b :: .inl a :: st => if 0 ≤ b ∧ b < 32 ∧ 0 ≤ a ∧ a ≤ 2147483647 then k nx ls (kI (a / 2 ^ b.toNat) :: st) G μ else dead
    | _ => dead
  | .ladd => match st with
    | .inr (.inl b) :: .inr (.inl a) :: st => k nx ls (kL (a + b) :: st) G μ
    | _ => dead
  | .lsub => match st with
    | .inr (.inl b) :: .inr (.inl a) :: st => k nx ls (kL (a - b) :: st) G μ
    | _ => dead
  | .lor => match st with
    | .inr (.inl b) :: .inr (.inl a) :: st => k nx ls (kL (kx_lor a b) :: st) G μ
    | _ => dead
  | .lshl => match st with
    | .inl b :: .inr (.inl a) :: st => if 0 ≤ b ∧ b < 64 then k nx ls (kL (a * 2 ^ b.toNat) :: st) G μ else dead
    | _ => dead
  | .lcmp => match st with
    | .inr (.inl b) :: .inr (.inl a) :: st => if kx_inL a ∧ kx_inL b then (if a < b then k nx ls (kI (-1) :: st) G μ else if a = b then k nx ls (kI 0 :: st) G μ else k nx ls (kI 1 :: st) G μ) else dead
    | _ => dead
  | .i2l => match st with
    | .inl a :: st => if kx_in a then k nx ls (kL a :: st) G μ else dead
    | _ => dead
  | .i2b => match st with
    | .inl a :: st => k nx ls (kI (a.bmod 256) :: st) G μ
    | _ => dead
  | .i2s => match st with
    | .inl a :: st => k nx ls (kI (a.bmod 65536) :: st) G μ
    | _ => dead
  | .i2c => match st with
    | .inl a :: st => k nx ls (kI (a % 65536) :: st) G μ
    | _ => dead
  | .ifCond c _ => match st with
    | .inl a :: st => if kx_in a then kx_br c a 0 (k r1 ls st G μ) (k nx ls st G μ) else dead
    | _ => dead
  | .if_icmp c _ => match st with
    | .inl b :: .inl a :: st => if kx_in a ∧ kx_in b then kx_br c a b (k r1 ls st G μ) (k nx ls st G μ) else dead
    | _ => dead
  | .goto _ => k r1 ls st G μ
  | .tableswitch _ _ _ _ => match st with
    | .inl x :: st => if kx_in x then kx_sw x r3 (fun t => k t ls st G μ) r1 tg else dead
    | _ => dead
  | .lookupswitch _ _ => match st with
    | .inl x :: st => if kx_in x then kx_sw x r3 (fun t => k t ls st G μ) r1 tg else dead
    | _ => dead
  | .ireturn => match st with
    | [.inl x] => if r1 = 0 ∨ x = 0 ∨ x = 1 then ret (some (kI x)) G μ else dead
    | _ => dead
  | .lreturn => match st with
    | [.inr (.inl x)] => ret (some (kL x)) G μ
    | _ => dead
  | .return_ => match st with
    | [] => ret none G μ
    | _ => dead
  | .invokestatic _ => if r3 = 2 then (match st with
      | .inl n :: .inl dp :: .inr (.inr d) :: .inl sp :: .inr (.inr s) :: st => if 91 ≤ G.2.1 ∧ (G.1 s).1 = 2 ∧ (G.1 d).1 = 2 ∧ 0 ≤ sp ∧ 0 ≤ dp ∧ 0 ≤ n ∧ sp + n ≤ (G.1 s).2 ∧ dp + n ≤ (G.1 d).2 ∧ kx_cats st ≤ 8 then k nx ls st G (kx_cpy μ s sp d dp n) else dead
      | _ => dead) else if r2 ≤ st.length ∧ kx_cats (st.drop r2) ≤ 8 then call r1 (st.take r2).reverse G μ nx ls (st.drop r2) else dead
  | .invokespecial _ => if r3 = 1 then (match st with
      | .inr (.inr _) :: st => if kx_cats st ≤ 8 then k nx ls st G μ else dead
      | _ => dead) else match (st.take r2).reverse with
      | .inr (.inr o) :: as => if r2 ≤ st.length ∧ kx_cats (st.drop r2) ≤ 8 then call r1 (.inr (.inr o) :: as) G μ nx ls (st.drop r2) else dead
      | _ => dead
  | .invokevirtual _ => match (st.take r2).reverse with
      | .inr (.inr o) :: as => if (if tg.headD 0 = 8 then o = 105 else G.1 o = (1, tg.headD 0)) ∧ r2 ≤ st.length ∧ kx_cats (st.drop r2) ≤ 8 then call r1 (.inr (.inr o) :: as) G μ nx ls (st.drop r2) else dead
      | _ => dead
  | _ => dead
def kx_st (tb : Nat → kx_E) (dead : α) (k : Nat → kx_L → List kx_V → kx_G → kx_M → α) (ret : Option kx_V → kx_G → kx_M → α) (call : Nat → List kx_V → kx_G → kx_M → Nat → kx_L → List kx_V → α) (pc : Nat) (ls : kx_L) (st : List kx_V) (G : kx_G) (μ : kx_M) : α :=
  match tb pc with
  | (i, nx, r1, r2, r3, tg) => kx_do i nx r1 r2 r3 tg dead k ret call ls st G μ
end KX
/-- what a run of a method's code from a place on comes to -/
def kx_run (E : Nat → List kx_V → kx_G → kx_M → Option kx_V → kx_G → kx_M → Prop) (tb : Nat → kx_E) (v : Option kx_V) (G' : kx_G) (μ' : kx_M) : Nat → Nat → kx_L → List kx_V → kx_G → kx_M → Prop
  | 0, _, _, _, _, _ => False
  | n + 1, pc, ls, st, G, μ => kx_st tb False (kx_run E tb v G' μ' n) (fun v1 G1 μ1 => v1 = v ∧ G1 = G' ∧ μ1 = μ')
      (fun m as G1 μ1 pc' ls' rest => ∃ (v1 : Option kx_V) (G2 : kx_G) (μ2 : kx_M), E m as G1 μ1 v1 G2 μ2 ∧ kx_run E tb v G' μ' n pc' ls' (v1.toList ++ rest) G2 μ2) pc ls st G μ
/-- method m of the table of methods, called with these, returns that: calls within calls at most d deep -/
def kx_ev (tbs : Nat → Nat → kx_E) (mls : Nat → Nat) : Nat → Nat → List kx_V → kx_G → kx_M → Option kx_V → kx_G → kx_M → Prop
  | 0 => fun _ _ _ _ _ _ _ => False
  | d + 1 => fun m as G μ v G' μ' => (kx_ent as).length ≤ mls m ∧ ∃ n, kx_run (kx_ev tbs mls d) (tbs m) v G' μ' n 0 (kx_pad (kx_ent as) (mls m)) [] G μ
end
section
section KW
/-- where one instruction goes, as a thing -/
abbrev kx_Lf : Type := (Nat × kx_L × List kx_V × kx_G × kx_M) ⊕ ((Option kx_V × kx_G × kx_M) ⊕ (Nat × List kx_V × kx_G × kx_M × Nat × kx_L × List kx_V))
def kx_lf (tb : Nat → kx_E) (pc : Nat) (ls : kx_L) (st : List kx_V) (G : kx_G) (μ : kx_M) : Option kx_Lf :=
  kx_st tb none (fun pc ls st G μ => some (.inl (pc, ls, st, G, μ))) (fun v G μ => some (.inr (.inl (v, G, μ)))) (fun m as G μ pc ls rest => some (.inr (.inr (m, as, G, μ, pc, ls, rest)))) pc ls st G μ
theorem kx_br_nat {α β : Type} (h : α → β) (c : Jvm.ClassFile.Cond) (a b : Int) (t f : α) : h (kx_br c a b t f) = kx_br c a b (h t) (h f) := by
  cases c <;> simp only [kx_br] <;> split <;> rfl
theorem kx_sw_nat {α β : Type} (h : α → β) (x : Int) (f : Nat → α) (d : Nat) : ∀ (ts : List Nat) (lo : Int), h (kx_sw x lo f d ts) = kx_sw x lo (fun t => h (f t)) d ts := by
  intro ts
  induction ts with
  | nil => intro lo; rfl
  | cons t ts ih => intro lo; simp only [kx_sw]; split <;> first | rfl | exact ih _
theorem kx_load_nat {α β : Type} (h : α → β) (w : Nat) (dead : α) (k : kx_V → α) (ls : kx_L) (i : Nat) : h (kx_load w dead k ls i) = kx_load w (h dead) (fun v => h (k v)) ls i := by
  unfold kx_load
  split <;> first | rfl | (split <;> rfl)
set_option maxHeartbeats 4000000 in
theorem kx_do_nat {α β : Type} (h : α → β) (i : Instr) (nx r1 r2 : Nat) (r3 : Int) (tg : List Nat) (dead : α) (k : Nat → kx_L → List kx_V → kx_G → kx_M → α) (ret : Option kx_V → kx_G → kx_M → α) (call : Nat → List kx_V → kx_G → kx_M → Nat → kx_L → List kx_V → α) (ls : kx_L) (st : List kx_V) (G : kx_G) (μ : kx_M) :
    h (kx_do i nx r1 r2 r3 tg dead k ret call ls st G μ) = kx_do i nx r1 r2 r3 tg (h dead) (fun pc ls st G μ => h (k pc ls st G μ)) (fun v G μ => h (ret v G μ)) (fun m as G μ pc ls rest => h (call m as G μ pc ls rest)) ls st G μ := by
  cases i <;> simp only [kx_do] <;> first
    | rfl
    | exact kx_load_nat h _ _ _ _ _
    | (repeat' (first | rfl | exact kx_br_nat h _ _ _ _ _ | exact kx_sw_nat h _ _ _ _ _ | split))
theorem kx_st_nat {α β : Type} (h : α → β) (tb : Nat → kx_E) (dead : α) (k : Nat → kx_L → List kx_V → kx_G → kx_M → α) (ret : Option kx_V → kx_G → kx_M → α) (call : Nat → List kx_V → kx_G → kx_M → Nat → kx_L → List kx_V → α) (pc : Nat) (ls : kx_L) (st : List kx_V) (G : kx_G) (μ : kx_M) :
    h (kx_st tb dead k ret call pc ls st G μ) = kx_st tb (h dead) (fun pc ls st G μ => h (k pc ls st G μ)) (fun v G μ => h (ret v G μ)) (fun m as G μ pc ls rest => h (call m as G μ pc ls rest)) pc ls st G μ := by
  unfold kx_st
  exact kx_do_nat h _ _ _ _ _ _ _ _ _ _ _ _ _ _
/-- one instruction, by the thing that it is -/
theorem kx_st_lf (tb : Nat → kx_E) (K : Nat → kx_L → List kx_V → kx_G → kx_M → Prop) (R : Option kx_V → kx_G → kx_M → Prop) (C : Nat → List kx_V → kx_G → kx_M → Nat → kx_L → List kx_V → Prop) (pc : Nat) (ls : kx_L) (st : List kx_V) (G : kx_G) (μ : kx_M) :
    kx_st tb False K R C pc ls st G μ = (match kx_lf tb pc ls st G μ with
      | some (.inl (pc, ls, st, G, μ)) => K pc ls st G μ
      | some (.inr (.inl (v, G, μ))) => R v G μ
      | some (.inr (.inr (m, as, G, μ, pc, ls, rest))) => C m as G μ pc ls rest
      | none => False) := by
  unfold kx_lf
  exact (kx_st_nat (fun o : Option kx_Lf => match o with
      | some (.inl (pc, ls, st, G, μ)) => K pc ls st G μ
      | some (.inr (.inl (v, G, μ))) => R v G μ
      | some (.inr (.inr (m, as, G, μ, pc, ls, rest))) => C m as G μ pc ls rest
      | none => False) tb none (fun pc ls st G μ => some (.inl (pc, ls, st, G, μ))) (fun v G μ => some (.inr (.inl (v, G, μ)))) (fun m as G μ pc ls rest => some (.inr (.inr (m, as, G, μ, pc, ls, rest)))) pc ls st G μ).symm
variable {E : Nat → List kx_V → kx_G → kx_M → Option kx_V → kx_G → kx_M → Prop}
def kx_wx (E : Nat → List kx_V → kx_G → kx_M → Option kx_V → kx_G → kx_M → Prop) (tb : Nat → kx_E) (Q : Option kx_V → kx_G → kx_M → Prop) (pc : Nat) (ls : kx_L) (st : List kx_V) (G : kx_G) (μ : kx_M) : Prop :=
  ∃ (n : Nat) (v : Option kx_V) (G' : kx_G) (μ' : kx_M), kx_run E tb v G' μ' n pc ls st G μ ∧ Q v G' μ'
def kx_cx (E : Nat → List kx_V → kx_G → kx_M → Option kx_V → kx_G → kx_M → Prop) (m : Nat) (as : List kx_V) (G : kx_G) (μ : kx_M) (Q : Option kx_V → kx_G → kx_M → Prop) : Prop :=
  ∃ (v : Option kx_V) (G' : kx_G) (μ' : kx_M), E m as G μ v G' μ' ∧ Q v G' μ'
theorem kx_cx_mono {m : Nat} {as : List kx_V} {G : kx_G} {μ : kx_M} {Q Q' : Option kx_V → kx_G → kx_M → Prop} (h : kx_cx E m as G μ Q) (hq : ∀ v G' μ', Q v G' μ' → Q' v G' μ') : kx_cx E m as G μ Q' := by
  obtain ⟨v, G', μ', h1, h2⟩ := h
  exact ⟨v, G', μ', h1, hq _ _ _ h2⟩
theorem kx_wx_mono {tb : Nat → kx_E} {Q Q' : Option kx_V → kx_G → kx_M → Prop} {pc : Nat} {ls : kx_L} {st : List kx_V} {G : kx_G} {μ : kx_M} (h : kx_wx E tb Q pc ls st G μ) (hq : ∀ v G' μ', Q v G' μ' → Q' v G' μ') : kx_wx E tb Q' pc ls st G μ := by
  obtain ⟨n, v, G', μ', h1, h2⟩ := h
  exact ⟨n, v, G', μ', h1, hq _ _ _ h2⟩
/-- one instruction -/
theorem kx_wx_step {tb : Nat → kx_E} {Q : Option kx_V → kx_G → kx_M → Prop} {pc : Nat} {ls : kx_L} {st : List kx_V} {G : kx_G} {μ : kx_M}
    (h : kx_st tb False (kx_wx E tb Q) Q (fun m as G μ pc' ls' rest => kx_cx E m as G μ (fun v G' μ' => kx_wx E tb Q pc' ls' (v.toList ++ rest) G' μ')) pc ls st G μ) : kx_wx E tb Q pc ls st G μ := by
  rw [kx_st_lf] at h
  have key : ∀ (n : Nat) (v : Option kx_V) (G' : kx_G) (μ' : kx_M), kx_run E tb v G' μ' (n + 1) pc ls st G μ = _ := fun n v G' μ' => (kx_st_lf tb (kx_run E tb v G' μ' n) (fun v1 G1 μ1 => v1 = v ∧ G1 = G' ∧ μ1 = μ') (fun m as G1 μ1 pc' ls' rest => ∃ (v1 : Option kx_V) (G2 : kx_G) (μ2 : kx_M), E m as G1 μ1 v1 G2 μ2 ∧ kx_run E tb v G' μ' n pc' ls' (v1.toList ++ rest) G2 μ2) pc ls st G μ)
  cases hl : kx_lf tb pc ls st G μ with
  | none => rw [hl] at h; exact h.elim
  | some x =>
    rw [hl] at h
    match x, hl, h with
    | .inl (pc1, ls1, st1, G1, μ1), hl, h =>
      obtain ⟨n, v, G', μ', h1, h2⟩ := h
      refine ⟨n + 1, v, G', μ', ?_, h2⟩
      rw [key, hl]; exact h1
    | .inr (.inl (v, G1, μ1)), hl, h =>
      refine ⟨1, v, G1, μ1, ?_, h⟩
      rw [key, hl]; exact ⟨rfl, rfl, rfl⟩
    | .inr (.inr (m, as, G1, μ1, pc1, ls1, rest)), hl, h =>
      obtain ⟨v1, G2, μ2, h1, n, v, G', μ', h2, h3⟩ := h
      refine ⟨n + 1, v, G', μ', ?_, h3⟩
      rw [key, hl]; exact ⟨v1, G2, μ2, h1, h2⟩
/-- many instructions, up to places named, calls, and returns -/
def kx_cut (E : Nat → List kx_V → kx_G → kx_M → Option kx_V → kx_G → kx_M → Prop) (tb : Nat → kx_E) (Q : Option kx_V → kx_G → kx_M → Prop) (stops : List Nat) : Nat → Nat → kx_L → List kx_V → kx_G → kx_M → Prop
  | 0, pc, ls, st, G, μ => kx_wx E tb Q pc ls st G μ
  | n + 1, pc, ls, st, G, μ => kx_st tb False (fun pc ls st G μ => if pc ∈ stops then kx_wx E tb Q pc ls st G μ else kx_cut E tb Q stops n pc ls st G μ) Q (fun m as G μ pc' ls' rest => kx_cx E m as G μ (fun v G' μ' => kx_wx E tb Q pc' ls' (v.toList ++ rest) G' μ')) pc ls st G μ
theorem kx_wx_cut {tb : Nat → kx_E} {Q : Option kx_V → kx_G → kx_M → Prop} (stops : List Nat) : ∀ (n : Nat) {pc : Nat} {ls : kx_L} {st : List kx_V} {G : kx_G} {μ : kx_M}, kx_cut E tb Q stops n pc ls st G μ → kx_wx E tb Q pc ls st G μ := by
  intro n
  induction n with
  | zero => intro pc ls st G μ h; exact h
  | succ n ih =>
    intro pc ls st G μ h
    refine kx_wx_step ?_
    unfold kx_cut at h
    rw [kx_st_lf] at h ⊢
    cases hl : kx_lf tb pc ls st G μ with
    | none => rw [hl] at h; exact h
    | some x =>
      rw [hl] at h
      match x, hl, h with
      | .inl (pc1, ls1, st1, G1, μ1), hl, h =>
        by_cases hs : pc1 ∈ stops
        · simp only [hs, if_true] at h; exact h
        · simp only [hs, if_false] at h; exact ih h
      | .inr (.inl (v, G1, μ1)), hl, h => exact h
      | .inr (.inr (m, as, G1, μ1, pc1, ls1, rest)), hl, h => exact h
theorem kx_iteF {c A : Prop} [Decidable c] : (if c then A else False) = (c ∧ A) := by
  by_cases h : c <;> simp [h]
theorem kx_iteB {c A B : Prop} [Decidable c] : (if c then A else B) = ((c → A) ∧ (¬ c → B)) := by
  by_cases h : c <;> simp [h]
end KW
end
section
def kx_nl (o : Option kx_V) : Bool := match o with
  | some (.inr (.inl _)) => false
  | _ => true
theorem kx_get_nl {ls : kx_L} {j : Nat} (h : kx_nl (kx_get ls j) = true) (i : Nat) (hi : i = j + 1) : kx_clr ls i = ls := by
  subst hi
  simp only [kx_clr]
  split
  · rename_i q; rw [q] at h; simp [kx_nl] at h
  · rfl
theorem kx_set1_nl {ls : kx_L} {j : Nat} {v : kx_V} (h : kx_nl (kx_get ls j) = true) : kx_set1 ls (j + 1) v = kx_put ls (j + 1) (some v) := by
  unfold kx_set1
  rw [kx_get_nl h _ rfl]
theorem kx_set2_nl {ls : kx_L} {j : Nat} {v : kx_V} (h : kx_nl (kx_get ls j) = true) : kx_set2 ls (j + 1) v = kx_put (kx_put ls (j + 1) (some v)) (j + 1 + 1) none := by
  unfold kx_set2
  rw [kx_get_nl h _ rfl]
section KS
variable {E : Nat → List kx_V → kx_G → kx_M → Option kx_V → kx_G → kx_M → Prop} {tb : Nat → kx_E} {Q : Option kx_V → kx_G → kx_M → Prop} {pc nx r1 r2 : Nat} {r3 : Int} {tg : List Nat} {ls : kx_L} {st : List kx_V} {G : kx_G} {μ : kx_M}
theorem ks_iload_n {i : Fin 4} {x : Int} (ht : tb pc = (.iload_n i, nx, r1, r2, r3, tg)) (hg : kx_get ls r1 = some (kI x)) (h : kx_wx E tb Q nx ls (kI x :: st) G μ) : kx_wx E tb Q pc ls st G μ := by
  refine kx_wx_step ?_
  unfold kx_st
  rw [ht]
  simp only [kx_do, kx_load, hg]; exact h
theorem ks_iload {i : Nat} {x : Int} (ht : tb pc = (.iload i, nx, r1, r2, r3, tg)) (hg : kx_get ls r1 = some (kI x)) (h : kx_wx E tb Q nx ls (kI x :: st) G μ) : kx_wx E tb Q pc ls st G μ := by
  refine kx_wx_step ?_
  unfold kx_st
  rw [ht]
  simp only [kx_do, kx_load, hg]; exact h
theorem ks_lload_n {i : Fin 4} {x : Int} (ht : tb pc = (.lload_n i, nx, r1, r2, r3, tg)) (hg : kx_get ls r1 = some (kL x)) (h : kx_wx E tb Q nx ls (kL x :: st) G μ) : kx_wx E tb Q pc ls st G μ := by
  refine kx_wx_step ?_
  unfold kx_st
  rw [ht]
  simp only [kx_do, kx_load, hg]; exact h
theorem ks_lload {i : Nat} {x : Int} (ht : tb pc = (.lload i, nx, r1, r2, r3, tg)) (hg : kx_get ls r1 = some (kL x)) (h : kx_wx E tb Q nx ls (kL x :: st) G μ) : kx_wx E tb Q pc ls st G μ := by
  refine kx_wx_step ?_
  unfold kx_st
  rw [ht]
  simp only [kx_do, kx_load, hg]; exact h
theorem ks_aload_n {i : Fin 4} {x : Nat} (ht : tb pc = (.aload_n i, nx, r1, r2, r3, tg)) (hg : kx_get ls r1 = some (kR x)) (h : kx_wx E tb Q nx ls (kR x :: st) G μ) : kx_wx E tb Q pc ls st G μ := by
  refine kx_wx_step ?_
  unfold kx_st
  rw [ht]
  simp only [kx_do, kx_load, hg]; exact h
theorem ks_aload {i : Nat} {x : Nat} (ht : tb pc = (.aload i, nx, r1, r2, r3, tg)) (hg : kx_get ls r1 = some (kR x)) (h : kx_wx E tb Q nx ls (kR x :: st) G μ) : kx_wx E tb Q pc ls st G μ := by
  refine kx_wx_step ?_
  unfold kx_st
  rw [ht]
  simp only [kx_do, kx_load, hg]; exact h
theorem ks_istore_n_0 {i : Fin 4} {x : Int} {l : kx_L} {o : Option kx_V} (ht : tb pc = (.istore_n i, nx, 0, r2, r3, tg)) (h : kx_wx E tb Q nx (some (kI x) :: l) st G μ) : kx_wx E tb Q pc (o :: l) (kI x :: st) G μ := by
  refine kx_wx_step ?_
  unfold kx_st
  rw [ht]
  exact h
theorem ks_istore_n_1 {i : Fin 4} {x : Int} {l : kx_L} {o a0 : Option kx_V} (ht : tb pc = (.istore_n i, nx, 1, r2, r3, tg)) (hn : kx_nl a0 = true) (h : kx_wx E tb Q nx (a0 :: some (kI x) :: l) st G μ) : kx_wx E tb Q pc (a0 :: o :: l) (kI x :: st) G μ := by
  refine kx_wx_step ?_
  unfold kx_st
  rw [ht]
  simp only [kx_do]
  rw [kx_set1_nl (by exact hn)]
  exact h
theorem ks_istore_n_2 {i : Fin 4} {x : Int} {l : kx_L} {o a0 a1 : Option kx_V} (ht : tb pc = (.istore_n i, nx, 2, r2, r3, tg)) (hn : kx_nl a1 = true) (h : kx_wx E tb Q nx (a0 :: a1 :: some (kI x) :: l) st G μ) : kx_wx E tb Q pc (a0 :: a1 :: o :: l) (kI x :: st) G μ := by
  refine kx_wx_step ?_
  unfold kx_st
  rw [ht]
  simp only [kx_do]
  rw [kx_set1_nl (by exact hn)]
  exact h
theorem ks_istore_n_3 {i : Fin 4} {x : Int} {l : kx_L} {o a0 a1 a2 : Option kx_V} (ht : tb pc = (.istore_n i, nx, 3, r2, r3, tg)) (hn : kx_nl a2 = true) (h : kx_wx E tb Q nx (a0 :: a1 :: a2 :: some (kI x) :: l) st G μ) : kx_wx E tb Q pc (a0 :: a1 :: a2 :: o :: l) (kI x :: st) G μ := by
  refine kx_wx_step ?_
  unfold kx_st
  rw [ht]
  simp only [kx_do]
  rw [kx_set1_nl (by exact hn)]
  exact h
theorem ks_istore_4 {i : Nat} {x : Int} {l : kx_L} {o a0 a1 a2 a3 : Option kx_V} (ht : tb pc = (.istore i, nx, 4, r2, r3, tg)) (hn : kx_nl a3 = true) (h : kx_wx E tb Q nx (a0 :: a1 :: a2 :: a3 :: some (kI x) :: l) st G μ) : kx_wx E tb Q pc (a0 :: a1 :: a2 :: a3 :: o :: l) (kI x :: st) G μ := by
  refine kx_wx_step ?_
  unfold kx_st
  rw [ht]
  simp only [kx_do]
  rw [kx_set1_nl (by exact hn)]
  exact h
theorem ks_istore_5 {i : Nat} {x : Int} {l : kx_L} {o a0 a1 a2 a3 a4 : Option kx_V} (ht : tb pc = (.istore i, nx, 5, r2, r3, tg)) (hn : kx_nl a4 = true) (h : kx_wx E tb Q nx (a0 :: a1 :: a2 :: a3 :: a4 :: some (kI x) :: l) st G μ) : kx_wx E tb Q pc (a0 :: a1 :: a2 :: a3 :: a4 :: o :: l) (kI x :: st) G μ := by
  refine kx_wx_step ?_
  unfold kx_st
  rw [ht]
  simp only [kx_do]
  rw [kx_set1_nl (by exact hn)]
  exact h
theorem ks_istore_6 {i : Nat} {x : Int} {l : kx_L} {o a0 a1 a2 a3 a4 a5 : Option kx_V} (ht : tb pc = (.istore i, nx, 6, r2, r3, tg)) (hn : kx_nl a5 = true) (h : kx_wx E tb Q nx (a0 :: a1 :: a2 :: a3 :: a4 :: a5 :: some (kI x) :: l) st G μ) : kx_wx E tb Q pc (a0 :: a1 :: a2 :: a3 :: a4 :: a5 :: o :: l) (kI x :: st) G μ := by
  refine kx_wx_step ?_
  unfold kx_st
  rw [ht]
  simp only [kx_do]
  rw [kx_set1_nl (by exact hn)]
  exact h
theorem ks_istore_7 {i : Nat} {x : Int} {l : kx_L} {o a0 a1 a2 a3 a4 a5 a6 : Option kx_V} (ht : tb pc = (.istore i, nx, 7, r2, r3, tg)) (hn : kx_nl a6 = true) (h : kx_wx E tb Q nx (a0 :: a1 :: a2 :: a3 :: a4 :: a5 :: a6 :: some (kI x) :: l) st G μ) : kx_wx E tb Q pc (a0 :: a1 :: a2 :: a3 :: a4 :: a5 :: a6 :: o :: l) (kI x :: st) G μ := by
  refine kx_wx_step ?_
  unfold kx_st
  rw [ht]
  simp only [kx_do]
  rw [kx_set1_nl (by exact hn)]
  exact h
theorem ks_istore_8 {i : Nat} {x : Int} {l : kx_L} {o a0 a1 a2 a3 a4 a5 a6 a7 : Option kx_V} (ht : tb pc = (.istore i, nx, 8, r2, r3, tg)) (hn : kx_nl a7 = true) (h : kx_wx E tb Q nx (a0 :: a1 :: a2 :: a3 :: a4 :: a5 :: a6 :: a7 :: some (kI x) :: l) st G μ) : kx_wx E tb Q pc (a0 :: a1 :: a2 :: a3 :: a4 :: a5 :: a6 :: a7 :: o :: l) (kI x :: st) G μ := by
  refine kx_wx_step ?_
  unfold kx_st
  rw [ht]
  simp only [kx_do]
  rw [kx_set1_nl (by exact hn)]
  exact h
theorem ks_istore_9 {i : Nat} {x : Int} {l : kx_L} {o a0 a1 a2 a3 a4 a5 a6 a7 a8 : Option kx_V} (ht : tb pc = (.istore i, nx, 9, r2, r3, tg)) (hn : kx_nl a8 = true) (h : kx_wx E tb Q nx (a0 :: a1 :: a2 :: a3 :: a4 :: a5 :: a6 :: a7 :: a8 :: some (kI x) :: l) st G μ) : kx_wx E tb Q pc (a0 :: a1 :: a2 :: a3 :: a4 :: a5 :: a6 :: a7 :: a8 :: o :: l) (kI x :: st) G μ := by
  refine kx_wx_step ?_
  unfold kx_st
  rw [ht]
  simp only [kx_do]
  rw [kx_set1_nl (by exact hn)]
  exact h
theorem ks_istore_10 {i : Nat} {x : Int} {l : kx_L} {o a0 a1 a2 a3 a4 a5 a6 a7 a8 a9 : Option kx_V} (ht : tb pc = (.istore i, nx, 10, r2, r3, tg)) (hn : kx_nl a9 = true) (h : kx_wx E tb Q nx (a0 :: a1 :: a2 :: a3 :: a4 :: a5 :: a6 :: a7 :: a8 :: a9 :: some (kI x) :: l) st G μ) : kx_wx E tb Q pc (a0 :: a1 :: a2 :: a3 :: a4 :: a5 :: a6 :: a7 :: a8 :: a9 :: o :: l) (kI x :: st) G μ := by
  refine kx_wx_step ?_
  unfold kx_st
  rw [ht]
  simp only [kx_do]
  rw [kx_set1_nl (by exact hn)]
  exact h
theorem ks_istore_11 {i : Nat} {x : Int} {l : kx_L} {o a0 a1 a2 a3 a4 a5 a6 a7 a8 a9 a10 : Option kx_V} (ht : tb pc = (.istore i, nx, 11, r2, r3, tg)) (hn : kx_nl a10 = true) (h : kx_wx E tb Q nx (a0 :: a1 :: a2 :: a3 :: a4 :: a5 :: a6 :: a7 :: a8 :: a9 :: a10 :: some (kI x) :: l) st G μ) : kx_wx E tb Q pc (a0 :: a1 :: a2 :: a3 :: a4 :: a5 :: a6 :: a7 :: a8 :: a9 :: a10 :: o :: l) (kI x :: st) G μ := by
  refine kx_wx_step ?_
  unfold kx_st
  rw [ht]
  simp only [kx_do]
  rw [kx_set1_nl (by exact hn)]
  exact h
theorem ks_istore_12 {i : Nat} {x : Int} {l : kx_L} {o a0 a1 a2 a3 a4 a5 a6 a7 a8 a9 a10 a11 : Option kx_V} (ht : tb pc = (.istore i, nx, 12, r2, r3, tg)) (hn : kx_nl a11 = true) (h : kx_wx E tb Q nx (a0 :: a1 :: a2 :: a3 :: a4 :: a5 :: a6 :: a7 :: a8 :: a9 :: a10 :: a11 :: some (kI x) :: l) st G μ) : kx_wx E tb Q pc (a0 :: a1 :: a2 :: a3 :: a4 :: a5 :: a6 :: a7 :: a8 :: a9 :: a10 :: a11 :: o :: l) (kI x :: st) G μ := by
  refine kx_wx_step ?_
  unfold kx_st
  rw [ht]
  simp only [kx_do]
  rw [kx_set1_nl (by exact hn)]
  exact h
theorem ks_istore_13 {i : Nat} {x : Int} {l : kx_L} {o a0 a1 a2 a3 a4 a5 a6 a7 a8 a9 a10 a11 a12 : Option kx_V} (ht : tb pc = (.istore i, nx, 13, r2, r3, tg)) (hn : kx_nl a12 = true) (h : kx_wx E tb Q nx (a0 :: a1 :: a2 :: a3 :: a4 :: a5 :: a6 :: a7 :: a8 :: a9 :: a10 :: a11 :: a12 :: some (kI x) :: l) st G μ) : kx_wx E tb Q pc (a0 :: a1 :: a2 :: a3 :: a4 :: a5 :: a6 :: a7 :: a8 :: a9 :: a10 :: a11 :: a12 :: o :: l) (kI x :: st) G μ := by
  refine kx_wx_step ?_
  unfold kx_st
  rw [ht]
  simp only [kx_do]
  rw [kx_set1_nl (by exact hn)]
  exact h
theorem ks_astore_n_0 {i : Fin 4} {x : Nat} {l : kx_L} {o : Option kx_V} (ht : tb pc = (.astore_n i, nx, 0, r2, r3, tg)) (h : kx_wx E tb Q nx (some (kR x) :: l) st G μ) : kx_wx E tb Q pc (o :: l) (kR x :: st) G μ := by
  refine kx_wx_step ?_
  unfold kx_st
  rw [ht]
  exact h
theorem ks_astore_n_1 {i : Fin 4} {x : Nat} {l : kx_L} {o a0 : Option kx_V} (ht : tb pc = (.astore_n i, nx, 1, r2, r3, tg)) (hn : kx_nl a0 = true) (h : kx_wx E tb Q nx (a0 :: some (kR x) :: l) st G μ) : kx_wx E tb Q pc (a0 :: o :: l) (kR x :: st) G μ := by
  refine kx_wx_step ?_
  unfold kx_st
  rw [ht]
  simp only [kx_do]
  rw [kx_set1_nl (by exact hn)]
  exact h
theorem ks_astore_n_2 {i : Fin 4} {x : Nat} {l : kx_L} {o a0 a1 : Option kx_V} (ht : tb pc = (.astore_n i, nx, 2, r2, r3, tg)) (hn : kx_nl a1 = true) (h : kx_wx E tb Q nx (a0 :: a1 :: some (kR x) :: l) st G μ) : kx_wx E tb Q pc (a0 :: a1 :: o :: l) (kR x :: st) G μ := by
  refine kx_wx_step ?_
  unfold kx_st
  rw [ht]
  simp only [kx_do]
  rw [kx_set1_nl (by exact hn)]
  exact h
theorem ks_astore_n_3 {i : Fin 4} {x : Nat} {l : kx_L} {o a0 a1 a2 : Option kx_V} (ht : tb pc = (.astore_n i, nx, 3, r2, r3, tg)) (hn : kx_nl a2 = true) (h : kx_wx E tb Q nx (a0 :: a1 :: a2 :: some (kR x) :: l) st G μ) : kx_wx E tb Q pc (a0 :: a1 :: a2 :: o :: l) (kR x :: st) G μ := by
  refine kx_wx_step ?_
  unfold kx_st
  rw [ht]
  simp only [kx_do]
  rw [kx_set1_nl (by exact hn)]
  exact h
theorem ks_astore_4 {i : Nat} {x : Nat} {l : kx_L} {o a0 a1 a2 a3 : Option kx_V} (ht : tb pc = (.astore i, nx, 4, r2, r3, tg)) (hn : kx_nl a3 = true) (h : kx_wx E tb Q nx (a0 :: a1 :: a2 :: a3 :: some (kR x) :: l) st G μ) : kx_wx E tb Q pc (a0 :: a1 :: a2 :: a3 :: o :: l) (kR x :: st) G μ := by
  refine kx_wx_step ?_
  unfold kx_st
  rw [ht]
  simp only [kx_do]
  rw [kx_set1_nl (by exact hn)]
  exact h
theorem ks_astore_5 {i : Nat} {x : Nat} {l : kx_L} {o a0 a1 a2 a3 a4 : Option kx_V} (ht : tb pc = (.astore i, nx, 5, r2, r3, tg)) (hn : kx_nl a4 = true) (h : kx_wx E tb Q nx (a0 :: a1 :: a2 :: a3 :: a4 :: some (kR x) :: l) st G μ) : kx_wx E tb Q pc (a0 :: a1 :: a2 :: a3 :: a4 :: o :: l) (kR x :: st) G μ := by
  refine kx_wx_step ?_
  unfold kx_st
  rw [ht]
  simp only [kx_do]
  rw [kx_set1_nl (by exact hn)]
  exact h
theorem ks_astore_6 {i : Nat} {x : Nat} {l : kx_L} {o a0 a1 a2 a3 a4 a5 : Option kx_V} (ht : tb pc = (.astore i, nx, 6, r2, r3, tg)) (hn : kx_nl a5 = true) (h : kx_wx E tb Q nx (a0 :: a1 :: a2 :: a3 :: a4 :: a5 :: some (kR x) :: l) st G μ) : kx_wx E tb Q pc (a0 :: a1 :: a2 :: a3 :: a4 :: a5 :: o :: l) (kR x :: st) G μ := by
  refine kx_wx_step ?_
  unfold kx_st
  rw [ht]
  simp only [kx_do]
  rw [kx_set1_nl (by exact hn)]
  exact h
theorem ks_astore_7 {i : Nat} {x : Nat} {l : kx_L} {o a0 a1 a2 a3 a4 a5 a6 : Option kx_V} (ht : tb pc = (.astore i, nx, 7, r2, r3, tg)) (hn : kx_nl a6 = true) (h : kx_wx E tb Q nx (a0 :: a1 :: a2 :: a3 :: a4 :: a5 :: a6 :: some (kR x) :: l) st G μ) : kx_wx E tb Q pc (a0 :: a1 :: a2 :: a3 :: a4 :: a5 :: a6 :: o :: l) (kR x :: st) G μ := by
  refine kx_wx_step ?_
  unfold kx_st
  rw [ht]
  simp only [kx_do]
  rw [kx_set1_nl (by exact hn)]
  exact h
theorem ks_astore_8 {i : Nat} {x : Nat} {l : kx_L} {o a0 a1 a2 a3 a4 a5 a6 a7 : Option kx_V} (ht : tb pc = (.astore i, nx, 8, r2, r3, tg)) (hn : kx_nl a7 = true) (h : kx_wx E tb Q nx (a0 :: a1 :: a2 :: a3 :: a4 :: a5 :: a6 :: a7 :: some (kR x) :: l) st G μ) : kx_wx E tb Q pc (a0 :: a1 :: a2 :: a3 :: a4 :: a5 :: a6 :: a7 :: o :: l) (kR x :: st) G μ := by
  refine kx_wx_step ?_
  unfold kx_st
  rw [ht]
  simp only [kx_do]
  rw [kx_set1_nl (by exact hn)]
  exact h
theorem ks_astore_9 {i : Nat} {x : Nat} {l : kx_L} {o a0 a1 a2 a3 a4 a5 a6 a7 a8 : Option kx_V} (ht : tb pc = (.astore i, nx, 9, r2, r3, tg)) (hn : kx_nl a8 = true) (h : kx_wx E tb Q nx (a0 :: a1 :: a2 :: a3 :: a4 :: a5 :: a6 :: a7 :: a8 :: some (kR x) :: l) st G μ) : kx_wx E tb Q pc (a0 :: a1 :: a2 :: a3 :: a4 :: a5 :: a6 :: a7 :: a8 :: o :: l) (kR x :: st) G μ := by
  refine kx_wx_step ?_
  unfold kx_st
  rw [ht]
  simp only [kx_do]
  rw [kx_set1_nl (by exact hn)]
  exact h
theorem ks_astore_10 {i : Nat} {x : Nat} {l : kx_L} {o a0 a1 a2 a3 a4 a5 a6 a7 a8 a9 : Option kx_V} (ht : tb pc = (.astore i, nx, 10, r2, r3, tg)) (hn : kx_nl a9 = true) (h : kx_wx E tb Q nx (a0 :: a1 :: a2 :: a3 :: a4 :: a5 :: a6 :: a7 :: a8 :: a9 :: some (kR x) :: l) st G μ) : kx_wx E tb Q pc (a0 :: a1 :: a2 :: a3 :: a4 :: a5 :: a6 :: a7 :: a8 :: a9 :: o :: l) (kR x :: st) G μ := by
  refine kx_wx_step ?_
  unfold kx_st
  rw [ht]
  simp only [kx_do]
  rw [kx_set1_nl (by exact hn)]
  exact h
theorem ks_astore_11 {i : Nat} {x : Nat} {l : kx_L} {o a0 a1 a2 a3 a4 a5 a6 a7 a8 a9 a10 : Option kx_V} (ht : tb pc = (.astore i, nx, 11, r2, r3, tg)) (hn : kx_nl a10 = true) (h : kx_wx E tb Q nx (a0 :: a1 :: a2 :: a3 :: a4 :: a5 :: a6 :: a7 :: a8 :: a9 :: a10 :: some (kR x) :: l) st G μ) : kx_wx E tb Q pc (a0 :: a1 :: a2 :: a3 :: a4 :: a5 :: a6 :: a7 :: a8 :: a9 :: a10 :: o :: l) (kR x :: st) G μ := by
  refine kx_wx_step ?_
  unfold kx_st
  rw [ht]
  simp only [kx_do]
  rw [kx_set1_nl (by exact hn)]
  exact h
theorem ks_astore_12 {i : Nat} {x : Nat} {l : kx_L} {o a0 a1 a2 a3 a4 a5 a6 a7 a8 a9 a10 a11 : Option kx_V} (ht : tb pc = (.astore i, nx, 12, r2, r3, tg)) (hn : kx_nl a11 = true) (h : kx_wx E tb Q nx (a0 :: a1 :: a2 :: a3 :: a4 :: a5 :: a6 :: a7 :: a8 :: a9 :: a10 :: a11 :: some (kR x) :: l) st G μ) : kx_wx E tb Q pc (a0 :: a1 :: a2 :: a3 :: a4 :: a5 :: a6 :: a7 :: a8 :: a9 :: a10 :: a11 :: o :: l) (kR x :: st) G μ := by
  refine kx_wx_step ?_
  unfold kx_st
  rw [ht]
  simp only [kx_do]
  rw [kx_set1_nl (by exact hn)]
  exact h
theorem ks_astore_13 {i : Nat} {x : Nat} {l : kx_L} {o a0 a1 a2 a3 a4 a5 a6 a7 a8 a9 a10 a11 a12 : Option kx_V} (ht : tb pc = (.astore i, nx, 13, r2, r3, tg)) (hn : kx_nl a12 = true) (h : kx_wx E tb Q nx (a0 :: a1 :: a2 :: a3 :: a4 :: a5 :: a6 :: a7 :: a8 :: a9 :: a10 :: a11 :: a12 :: some (kR x) :: l) st G μ) : kx_wx E tb Q pc (a0 :: a1 :: a2 :: a3 :: a4 :: a5 :: a6 :: a7 :: a8 :: a9 :: a10 :: a11 :: a12 :: o :: l) (kR x :: st) G μ := by
  refine kx_wx_step ?_
  unfold kx_st
  rw [ht]
  simp only [kx_do]
  rw [kx_set1_nl (by exact hn)]
  exact h
theorem ks_iinc_0 {i : Nat} {c : Int} {x : Int} {l : kx_L} (ht : tb pc = (.iinc i c, nx, 0, r2, r3, tg)) (h : kx_wx E tb Q nx (some (kI (x + r3)) :: l) st G μ) : kx_wx E tb Q pc (some (kI x) :: l) st G μ := by
  refine kx_wx_step ?_
  unfold kx_st
  rw [ht]
  simp only [kx_do, kx_get]
  exact h
theorem ks_iinc_1 {i : Nat} {c : Int} {x : Int} {l : kx_L} {a0 : Option kx_V} (ht : tb pc = (.iinc i c, nx, 1, r2, r3, tg)) (hn : kx_nl a0 = true) (h : kx_wx E tb Q nx (a0 :: some (kI (x + r3)) :: l) st G μ) : kx_wx E tb Q pc (a0 :: some (kI x) :: l) st G μ := by
  refine kx_wx_step ?_
  unfold kx_st
  rw [ht]
  simp only [kx_do, kx_get]
  rw [kx_set1_nl (by exact hn)]
  exact h
theorem ks_iinc_2 {i : Nat} {c : Int} {x : Int} {l : kx_L} {a0 a1 : Option kx_V} (ht : tb pc = (.iinc i c, nx, 2, r2, r3, tg)) (hn : kx_nl a1 = true) (h : kx_wx E tb Q nx (a0 :: a1 :: some (kI (x + r3)) :: l) st G μ) : kx_wx E tb Q pc (a0 :: a1 :: some (kI x) :: l) st G μ := by
  refine kx_wx_step ?_
  unfold kx_st
  rw [ht]
  simp only [kx_do, kx_get]
  rw [kx_set1_nl (by exact hn)]
  exact h
theorem ks_iinc_3 {i : Nat} {c : Int} {x : Int} {l : kx_L} {a0 a1 a2 : Option kx_V} (ht : tb pc = (.iinc i c, nx, 3, r2, r3, tg)) (hn : kx_nl a2 = true) (h : kx_wx E tb Q nx (a0 :: a1 :: a2 :: some (kI (x + r3)) :: l) st G μ) : kx_wx E tb Q pc (a0 :: a1 :: a2 :: some (kI x) :: l) st G μ := by
  refine kx_wx_step ?_
  unfold kx_st
  rw [ht]
  simp only [kx_do, kx_get]
  rw [kx_set1_nl (by exact hn)]
  exact h
theorem ks_iinc_4 {i : Nat} {c : Int} {x : Int} {l : kx_L} {a0 a1 a2 a3 : Option kx_V} (ht : tb pc = (.iinc i c, nx, 4, r2, r3, tg)) (hn : kx_nl a3 = true) (h : kx_wx E tb Q nx (a0 :: a1 :: a2 :: a3 :: some (kI (x + r3)) :: l) st G μ) : kx_wx E tb Q pc (a0 :: a1 :: a2 :: a3 :: some (kI x) :: l) st G μ := by
  refine kx_wx_step ?_
  unfold kx_st
  rw [ht]
  simp only [kx_do, kx_get]
  rw [kx_set1_nl (by exact hn)]
  exact h
theorem ks_iinc_5 {i : Nat} {c : Int} {x : Int} {l : kx_L} {a0 a1 a2 a3 a4 : Option kx_V} (ht : tb pc = (.iinc i c, nx, 5, r2, r3, tg)) (hn : kx_nl a4 = true) (h : kx_wx E tb Q nx (a0 :: a1 :: a2 :: a3 :: a4 :: some (kI (x + r3)) :: l) st G μ) : kx_wx E tb Q pc (a0 :: a1 :: a2 :: a3 :: a4 :: some (kI x) :: l) st G μ := by
  refine kx_wx_step ?_
  unfold kx_st
  rw [ht]
  simp only [kx_do, kx_get]
  rw [kx_set1_nl (by exact hn)]
  exact h
theorem ks_iinc_6 {i : Nat} {c : Int} {x : Int} {l : kx_L} {a0 a1 a2 a3 a4 a5 : Option kx_V} (ht : tb pc = (.iinc i c, nx, 6, r2, r3, tg)) (hn : kx_nl a5 = true) (h : kx_wx E tb Q nx (a0 :: a1 :: a2 :: a3 :: a4 :: a5 :: some (kI (x + r3)) :: l) st G μ) : kx_wx E tb Q pc (a0 :: a1 :: a2 :: a3 :: a4 :: a5 :: some (kI x) :: l) st G μ := by
  refine kx_wx_step ?_
  unfold kx_st
  rw [ht]
  simp only [kx_do, kx_get]
  rw [kx_set1_nl (by exact hn)]
  exact h
theorem ks_iinc_7 {i : Nat} {c : Int} {x : Int} {l : kx_L} {a0 a1 a2 a3 a4 a5 a6 : Option kx_V} (ht : tb pc = (.iinc i c, nx, 7, r2, r3, tg)) (hn : kx_nl a6 = true) (h : kx_wx E tb Q nx (a0 :: a1 :: a2 :: a3 :: a4 :: a5 :: a6 :: some (kI (x + r3)) :: l) st G μ) : kx_wx E tb Q pc (a0 :: a1 :: a2 :: a3 :: a4 :: a5 :: a6 :: some (kI x) :: l) st G μ := by
  refine kx_wx_step ?_
  unfold kx_st
  rw [ht]
  simp only [kx_do, kx_get]
  rw [kx_set1_nl (by exact hn)]
  exact h
theorem ks_iinc_8 {i : Nat} {c : Int} {x : Int} {l : kx_L} {a0 a1 a2 a3 a4 a5 a6 a7 : Option kx_V} (ht : tb pc = (.iinc i c, nx, 8, r2, r3, tg)) (hn : kx_nl a7 = true) (h : kx_wx E tb Q nx (a0 :: a1 :: a2 :: a3 :: a4 :: a5 :: a6 :: a7 :: some (kI (x + r3)) :: l) st G μ) : kx_wx E tb Q pc (a0 :: a1 :: a2 :: a3 :: a4 :: a5 :: a6 :: a7 :: some (kI x) :: l) st G μ := by
  refine kx_wx_step ?_
  unfold kx_st
  rw [ht]
  simp only [kx_do, kx_get]
  rw [kx_set1_nl (by exact hn)]
  exact h
theorem ks_iinc_9 {i : Nat} {c : Int} {x : Int} {l : kx_L} {a0 a1 a2 a3 a4 a5 a6 a7 a8 : Option kx_V} (ht : tb pc = (.iinc i c, nx, 9, r2, r3, tg)) (hn : kx_nl a8 = true) (h : kx_wx E tb Q nx (a0 :: a1 :: a2 :: a3 :: a4 :: a5 :: a6 :: a7 :: a8 :: some (kI (x + r3)) :: l) st G μ) : kx_wx E tb Q pc (a0 :: a1 :: a2 :: a3 :: a4 :: a5 :: a6 :: a7 :: a8 :: some (kI x) :: l) st G μ := by
  refine kx_wx_step ?_
  unfold kx_st
  rw [ht]
  simp only [kx_do, kx_get]
  rw [kx_set1_nl (by exact hn)]
  exact h
theorem ks_iinc_10 {i : Nat} {c : Int} {x : Int} {l : kx_L} {a0 a1 a2 a3 a4 a5 a6 a7 a8 a9 : Option kx_V} (ht : tb pc = (.iinc i c, nx, 10, r2, r3, tg)) (hn : kx_nl a9 = true) (h : kx_wx E tb Q nx (a0 :: a1 :: a2 :: a3 :: a4 :: a5 :: a6 :: a7 :: a8 :: a9 :: some (kI (x + r3)) :: l) st G μ) : kx_wx E tb Q pc (a0 :: a1 :: a2 :: a3 :: a4 :: a5 :: a6 :: a7 :: a8 :: a9 :: some (kI x) :: l) st G μ := by
  refine kx_wx_step ?_
  unfold kx_st
  rw [ht]
  simp only [kx_do, kx_get]
  rw [kx_set1_nl (by exact hn)]
  exact h
theorem ks_iinc_11 {i : Nat} {c : Int} {x : Int} {l : kx_L} {a0 a1 a2 a3 a4 a5 a6 a7 a8 a9 a10 : Option kx_V} (ht : tb pc = (.iinc i c, nx, 11, r2, r3, tg)) (hn : kx_nl a10 = true) (h : kx_wx E tb Q nx (a0 :: a1 :: a2 :: a3 :: a4 :: a5 :: a6 :: a7 :: a8 :: a9 :: a10 :: some (kI (x + r3)) :: l) st G μ) : kx_wx E tb Q pc (a0 :: a1 :: a2 :: a3 :: a4 :: a5 :: a6 :: a7 :: a8 :: a9 :: a10 :: some (kI x) :: l) st G μ := by
  refine kx_wx_step ?_
  unfold kx_st
  rw [ht]
  simp only [kx_do, kx_get]
  rw [kx_set1_nl (by exact hn)]
  exact h
theorem ks_iinc_12 {i : Nat} {c : Int} {x : Int} {l : kx_L} {a0 a1 a2 a3 a4 a5 a6 a7 a8 a9 a10 a11 : Option kx_V} (ht : tb pc = (.iinc i c, nx, 12, r2, r3, tg)) (hn : kx_nl a11 = true) (h : kx_wx E tb Q nx (a0 :: a1 :: a2 :: a3 :: a4 :: a5 :: a6 :: a7 :: a8 :: a9 :: a10 :: a11 :: some (kI (x + r3)) :: l) st G μ) : kx_wx E tb Q pc (a0 :: a1 :: a2 :: a3 :: a4 :: a5 :: a6 :: a7 :: a8 :: a9 :: a10 :: a11 :: some (kI x) :: l) st G μ := by
  refine kx_wx_step ?_
  unfold kx_st
  rw [ht]
  simp only [kx_do, kx_get]
  rw [kx_set1_nl (by exact hn)]
  exact h
theorem ks_iinc_13 {i : Nat} {c : Int} {x : Int} {l : kx_L} {a0 a1 a2 a3 a4 a5 a6 a7 a8 a9 a10 a11 a12 : Option kx_V} (ht : tb pc = (.iinc i c, nx, 13, r2, r3, tg)) (hn : kx_nl a12 = true) (h : kx_wx E tb Q nx (a0 :: a1 :: a2 :: a3 :: a4 :: a5 :: a6 :: a7 :: a8 :: a9 :: a10 :: a11 :: a12 :: some (kI (x + r3)) :: l) st G μ) : kx_wx E tb Q pc (a0 :: a1 :: a2 :: a3 :: a4 :: a5 :: a6 :: a7 :: a8 :: a9 :: a10 :: a11 :: a12 :: some (kI x) :: l) st G μ := by
  refine kx_wx_step ?_
  unfold kx_st
  rw [ht]
  simp only [kx_do, kx_get]
  rw [kx_set1_nl (by exact hn)]
  exact h
theorem ks_lstore_n_0 {i : Fin 4} {x : Int} {l : kx_L} {o o1 : Option kx_V} (ht : tb pc = (.lstore_n i, nx, 0, r2, r3, tg)) (h : kx_wx E tb Q nx (some (kL x) :: none :: l) st G μ) : kx_wx E tb Q pc (o :: o1 :: l) (kL x :: st) G μ := by
  refine kx_wx_step ?_
  unfold kx_st
  rw [ht]
  exact h
theorem ks_lstore_n_1 {i : Fin 4} {x : Int} {l : kx_L} {o o1 a0 : Option kx_V} (ht : tb pc = (.lstore_n i, nx, 1, r2, r3, tg)) (hn : kx_nl a0 = true) (h : kx_wx E tb Q nx (a0 :: some (kL x) :: none :: l) st G μ) : kx_wx E tb Q pc (a0 :: o :: o1 :: l) (kL x :: st) G μ := by
  refine kx_wx_step ?_
  unfold kx_st
  rw [ht]
  simp only [kx_do]
  rw [kx_set2_nl (by exact hn)]
  exact h
theorem ks_lstore_n_2 {i : Fin 4} {x : Int} {l : kx_L} {o o1 a0 a1 : Option kx_V} (ht : tb pc = (.lstore_n i, nx, 2, r2, r3, tg)) (hn : kx_nl a1 = true) (h : kx_wx E tb Q nx (a0 :: a1 :: some (kL x) :: none :: l) st G μ) : kx_wx E tb Q pc (a0 :: a1 :: o :: o1 :: l) (kL x :: st) G μ := by
  refine kx_wx_step ?_
  unfold kx_st
  rw [ht]
  simp only [kx_do]
  rw [kx_set2_nl (by exact hn)]
  exact h
theorem ks_lstore_n_3 {i : Fin 4} {x : Int} {l : kx_L} {o o1 a0 a1 a2 : Option kx_V} (ht : tb pc = (.lstore_n i, nx, 3, r2, r3, tg)) (hn : kx_nl a2 = true) (h : kx_wx E tb Q nx (a0 :: a1 :: a2 :: some (kL x) :: none :: l) st G μ) : kx_wx E tb Q pc (a0 :: a1 :: a2 :: o :: o1 :: l) (kL x :: st) G μ := by
  refine kx_wx_step ?_
  unfold kx_st
  rw [ht]
  simp only [kx_do]
  rw [kx_set2_nl (by exact hn)]
  exact h
theorem ks_iconst {i : Int} (ht : tb pc = (.iconst i, nx, r1, r2, r3, tg)) (h : kx_wx E tb Q nx ls (kI r3 :: st) G μ) : kx_wx E tb Q pc ls st G μ := by
  refine kx_wx_step ?_
  unfold kx_st
  rw [ht]
  exact h
theorem ks_bipush {i : Int} (ht : tb pc = (.bipush i, nx, r1, r2, r3, tg)) (h : kx_wx E tb Q nx ls (kI r3 :: st) G μ) : kx_wx E tb Q pc ls st G μ := by
  refine kx_wx_step ?_
  unfold kx_st
  rw [ht]
  exact h
theorem ks_sipush {i : Int} (ht : tb pc = (.sipush i, nx, r1, r2, r3, tg)) (h : kx_wx E tb Q nx ls (kI r3 :: st) G μ) : kx_wx E tb Q pc ls st G μ := by
  refine kx_wx_step ?_
  unfold kx_st
  rw [ht]
  exact h
theorem ks_lconst {i : Fin 2} (ht : tb pc = (.lconst i, nx, r1, r2, r3, tg)) (h : kx_wx E tb Q nx ls (kL r3 :: st) G μ) : kx_wx E tb Q pc ls st G μ := by
  refine kx_wx_step ?_
  unfold kx_st
  rw [ht]
  exact h
theorem ks_ldc_w {i : Nat} (ht : tb pc = (.ldc_w i, nx, r1, r2, r3, tg)) (h : kx_wx E tb Q nx ls (kI r3 :: st) G μ) : kx_wx E tb Q pc ls st G μ := by
  refine kx_wx_step ?_
  unfold kx_st
  rw [ht]
  exact h
theorem ks_ldc2_w {i : Nat} (ht : tb pc = (.ldc2_w i, nx, r1, r2, r3, tg)) (h : kx_wx E tb Q nx ls (kL r3 :: st) G μ) : kx_wx E tb Q pc ls st G μ := by
  refine kx_wx_step ?_
  unfold kx_st
  rw [ht]
  exact h
theorem ks_getstatic {i : Nat} (ht : tb pc = (.getstatic i, nx, 0, r2, r3, tg)) (h : kx_wx E tb Q nx ls (kR r2 :: st) G μ) : kx_wx E tb Q pc ls st G μ := by
  refine kx_wx_step ?_
  unfold kx_st
  rw [ht]
  simp only [kx_do, if_true]; exact h
theorem ks_getstaticI {i : Nat} (ht : tb pc = (.getstatic i, nx, 1, r2, r3, tg)) (h : kx_wx E tb Q nx ls (kI r3 :: st) G μ) : kx_wx E tb Q pc ls st G μ := by
  refine kx_wx_step ?_
  unfold kx_st
  rw [ht]
  simp only [kx_do]; exact h
theorem ks_getSr {i : Nat} (ht : tb pc = (.getfield i, nx, 8, 1, r3, tg)) (h : kx_wx E tb Q nx ls (kR 106 :: st) G μ) : kx_wx E tb Q pc ls (kR 105 :: st) G μ := by
  refine kx_wx_step ?_
  unfold kx_st
  rw [ht]
  simp only [kx_do, if_true]; exact h
theorem ks_getSi {i : Nat} (ht : tb pc = (.getfield i, nx, 8, 0, r3, tg)) (h : kx_wx E tb Q nx ls (kI 0 :: st) G μ) : kx_wx E tb Q pc ls (kR 105 :: st) G μ := by
  refine kx_wx_step ?_
  unfold kx_st
  rw [ht]
  simp only [kx_do, if_true]; exact h
theorem ks_ldc {i : Nat} (ht : tb pc = (.ldc i, nx, 0, r2, r3, tg)) (h : kx_wx E tb Q nx ls (kI r3 :: st) G μ) : kx_wx E tb Q pc ls st G μ := by
  refine kx_wx_step ?_
  unfold kx_st
  rw [ht]
  simp only [kx_do, if_true]; exact h
theorem ks_ldcS {i : Nat} (ht : tb pc = (.ldc i, nx, 1, r2, r3, tg)) (h : kx_wx E tb Q nx ls (kR r2 :: st) G μ) : kx_wx E tb Q pc ls st G μ := by
  refine kx_wx_step ?_
  unfold kx_st
  rw [ht]
  simp only [kx_do]; exact h
theorem ks_getr {i a b : Nat} (ht : tb pc = (.getfield i, nx, r1, 1, r3, tg)) (h8 : (r1 == 8) = false) (hs : G.1 a = (1, r1)) (hr : G.2.2 a r3 = b) (hb : b ≠ 0) (h : kx_wx E tb Q nx ls (kR b :: st) G μ) : kx_wx E tb Q pc ls (kR a :: st) G μ := by
  refine kx_wx_step ?_
  unfold kx_st
  rw [ht]
  simp only [kx_do]
  rw [if_neg (by simpa using h8), if_pos hs, if_pos trivial, hr, if_neg hb]; exact h
theorem ks_geti {i a : Nat} {v : Int} (ht : tb pc = (.getfield i, nx, r1, r2, r3, tg)) (h8 : (r1 == 8) = false) (hs : G.1 a = (1, r1)) (hr : (r2 == 1) = false) (hv : μ a r3 = v) (h : kx_wx E tb Q nx ls (kI v :: st) G μ) : kx_wx E tb Q pc ls (kR a :: st) G μ := by
  refine kx_wx_step ?_
  unfold kx_st
  rw [ht]
  simp only [kx_do]
  rw [if_neg (by simpa using h8), if_pos hs, if_neg (by simpa using hr), hv]; exact h
theorem ks_puti {i a : Nat} {v : Int} (ht : tb pc = (.putfield i, nx, r1, 0, r3, tg)) (hs : G.1 a = (1, r1)) (h : kx_wx E tb Q nx ls st G (kx_up μ a r3 v)) : kx_wx E tb Q pc ls (kI v :: kR a :: st) G μ := by
  refine kx_wx_step ?_
  unfold kx_st
  rw [ht]
  simp only [kx_do]
  rw [if_pos ⟨hs, Or.inl trivial⟩]; exact h
theorem ks_putz {i a : Nat} {v : Int} (ht : tb pc = (.putfield i, nx, r1, 2, r3, tg)) (hs : G.1 a = (1, r1)) (hz : v = 0 ∨ v = 1) (h : kx_wx E tb Q nx ls st G (kx_up μ a r3 v)) : kx_wx E tb Q pc ls (kI v :: kR a :: st) G μ := by
  refine kx_wx_step ?_
  unfold kx_st
  rw [ht]
  simp only [kx_do]
  rw [if_pos ⟨hs, Or.inr ⟨trivial, hz⟩⟩]; exact h
theorem ks_iaload {a n : Nat} {i v : Int} (ht : tb pc = (.iaload, nx, r1, r2, r3, tg)) (hs : G.1 a = (2, n)) (h0 : 0 ≤ i) (h1 : i < n) (hv : μ a i = v) (h : kx_wx E tb Q nx ls (kI v :: st) G μ) : kx_wx E tb Q pc ls (kI i :: kR a :: st) G μ := by
  refine kx_wx_step ?_
  unfold kx_st
  rw [ht]
  simp only [kx_do]
  rw [if_pos ⟨Or.inl (by rw [hs]), h0, by rw [hs]; exact h1⟩, hv]; exact h
theorem ks_laload {a n : Nat} {i v : Int} (ht : tb pc = (.laload, nx, r1, r2, r3, tg)) (hs : G.1 a = (3, n)) (h0 : 0 ≤ i) (h1 : i < n) (hv : μ a i = v) (h : kx_wx E tb Q nx ls (kL v :: st) G μ) : kx_wx E tb Q pc ls (kI i :: kR a :: st) G μ := by
  refine kx_wx_step ?_
  unfold kx_st
  rw [ht]
  simp only [kx_do]
  rw [if_pos ⟨by rw [hs], h0, by rw [hs]; exact h1⟩, hv]; exact h
theorem ks_baload {a n : Nat} {i v : Int} (ht : tb pc = (.baload, nx, r1, r2, r3, tg)) (hs : G.1 a = (4, n)) (h0 : 0 ≤ i) (h1 : i < n) (hv : μ a i = v) (h : kx_wx E tb Q nx ls (kI v :: st) G μ) : kx_wx E tb Q pc ls (kI i :: kR a :: st) G μ := by
  refine kx_wx_step ?_
  unfold kx_st
  rw [ht]
  simp only [kx_do]
  rw [if_pos ⟨by rw [hs], h0, by rw [hs]; exact h1⟩, hv]; exact h
theorem ks_iaload7 {a n : Nat} {i v : Int} (ht : tb pc = (.iaload, nx, r1, r2, r3, tg)) (hs : G.1 a = (7, n)) (h0 : 0 ≤ i) (h1 : i < n) (hv : μ a i = v) (h : kx_wx E tb Q nx ls (kI v :: st) G μ) : kx_wx E tb Q pc ls (kI i :: kR a :: st) G μ := by
  refine kx_wx_step ?_
  unfold kx_st
  rw [ht]
  simp only [kx_do]
  rw [if_pos ⟨Or.inr (by rw [hs]), h0, by rw [hs]; exact h1⟩, hv]; exact h
theorem ks_baload10 {i v : Int} (ht : tb pc = (.baload, nx, r1, r2, r3, tg)) (hs : (G.1 106).1 ≠ 4) (h0 : 0 ≤ i) (h1 : i < 5) (hv : μ 106 i = v) (h : kx_wx E tb Q nx ls (kI v :: st) G μ) : kx_wx E tb Q pc ls (kI i :: kR 106 :: st) G μ := by
  refine kx_wx_step ?_
  unfold kx_st
  rw [ht]
  simp only [kx_do]
  rw [if_neg (fun q => hs q.1), if_pos ⟨trivial, h0, h1⟩, hv]; exact h
theorem ks_aaload {a n b k : Nat} {i : Int} (ht : tb pc = (.aaload, nx, r1, r2, r3, tg)) (hs : G.1 a = (k, n)) (hk : k = 5 ∨ k = 6) (h0 : 0 ≤ i) (h1 : i < n) (hr : G.2.2 a i = b) (hb : b ≠ 0) (h : kx_wx E tb Q nx ls (kR b :: st) G μ) : kx_wx E tb Q pc ls (kI i :: kR a :: st) G μ := by
  refine kx_wx_step ?_
  unfold kx_st
  rw [ht]
  simp only [kx_do]
  rw [if_pos ⟨by rw [hs]; exact hk, h0, by rw [hs]; exact h1, by rw [hr]; exact hb⟩, hr]; exact h
theorem ks_iastore {a n : Nat} {i v : Int} (ht : tb pc = (.iastore, nx, r1, r2, r3, tg)) (hs : G.1 a = (2, n)) (h0 : 0 ≤ i) (h1 : i < n) (h : kx_wx E tb Q nx ls st G (kx_up μ a i v)) : kx_wx E tb Q pc ls (kI v :: kI i :: kR a :: st) G μ := by
  refine kx_wx_step ?_
  unfold kx_st
  rw [ht]
  simp only [kx_do]
  rw [if_pos ⟨by rw [hs], h0, by rw [hs]; exact h1⟩]; exact h
theorem ks_lastore {a n : Nat} {i v : Int} (ht : tb pc = (.lastore, nx, r1, r2, r3, tg)) (hs : G.1 a = (3, n)) (h0 : 0 ≤ i) (h1 : i < n) (h : kx_wx E tb Q nx ls st G (kx_up μ a i v)) : kx_wx E tb Q pc ls (kL v :: kI i :: kR a :: st) G μ := by
  refine kx_wx_step ?_
  unfold kx_st
  rw [ht]
  simp only [kx_do]
  rw [if_pos ⟨by rw [hs], h0, by rw [hs]; exact h1⟩]; exact h
theorem ks_bastore {a n : Nat} {i v : Int} (ht : tb pc = (.bastore, nx, r1, r2, r3, tg)) (hs : G.1 a = (4, n)) (h0 : 0 ≤ i) (h1 : i < n) (hz : v = 0 ∨ v = 1) (h : kx_wx E tb Q nx ls st G (kx_up μ a i v)) : kx_wx E tb Q pc ls (kI v :: kI i :: kR a :: st) G μ := by
  refine kx_wx_step ?_
  unfold kx_st
  rw [ht]
  simp only [kx_do]
  rw [if_pos ⟨by rw [hs], h0, by rw [hs]; exact h1, hz⟩]; exact h
theorem ks_arraylength {a n : Nat} (ht : tb pc = (.arraylength, nx, r1, r2, r3, tg)) (hs : G.1 a = (2, n)) (h : kx_wx E tb Q nx ls (kI n :: st) G μ) : kx_wx E tb Q pc ls (kR a :: st) G μ := by
  refine kx_wx_step ?_
  unfold kx_st
  rw [ht]
  simp only [kx_do]
  rw [if_pos (Or.inl (by rw [hs])), hs]; exact h
theorem ks_arraylength7 {n : Nat} (ht : tb pc = (.arraylength, nx, r1, r2, r3, tg)) (hs : G.1 104 = (7, n)) (h : kx_wx E tb Q nx ls (kI n :: st) G μ) : kx_wx E tb Q pc ls (kR 104 :: st) G μ := by
  refine kx_wx_step ?_
  unfold kx_st
  rw [ht]
  simp only [kx_do]
  rw [if_pos (Or.inr ⟨by rw [hs], trivial⟩), hs]; exact h
theorem ks_arraylength10 (ht : tb pc = (.arraylength, nx, r1, r2, r3, tg)) (hs : (G.1 106).1 ≠ 2) (h : kx_wx E tb Q nx ls (kI 5 :: st) G μ) : kx_wx E tb Q pc ls (kR 106 :: st) G μ := by
  refine kx_wx_step ?_
  unfold kx_st
  rw [ht]
  simp only [kx_do]
  rw [if_neg (fun q => by rcases q with q | q; exact hs q; exact absurd q.2 (by decide)), if_pos trivial]; exact h
theorem ks_dup {x : Int} (ht : tb pc = (.dup, nx, r1, r2, r3, tg)) (h : kx_wx E tb Q nx ls (kI x :: kI x :: st) G μ) : kx_wx E tb Q pc ls (kI x :: st) G μ := by
  refine kx_wx_step ?_
  unfold kx_st
  rw [ht]
  exact h
theorem ks_dupR {x : Nat} (ht : tb pc = (.dup, nx, r1, r2, r3, tg)) (h : kx_wx E tb Q nx ls (kR x :: kR x :: st) G μ) : kx_wx E tb Q pc ls (kR x :: st) G μ := by
  refine kx_wx_step ?_
  unfold kx_st
  rw [ht]
  exact h
theorem ks_dup2 {y : Int} {x : Nat} (ht : tb pc = (.dup2, nx, r1, r2, r3, tg)) (h : kx_wx E tb Q nx ls (kI y :: kR x :: kI y :: kR x :: st) G μ) : kx_wx E tb Q pc ls (kI y :: kR x :: st) G μ := by
  refine kx_wx_step ?_
  unfold kx_st
  rw [ht]
  exact h
theorem ks_pop {x : Int} (ht : tb pc = (.pop, nx, r1, r2, r3, tg)) (h : kx_wx E tb Q nx ls st G μ) : kx_wx E tb Q pc ls (kI x :: st) G μ := by
  refine kx_wx_step ?_
  unfold kx_st
  rw [ht]
  exact h
theorem ks_iadd {a b : Int} (ht : tb pc = (.iadd, nx, r1, r2, r3, tg)) (h : kx_wx E tb Q nx ls (kI (a + b) :: st) G μ) : kx_wx E tb Q pc ls (kI b :: kI a :: st) G μ := by
  refine kx_wx_step ?_
  unfold kx_st
  rw [ht]
  exact h
theorem ks_isub {a b : Int} (ht : tb pc = (.isub, nx, r1, r2, r3, tg)) (h : kx_wx E tb Q nx ls (kI (a - b) :: st) G μ) : kx_wx E tb Q pc ls (kI b :: kI a :: st) G μ := by
  refine kx_wx_step ?_
  unfold kx_st
  rw [ht]
  exact h
theorem ks_imul {a b : Int} (ht : tb pc = (.imul, nx, r1, r2, r3, tg)) (h : kx_wx E tb Q nx ls (kI (a * b) :: st) G μ) : kx_wx E tb Q pc ls (kI b :: kI a :: st) G μ := by
  refine kx_wx_step ?_
  unfold kx_st
  rw [ht]
  exact h
theorem ks_iand {a b : Int} (ht : tb pc = (.iand, nx, r1, r2, r3, tg)) (h : kx_wx E tb Q nx ls (kI (kx_and a b) :: st) G μ) : kx_wx E tb Q pc ls (kI b :: kI a :: st) G μ := by
  refine kx_wx_step ?_
  unfold kx_st
  rw [ht]
  exact h
theorem ks_ior {a b : Int} (ht : tb pc = (.ior, nx, r1, r2, r3, tg)) (h : kx_wx E tb Q nx ls (kI (kx_or a b) :: st) G μ) : kx_wx E tb Q pc ls (kI b :: kI a :: st) G μ := by
  refine kx_wx_step ?_
  unfold kx_st
  rw [ht]
  exact h
theorem ks_ixor {a b : Int} (ht : tb pc = (.ixor, nx, r1, r2, r3, tg)) (h : kx_wx E tb Q nx ls (kI (kx_xor a b) :: st) G μ) : kx_wx E tb Q pc ls (kI b :: kI a :: st) G μ := by
  refine kx_wx_step ?_
  unfold kx_st
  rw [ht]
  exact h
theorem ks_ladd {a b : Int} (ht : tb pc = (.ladd, nx, r1, r2, r3, tg)) (h : kx_wx E tb Q nx ls (kL (a + b) :: st) G μ) : kx_wx E tb Q pc ls (kL b :: kL a :: st) G μ := by
  refine kx_wx_step ?_
  unfold kx_st
  rw [ht]
  exact h
theorem ks_lsub {a b : Int} (ht : tb pc = (.lsub, nx, r1, r2, r3, tg)) (h : kx_wx E tb Q nx ls (kL (a - b) :: st) G μ) : kx_wx E tb Q pc ls (kL b :: kL a :: st) G μ := by
  refine kx_wx_step ?_
  unfold kx_st
  rw [ht]
  exact h
theorem ks_lor {a b : Int} (ht : tb pc = (.lor, nx, r1, r2, r3, tg)) (h : kx_wx E tb Q nx ls (kL (kx_lor a b) :: st) G μ) : kx_wx E tb Q pc ls (kL b :: kL a :: st) G μ := by
  refine kx_wx_step ?_
  unfold kx_st
  rw [ht]
  exact h
theorem ks_idiv {a b : Int} (ht : tb pc = (.idiv, nx, r1, r2, r3, tg)) (ha : kx_in a) (hb : kx_in b) (hz : b ≠ 0) (h : kx_wx E tb Q nx ls (kI (a.tdiv b) :: st) G μ) : kx_wx E tb Q pc ls (kI b :: kI a :: st) G μ := by
  refine kx_wx_step ?_
  unfold kx_st
  rw [ht]
  simp only [kx_do]
  rw [if_pos ⟨ha, hb, hz⟩]; exact h
theorem ks_irem {a b : Int} (ht : tb pc = (.irem, nx, r1, r2, r3, tg)) (ha : kx_in a) (hb : kx_in b) (hz : b ≠ 0) (h : kx_wx E tb Q nx ls (kI (a.tmod b) :: st) G μ) : kx_wx E tb Q pc ls (kI b :: kI a :: st) G μ := by
  refine kx_wx_step ?_
  unfold kx_st
  rw [ht]
  simp only [kx_do]
  rw [if_pos ⟨ha, hb, hz⟩]; exact h
theorem ks_ineg {a : Int} (ht : tb pc = (.ineg, nx, r1, r2, r3, tg)) (h : kx_wx E tb Q nx ls (kI (-a) :: st) G μ) : kx_wx E tb Q pc ls (kI a :: st) G μ := by
  refine kx_wx_step ?_
  unfold kx_st
  rw [ht]
  exact h
theorem ks_ishl {a b : Int} (ht : tb pc = (.ishl, nx, r1, r2, r3, tg)) (h0 : 0 ≤ b) (h1 : b < 32) (h : kx_wx E tb Q nx ls (kI (a * 2 ^ b.toNat) :: st) G μ) : kx_wx E tb Q pc ls (kI b :: kI a :: st) G μ := by
  refine kx_wx_step ?_
  unfold kx_st
  rw [ht]
  simp only [kx_do]
  rw [if_pos ⟨h0, h1⟩]; exact h
theorem ks_ishr {a b : Int} (ht : tb pc = (.ishr, nx, r1, r2, r3, tg)) (h0 : 0 ≤ b) (h1 : b < 32) (h : kx_wx E tb Q nx ls (kI (a.bmod 4294967296 / 2 ^ b.toNat) :: st) G μ) : kx_wx E tb Q pc ls (kI b :: kI a :: st) G μ := by
  refine kx_wx_step ?_
  unfold kx_st
  rw [ht]
  simp only [kx_do]
  rw [if_pos ⟨h0, h1⟩]; exact h
theorem ks_iushr {a b : Int} (ht : tb pc = (.iushr, nx, r1, r2, r3, tg)) (h0 : 0 ≤ b) (h1 : b < 32) (h2 : 0 ≤ a) (h3 : a ≤ 2147483647) (h : kx_wx E tb Q nx ls (kI (a / 2 ^ b.toNat) :: st) G μ) : kx_wx E tb Q pc ls (kI b :: kI a :: st) G μ := by
  refine kx_wx_step ?_
  unfold kx_st
  rw [ht]
  simp only [kx_do]
  rw [if_pos ⟨h0, h1, h2, h3⟩]; exact h
theorem ks_lshl {a b : Int} (ht : tb pc = (.lshl, nx, r1, r2, r3, tg)) (h0 : 0 ≤ b) (h1 : b < 64) (h : kx_wx E tb Q nx ls (kL (a * 2 ^ b.toNat) :: st) G μ) : kx_wx E tb Q pc ls (kI b :: kL a :: st) G μ := by
  refine kx_wx_step ?_
  unfold kx_st
  rw [ht]
  simp only [kx_do]
  rw [if_pos ⟨h0, h1⟩]; exact h
theorem ks_lcmp {a b : Int} (ht : tb pc = (.lcmp, nx, r1, r2, r3, tg)) (ha : kx_inL a) (hb : kx_inL b) (h1 : a < b → kx_wx E tb Q nx ls (kI (-1) :: st) G μ) (h2 : a = b → kx_wx E tb Q nx ls (kI 0 :: st) G μ) (h3 : b < a → kx_wx E tb Q nx ls (kI 1 :: st) G μ) : kx_wx E tb Q pc ls (kL b :: kL a :: st) G μ := by
  refine kx_wx_step ?_
  unfold kx_st
  rw [ht]
  simp only [kx_do]
  rw [if_pos ⟨ha, hb⟩]
  split
  · exact h1 ‹_›
  · split
    · exact h2 ‹_›
    · exact h3 (by omega)
theorem ks_i2l {a : Int} (ht : tb pc = (.i2l, nx, r1, r2, r3, tg)) (ha : kx_in a) (h : kx_wx E tb Q nx ls (kL a :: st) G μ) : kx_wx E tb Q pc ls (kI a :: st) G μ := by
  refine kx_wx_step ?_
  unfold kx_st
  rw [ht]
  simp only [kx_do]
  rw [if_pos ha]; exact h
theorem ks_i2b {a : Int} (ht : tb pc = (.i2b, nx, r1, r2, r3, tg)) (h : kx_wx E tb Q nx ls (kI (a.bmod 256) :: st) G μ) : kx_wx E tb Q pc ls (kI a :: st) G μ := by
  refine kx_wx_step ?_
  unfold kx_st
  rw [ht]
  exact h
theorem ks_i2s {a : Int} (ht : tb pc = (.i2s, nx, r1, r2, r3, tg)) (h : kx_wx E tb Q nx ls (kI (a.bmod 65536) :: st) G μ) : kx_wx E tb Q pc ls (kI a :: st) G μ := by
  refine kx_wx_step ?_
  unfold kx_st
  rw [ht]
  exact h
theorem ks_i2c {a : Int} (ht : tb pc = (.i2c, nx, r1, r2, r3, tg)) (h : kx_wx E tb Q nx ls (kI (a % 65536) :: st) G μ) : kx_wx E tb Q pc ls (kI a :: st) G μ := by
  refine kx_wx_step ?_
  unfold kx_st
  rw [ht]
  exact h
theorem ks_icmp_eq {i a b : Int} (ht : tb pc = (.if_icmp .eq i, nx, r1, r2, r3, tg)) (ha : kx_in a) (hb : kx_in b) (h1 : a = b → kx_wx E tb Q r1 ls st G μ) (h0 : ¬ a = b → kx_wx E tb Q nx ls st G μ) : kx_wx E tb Q pc ls (kI b :: kI a :: st) G μ := by
  refine kx_wx_step ?_
  unfold kx_st
  rw [ht]
  simp only [kx_do]
  rw [if_pos ⟨ha, hb⟩]
  simp only [kx_br]
  split
  · exact h1 ‹_›
  · exact h0 ‹_›
theorem ks_if_eq {i a : Int} (ht : tb pc = (.ifCond .eq i, nx, r1, r2, r3, tg)) (ha : kx_in a) (h1 : a = 0 → kx_wx E tb Q r1 ls st G μ) (h0 : ¬ a = 0 → kx_wx E tb Q nx ls st G μ) : kx_wx E tb Q pc ls (kI a :: st) G μ := by
  refine kx_wx_step ?_
  unfold kx_st
  rw [ht]
  simp only [kx_do]
  rw [if_pos ha]
  simp only [kx_br]
  split
  · exact h1 ‹_›
  · exact h0 ‹_›
theorem ks_if_eq_0 {i : Int} (ht : tb pc = (.ifCond .eq i, nx, r1, r2, r3, tg)) (h : kx_wx E tb Q r1 ls st G μ) : kx_wx E tb Q pc ls (kI 0 :: st) G μ := by
  refine kx_wx_step ?_
  unfold kx_st
  rw [ht]
  simp only [kx_do]
  rw [if_pos (by decide)]
  simp only [kx_br]
  rw [if_pos (by decide)]
  exact h
theorem ks_if_eq_1 {i : Int} (ht : tb pc = (.ifCond .eq i, nx, r1, r2, r3, tg)) (h : kx_wx E tb Q nx ls st G μ) : kx_wx E tb Q pc ls (kI 1 :: st) G μ := by
  refine kx_wx_step ?_
  unfold kx_st
  rw [ht]
  simp only [kx_do]
  rw [if_pos (by decide)]
  simp only [kx_br]
  rw [if_neg (by decide)]
  exact h
theorem ks_if_eq_m {i : Int} (ht : tb pc = (.ifCond .eq i, nx, r1, r2, r3, tg)) (h : kx_wx E tb Q nx ls st G μ) : kx_wx E tb Q pc ls (kI (-1) :: st) G μ := by
  refine kx_wx_step ?_
  unfold kx_st
  rw [ht]
  simp only [kx_do]
  rw [if_pos (by decide)]
  simp only [kx_br]
  rw [if_neg (by decide)]
  exact h
theorem ks_icmp_ne {i a b : Int} (ht : tb pc = (.if_icmp .ne i, nx, r1, r2, r3, tg)) (ha : kx_in a) (hb : kx_in b) (h1 : a = b → kx_wx E tb Q nx ls st G μ) (h0 : ¬ a = b → kx_wx E tb Q r1 ls st G μ) : kx_wx E tb Q pc ls (kI b :: kI a :: st) G μ := by
  refine kx_wx_step ?_
  unfold kx_st
  rw [ht]
  simp only [kx_do]
  rw [if_pos ⟨ha, hb⟩]
  simp only [kx_br]
  split
  · exact h1 ‹_›
  · exact h0 ‹_›
theorem ks_if_ne {i a : Int} (ht : tb pc = (.ifCond .ne i, nx, r1, r2, r3, tg)) (ha : kx_in a) (h1 : a = 0 → kx_wx E tb Q nx ls st G μ) (h0 : ¬ a = 0 → kx_wx E tb Q r1 ls st G μ) : kx_wx E tb Q pc ls (kI a :: st) G μ := by
  refine kx_wx_step ?_
  unfold kx_st
  rw [ht]
  simp only [kx_do]
  rw [if_pos ha]
  simp only [kx_br]
  split
  · exact h1 ‹_›
  · exact h0 ‹_›
theorem ks_if_ne_0 {i : Int} (ht : tb pc = (.ifCond .ne i, nx, r1, r2, r3, tg)) (h : kx_wx E tb Q nx ls st G μ) : kx_wx E tb Q pc ls (kI 0 :: st) G μ := by
  refine kx_wx_step ?_
  unfold kx_st
  rw [ht]
  simp only [kx_do]
  rw [if_pos (by decide)]
  simp only [kx_br]
  rw [if_pos (by decide)]
  exact h
theorem ks_if_ne_1 {i : Int} (ht : tb pc = (.ifCond .ne i, nx, r1, r2, r3, tg)) (h : kx_wx E tb Q r1 ls st G μ) : kx_wx E tb Q pc ls (kI 1 :: st) G μ := by
  refine kx_wx_step ?_
  unfold kx_st
  rw [ht]
  simp only [kx_do]
  rw [if_pos (by decide)]
  simp only [kx_br]
  rw [if_neg (by decide)]
  exact h
theorem ks_if_ne_m {i : Int} (ht : tb pc = (.ifCond .ne i, nx, r1, r2, r3, tg)) (h : kx_wx E tb Q r1 ls st G μ) : kx_wx E tb Q pc ls (kI (-1) :: st) G μ := by
  refine kx_wx_step ?_
  unfold kx_st
  rw [ht]
  simp only [kx_do]
  rw [if_pos (by decide)]
  simp only [kx_br]
  rw [if_neg (by decide)]
  exact h
theorem ks_icmp_lt {i a b : Int} (ht : tb pc = (.if_icmp .lt i, nx, r1, r2, r3, tg)) (ha : kx_in a) (hb : kx_in b) (h1 : a < b → kx_wx E tb Q r1 ls st G μ) (h0 : ¬ a < b → kx_wx E tb Q nx ls st G μ) : kx_wx E tb Q pc ls (kI b :: kI a :: st) G μ := by
  refine kx_wx_step ?_
  unfold kx_st
  rw [ht]
  simp only [kx_do]
  rw [if_pos ⟨ha, hb⟩]
  simp only [kx_br]
  split
  · exact h1 ‹_›
  · exact h0 ‹_›
theorem ks_if_lt {i a : Int} (ht : tb pc = (.ifCond .lt i, nx, r1, r2, r3, tg)) (ha : kx_in a) (h1 : a < 0 → kx_wx E tb Q r1 ls st G μ) (h0 : ¬ a < 0 → kx_wx E tb Q nx ls st G μ) : kx_wx E tb Q pc ls (kI a :: st) G μ := by
  refine kx_wx_step ?_
  unfold kx_st
  rw [ht]
  simp only [kx_do]
  rw [if_pos ha]
  simp only [kx_br]
  split
  · exact h1 ‹_›
  · exact h0 ‹_›
theorem ks_if_lt_0 {i : Int} (ht : tb pc = (.ifCond .lt i, nx, r1, r2, r3, tg)) (h : kx_wx E tb Q nx ls st G μ) : kx_wx E tb Q pc ls (kI 0 :: st) G μ := by
  refine kx_wx_step ?_
  unfold kx_st
  rw [ht]
  simp only [kx_do]
  rw [if_pos (by decide)]
  simp only [kx_br]
  rw [if_neg (by decide)]
  exact h
theorem ks_if_lt_1 {i : Int} (ht : tb pc = (.ifCond .lt i, nx, r1, r2, r3, tg)) (h : kx_wx E tb Q nx ls st G μ) : kx_wx E tb Q pc ls (kI 1 :: st) G μ := by
  refine kx_wx_step ?_
  unfold kx_st
  rw [ht]
  simp only [kx_do]
  rw [if_pos (by decide)]
  simp only [kx_br]
  rw [if_neg (by decide)]
  exact h
theorem ks_if_lt_m {i : Int} (ht : tb pc = (.ifCond .lt i, nx, r1, r2, r3, tg)) (h : kx_wx E tb Q r1 ls st G μ) : kx_wx E tb Q pc ls (kI (-1) :: st) G μ := by
  refine kx_wx_step ?_
  unfold kx_st
  rw [ht]
  simp only [kx_do]
  rw [if_pos (by decide)]
  simp only [kx_br]
  rw [if_pos (by decide)]
  exact h
theorem ks_icmp_ge {i a b : Int} (ht : tb pc = (.if_icmp .ge i, nx, r1, r2, r3, tg)) (ha : kx_in a) (hb : kx_in b) (h1 : a < b → kx_wx E tb Q nx ls st G μ) (h0 : ¬ a < b → kx_wx E tb Q r1 ls st G μ) : kx_wx E tb Q pc ls (kI b :: kI a :: st) G μ := by
  refine kx_wx_step ?_
  unfold kx_st
  rw [ht]
  simp only [kx_do]
  rw [if_pos ⟨ha, hb⟩]
  simp only [kx_br]
  split
  · exact h1 ‹_›
  · exact h0 ‹_›
theorem ks_if_ge {i a : Int} (ht : tb pc = (.ifCond .ge i, nx, r1, r2, r3, tg)) (ha : kx_in a) (h1 : a < 0 → kx_wx E tb Q nx ls st G μ) (h0 : ¬ a < 0 → kx_wx E tb Q r1 ls st G μ) : kx_wx E tb Q pc ls (kI a :: st) G μ := by
  refine kx_wx_step ?_
  unfold kx_st
  rw [ht]
  simp only [kx_do]
  rw [if_pos ha]
  simp only [kx_br]
  split
  · exact h1 ‹_›
  · exact h0 ‹_›
theorem ks_if_ge_0 {i : Int} (ht : tb pc = (.ifCond .ge i, nx, r1, r2, r3, tg)) (h : kx_wx E tb Q r1 ls st G μ) : kx_wx E tb Q pc ls (kI 0 :: st) G μ := by
  refine kx_wx_step ?_
  unfold kx_st
  rw [ht]
  simp only [kx_do]
  rw [if_pos (by decide)]
  simp only [kx_br]
  rw [if_neg (by decide)]
  exact h
theorem ks_if_ge_1 {i : Int} (ht : tb pc = (.ifCond .ge i, nx, r1, r2, r3, tg)) (h : kx_wx E tb Q r1 ls st G μ) : kx_wx E tb Q pc ls (kI 1 :: st) G μ := by
  refine kx_wx_step ?_
  unfold kx_st
  rw [ht]
  simp only [kx_do]
  rw [if_pos (by decide)]
  simp only [kx_br]
  rw [if_neg (by decide)]
  exact h
theorem ks_if_ge_m {i : Int} (ht : tb pc = (.ifCond .ge i, nx, r1, r2, r3, tg)) (h : kx_wx E tb Q nx ls st G μ) : kx_wx E tb Q pc ls (kI (-1) :: st) G μ := by
  refine kx_wx_step ?_
  unfold kx_st
  rw [ht]
  simp only [kx_do]
  rw [if_pos (by decide)]
  simp only [kx_br]
  rw [if_pos (by decide)]
  exact h
theorem ks_icmp_gt {i a b : Int} (ht : tb pc = (.if_icmp .gt i, nx, r1, r2, r3, tg)) (ha : kx_in a) (hb : kx_in b) (h1 : b < a → kx_wx E tb Q r1 ls st G μ) (h0 : ¬ b < a → kx_wx E tb Q nx ls st G μ) : kx_wx E tb Q pc ls (kI b :: kI a :: st) G μ := by
  refine kx_wx_step ?_
  unfold kx_st
  rw [ht]
  simp only [kx_do]
  rw [if_pos ⟨ha, hb⟩]
  simp only [kx_br]
  split
  · exact h1 ‹_›
  · exact h0 ‹_›
theorem ks_if_gt {i a : Int} (ht : tb pc = (.ifCond .gt i, nx, r1, r2, r3, tg)) (ha : kx_in a) (h1 : 0 < a → kx_wx E tb Q r1 ls st G μ) (h0 : ¬ 0 < a → kx_wx E tb Q nx ls st G μ) : kx_wx E tb Q pc ls (kI a :: st) G μ := by
  refine kx_wx_step ?_
  unfold kx_st
  rw [ht]
  simp only [kx_do]
  rw [if_pos ha]
  simp only [kx_br]
  split
  · exact h1 ‹_›
  · exact h0 ‹_›
theorem ks_if_gt_0 {i : Int} (ht : tb pc = (.ifCond .gt i, nx, r1, r2, r3, tg)) (h : kx_wx E tb Q nx ls st G μ) : kx_wx E tb Q pc ls (kI 0 :: st) G μ := by
  refine kx_wx_step ?_
  unfold kx_st
  rw [ht]
  simp only [kx_do]
  rw [if_pos (by decide)]
  simp only [kx_br]
  rw [if_neg (by decide)]
  exact h
theorem ks_if_gt_1 {i : Int} (ht : tb pc = (.ifCond .gt i, nx, r1, r2, r3, tg)) (h : kx_wx E tb Q r1 ls st G μ) : kx_wx E tb Q pc ls (kI 1 :: st) G μ := by
  refine kx_wx_step ?_
  unfold kx_st
  rw [ht]
  simp only [kx_do]
  rw [if_pos (by decide)]
  simp only [kx_br]
  rw [if_pos (by decide)]
  exact h
theorem ks_if_gt_m {i : Int} (ht : tb pc = (.ifCond .gt i, nx, r1, r2, r3, tg)) (h : kx_wx E tb Q nx ls st G μ) : kx_wx E tb Q pc ls (kI (-1) :: st) G μ := by
  refine kx_wx_step ?_
  unfold kx_st
  rw [ht]
  simp only [kx_do]
  rw [if_pos (by decide)]
  simp only [kx_br]
  rw [if_neg (by decide)]
  exact h
theorem ks_icmp_le {i a b : Int} (ht : tb pc = (.if_icmp .le i, nx, r1, r2, r3, tg)) (ha : kx_in a) (hb : kx_in b) (h1 : b < a → kx_wx E tb Q nx ls st G μ) (h0 : ¬ b < a → kx_wx E tb Q r1 ls st G μ) : kx_wx E tb Q pc ls (kI b :: kI a :: st) G μ := by
  refine kx_wx_step ?_
  unfold kx_st
  rw [ht]
  simp only [kx_do]
  rw [if_pos ⟨ha, hb⟩]
  simp only [kx_br]
  split
  · exact h1 ‹_›
  · exact h0 ‹_›
theorem ks_if_le {i a : Int} (ht : tb pc = (.ifCond .le i, nx, r1, r2, r3, tg)) (ha : kx_in a) (h1 : 0 < a → kx_wx E tb Q nx ls st G μ) (h0 : ¬ 0 < a → kx_wx E tb Q r1 ls st G μ) : kx_wx E tb Q pc ls (kI a :: st) G μ := by
  refine kx_wx_step ?_
  unfold kx_st
  rw [ht]
  simp only [kx_do]
  rw [if_pos ha]
  simp only [kx_br]
  split
  · exact h1 ‹_›
  · exact h0 ‹_›
theorem ks_if_le_0 {i : Int} (ht : tb pc = (.ifCond .le i, nx, r1, r2, r3, tg)) (h : kx_wx E tb Q r1 ls st G μ) : kx_wx E tb Q pc ls (kI 0 :: st) G μ := by
  refine kx_wx_step ?_
  unfold kx_st
  rw [ht]
  simp only [kx_do]
  rw [if_pos (by decide)]
  simp only [kx_br]
  rw [if_neg (by decide)]
  exact h
theorem ks_if_le_1 {i : Int} (ht : tb pc = (.ifCond .le i, nx, r1, r2, r3, tg)) (h : kx_wx E tb Q nx ls st G μ) : kx_wx E tb Q pc ls (kI 1 :: st) G μ := by
  refine kx_wx_step ?_
  unfold kx_st
  rw [ht]
  simp only [kx_do]
  rw [if_pos (by decide)]
  simp only [kx_br]
  rw [if_pos (by decide)]
  exact h
theorem ks_if_le_m {i : Int} (ht : tb pc = (.ifCond .le i, nx, r1, r2, r3, tg)) (h : kx_wx E tb Q r1 ls st G μ) : kx_wx E tb Q pc ls (kI (-1) :: st) G μ := by
  refine kx_wx_step ?_
  unfold kx_st
  rw [ht]
  simp only [kx_do]
  rw [if_pos (by decide)]
  simp only [kx_br]
  rw [if_neg (by decide)]
  exact h
theorem ks_goto {i : Int} (ht : tb pc = (.goto i, nx, r1, r2, r3, tg)) (h : kx_wx E tb Q r1 ls st G μ) : kx_wx E tb Q pc ls st G μ := by
  refine kx_wx_step ?_
  unfold kx_st
  rw [ht]
  exact h
theorem ks_tsw {i1 i2 i3 : Int} {i4 : Array Int} {x : Int} (ht : tb pc = (.tableswitch i1 i2 i3 i4, nx, r1, r2, r3, tg)) (hx : kx_in x) (h : kx_sw x r3 (fun t => kx_wx E tb Q t ls st G μ) r1 tg) : kx_wx E tb Q pc ls (kI x :: st) G μ := by
  refine kx_wx_step ?_
  unfold kx_st
  rw [ht]
  simp only [kx_do]
  rw [if_pos hx]; exact h
theorem ks_lsw {i1 : Int} {i4 : Array (Int × Int)} {x : Int} (ht : tb pc = (.lookupswitch i1 i4, nx, r1, r2, r3, tg)) (hx : kx_in x) (h : kx_sw x r3 (fun t => kx_wx E tb Q t ls st G μ) r1 tg) : kx_wx E tb Q pc ls (kI x :: st) G μ := by
  refine kx_wx_step ?_
  unfold kx_st
  rw [ht]
  simp only [kx_do]
  rw [if_pos hx]; exact h
theorem ks_ireturn {x : Int} (ht : tb pc = (.ireturn, nx, 0, r2, r3, tg)) (h : Q (some (kI x)) G μ) : kx_wx E tb Q pc ls [kI x] G μ := by
  refine kx_wx_step ?_
  unfold kx_st
  rw [ht]
  simp only [kx_do]
  rw [if_pos (Or.inl trivial)]; exact h
theorem ks_zreturn {x : Int} (ht : tb pc = (.ireturn, nx, 1, r2, r3, tg)) (hx : x = 0 ∨ x = 1) (h : Q (some (kI x)) G μ) : kx_wx E tb Q pc ls [kI x] G μ := by
  refine kx_wx_step ?_
  unfold kx_st
  rw [ht]
  simp only [kx_do]
  rw [if_pos (Or.inr hx)]; exact h
theorem ks_lreturn {x : Int} (ht : tb pc = (.lreturn, nx, r1, r2, r3, tg)) (h : Q (some (kL x)) G μ) : kx_wx E tb Q pc ls [kL x] G μ := by
  refine kx_wx_step ?_
  unfold kx_st
  rw [ht]
  exact h
theorem ks_return (ht : tb pc = (.return_, nx, r1, r2, r3, tg)) (h : Q none G μ) : kx_wx E tb Q pc ls [] G μ := by
  refine kx_wx_step ?_
  unfold kx_st
  rw [ht]
  exact h
theorem ks_acopy {i s d n0 n1 : Nat} {sp dp n : Int} (ht : tb pc = (.invokestatic i, nx, r1, r2, 2, tg)) (h9 : 91 ≤ G.2.1) (hs : G.1 s = (2, n0)) (hd : G.1 d = (2, n1)) (h1 : 0 ≤ sp) (h2 : 0 ≤ dp) (h3 : 0 ≤ n) (h4 : sp + n ≤ n0) (h5 : dp + n ≤ n1) (hc : kx_cats st ≤ 8) (h : kx_wx E tb Q nx ls st G (kx_cpy μ s sp d dp n)) : kx_wx E tb Q pc ls (kI n :: kI dp :: kR d :: kI sp :: kR s :: st) G μ := by
  refine kx_wx_step ?_
  unfold kx_st
  rw [ht]
  simp only [kx_do]
  rw [if_pos trivial, if_pos ⟨h9, by rw [hs], by rw [hd], h1, h2, h3, by rw [hs]; exact h4, by rw [hd]; exact h5, hc⟩]; exact h
theorem ks_objinit {i a : Nat} (ht : tb pc = (.invokespecial i, nx, r1, r2, 1, tg)) (hc : kx_cats st ≤ 8) (h : kx_wx E tb Q nx ls st G μ) : kx_wx E tb Q pc ls (kR a :: st) G μ := by
  refine kx_wx_step ?_
  unfold kx_st
  rw [ht]
  simp only [kx_do]
  rw [if_pos trivial, if_pos hc]; exact h
theorem ks_calls_0 {i : Nat} (ht : tb pc = (.invokestatic i, nx, r1, 0, 0, tg)) (hc : kx_cats st ≤ 8) (h : kx_cx E r1 [] G μ (fun v G' μ' => kx_wx E tb Q nx ls (v.toList ++ st) G' μ')) : kx_wx E tb Q pc ls (st) G μ := by
  refine kx_wx_step ?_
  unfold kx_st
  rw [ht]
  simp only [kx_do]
  rw [if_neg (by decide), if_pos ⟨by simp, by simpa using hc⟩]; exact h
theorem ks_calls_1 {i : Nat} {v0 : kx_V} (ht : tb pc = (.invokestatic i, nx, r1, 1, 0, tg)) (hc : kx_cats st ≤ 8) (h : kx_cx E r1 [v0] G μ (fun v G' μ' => kx_wx E tb Q nx ls (v.toList ++ st) G' μ')) : kx_wx E tb Q pc ls (v0 :: st) G μ := by
  refine kx_wx_step ?_
  unfold kx_st
  rw [ht]
  simp only [kx_do]
  rw [if_neg (by decide), if_pos ⟨by simp, by simpa using hc⟩]; exact h
theorem ks_callp_1 {i a : Nat} (ht : tb pc = (.invokespecial i, nx, r1, 1, 0, tg)) (hc : kx_cats st ≤ 8) (h : kx_cx E r1 [kR a] G μ (fun v G' μ' => kx_wx E tb Q nx ls (v.toList ++ st) G' μ')) : kx_wx E tb Q pc ls (kR a :: st) G μ := by
  refine kx_wx_step ?_
  unfold kx_st
  rw [ht]
  simp only [kx_do]
  rw [if_neg (by decide)]
  simp only [List.take_succ_cons, List.take_zero, List.drop_succ_cons, List.drop_zero, List.reverse_cons, List.reverse_nil, List.nil_append, List.cons_append]
  rw [if_pos ⟨by simp, hc⟩]; exact h
theorem ks_callv_1 {i a c : Nat} (ht : tb pc = (.invokevirtual i, nx, r1, 1, 0, [c])) (h8 : (c == 8) = false) (hs : G.1 a = (1, c)) (hc : kx_cats st ≤ 8) (h : kx_cx E r1 [kR a] G μ (fun v G' μ' => kx_wx E tb Q nx ls (v.toList ++ st) G' μ')) : kx_wx E tb Q pc ls (kR a :: st) G μ := by
  refine kx_wx_step ?_
  unfold kx_st
  rw [ht]
  simp only [kx_do]
  simp only [List.take_succ_cons, List.take_zero, List.drop_succ_cons, List.drop_zero, List.reverse_cons, List.reverse_nil, List.nil_append, List.cons_append]
  rw [if_pos ⟨by show (if c = 8 then a = 105 else G.1 a = (1, c)); rw [if_neg (by simpa using h8)]; exact hs, by simp, hc⟩]; exact h
theorem ks_callvS_1 {i : Nat} (ht : tb pc = (.invokevirtual i, nx, r1, 1, 0, [8])) (hc : kx_cats st ≤ 8) (h : kx_cx E r1 [kR 105] G μ (fun v G' μ' => kx_wx E tb Q nx ls (v.toList ++ st) G' μ')) : kx_wx E tb Q pc ls (kR 105 :: st) G μ := by
  refine kx_wx_step ?_
  unfold kx_st
  rw [ht]
  simp only [kx_do]
  simp only [List.take_succ_cons, List.take_zero, List.drop_succ_cons, List.drop_zero, List.reverse_cons, List.reverse_nil, List.nil_append, List.cons_append]
  rw [if_pos ⟨by simp, by simp, hc⟩]; exact h
theorem ks_calls_2 {i : Nat} {v0 v1 : kx_V} (ht : tb pc = (.invokestatic i, nx, r1, 2, 0, tg)) (hc : kx_cats st ≤ 8) (h : kx_cx E r1 [v0, v1] G μ (fun v G' μ' => kx_wx E tb Q nx ls (v.toList ++ st) G' μ')) : kx_wx E tb Q pc ls (v1 :: v0 :: st) G μ := by
  refine kx_wx_step ?_
  unfold kx_st
  rw [ht]
  simp only [kx_do]
  rw [if_neg (by decide), if_pos ⟨by simp, by simpa using hc⟩]; exact h
theorem ks_callp_2 {i a : Nat} {v1 : kx_V} (ht : tb pc = (.invokespecial i, nx, r1, 2, 0, tg)) (hc : kx_cats st ≤ 8) (h : kx_cx E r1 [kR a, v1] G μ (fun v G' μ' => kx_wx E tb Q nx ls (v.toList ++ st) G' μ')) : kx_wx E tb Q pc ls (v1 :: kR a :: st) G μ := by
  refine kx_wx_step ?_
  unfold kx_st
  rw [ht]
  simp only [kx_do]
  rw [if_neg (by decide)]
  simp only [List.take_succ_cons, List.take_zero, List.drop_succ_cons, List.drop_zero, List.reverse_cons, List.reverse_nil, List.nil_append, List.cons_append]
  rw [if_pos ⟨by simp, hc⟩]; exact h
theorem ks_callv_2 {i a c : Nat} {v1 : kx_V} (ht : tb pc = (.invokevirtual i, nx, r1, 2, 0, [c])) (h8 : (c == 8) = false) (hs : G.1 a = (1, c)) (hc : kx_cats st ≤ 8) (h : kx_cx E r1 [kR a, v1] G μ (fun v G' μ' => kx_wx E tb Q nx ls (v.toList ++ st) G' μ')) : kx_wx E tb Q pc ls (v1 :: kR a :: st) G μ := by
  refine kx_wx_step ?_
  unfold kx_st
  rw [ht]
  simp only [kx_do]
  simp only [List.take_succ_cons, List.take_zero, List.drop_succ_cons, List.drop_zero, List.reverse_cons, List.reverse_nil, List.nil_append, List.cons_append]
  rw [if_pos ⟨by show (if c = 8 then a = 105 else G.1 a = (1, c)); rw [if_neg (by simpa using h8)]; exact hs, by simp, hc⟩]; exact h
theorem ks_callvS_2 {i : Nat} {v1 : kx_V} (ht : tb pc = (.invokevirtual i, nx, r1, 2, 0, [8])) (hc : kx_cats st ≤ 8) (h : kx_cx E r1 [kR 105, v1] G μ (fun v G' μ' => kx_wx E tb Q nx ls (v.toList ++ st) G' μ')) : kx_wx E tb Q pc ls (v1 :: kR 105 :: st) G μ := by
  refine kx_wx_step ?_
  unfold kx_st
  rw [ht]
  simp only [kx_do]
  simp only [List.take_succ_cons, List.take_zero, List.drop_succ_cons, List.drop_zero, List.reverse_cons, List.reverse_nil, List.nil_append, List.cons_append]
  rw [if_pos ⟨by simp, by simp, hc⟩]; exact h
theorem ks_calls_3 {i : Nat} {v0 v1 v2 : kx_V} (ht : tb pc = (.invokestatic i, nx, r1, 3, 0, tg)) (hc : kx_cats st ≤ 8) (h : kx_cx E r1 [v0, v1, v2] G μ (fun v G' μ' => kx_wx E tb Q nx ls (v.toList ++ st) G' μ')) : kx_wx E tb Q pc ls (v2 :: v1 :: v0 :: st) G μ := by
  refine kx_wx_step ?_
  unfold kx_st
  rw [ht]
  simp only [kx_do]
  rw [if_neg (by decide), if_pos ⟨by simp, by simpa using hc⟩]; exact h
theorem ks_callp_3 {i a : Nat} {v1 v2 : kx_V} (ht : tb pc = (.invokespecial i, nx, r1, 3, 0, tg)) (hc : kx_cats st ≤ 8) (h : kx_cx E r1 [kR a, v1, v2] G μ (fun v G' μ' => kx_wx E tb Q nx ls (v.toList ++ st) G' μ')) : kx_wx E tb Q pc ls (v2 :: v1 :: kR a :: st) G μ := by
  refine kx_wx_step ?_
  unfold kx_st
  rw [ht]
  simp only [kx_do]
  rw [if_neg (by decide)]
  simp only [List.take_succ_cons, List.take_zero, List.drop_succ_cons, List.drop_zero, List.reverse_cons, List.reverse_nil, List.nil_append, List.cons_append]
  rw [if_pos ⟨by simp, hc⟩]; exact h
theorem ks_callv_3 {i a c : Nat} {v1 v2 : kx_V} (ht : tb pc = (.invokevirtual i, nx, r1, 3, 0, [c])) (h8 : (c == 8) = false) (hs : G.1 a = (1, c)) (hc : kx_cats st ≤ 8) (h : kx_cx E r1 [kR a, v1, v2] G μ (fun v G' μ' => kx_wx E tb Q nx ls (v.toList ++ st) G' μ')) : kx_wx E tb Q pc ls (v2 :: v1 :: kR a :: st) G μ := by
  refine kx_wx_step ?_
  unfold kx_st
  rw [ht]
  simp only [kx_do]
  simp only [List.take_succ_cons, List.take_zero, List.drop_succ_cons, List.drop_zero, List.reverse_cons, List.reverse_nil, List.nil_append, List.cons_append]
  rw [if_pos ⟨by show (if c = 8 then a = 105 else G.1 a = (1, c)); rw [if_neg (by simpa using h8)]; exact hs, by simp, hc⟩]; exact h
theorem ks_callvS_3 {i : Nat} {v1 v2 : kx_V} (ht : tb pc = (.invokevirtual i, nx, r1, 3, 0, [8])) (hc : kx_cats st ≤ 8) (h : kx_cx E r1 [kR 105, v1, v2] G μ (fun v G' μ' => kx_wx E tb Q nx ls (v.toList ++ st) G' μ')) : kx_wx E tb Q pc ls (v2 :: v1 :: kR 105 :: st) G μ := by
  refine kx_wx_step ?_
  unfold kx_st
  rw [ht]
  simp only [kx_do]
  simp only [List.take_succ_cons, List.take_zero, List.drop_succ_cons, List.drop_zero, List.reverse_cons, List.reverse_nil, List.nil_append, List.cons_append]
  rw [if_pos ⟨by simp, by simp, hc⟩]; exact h
theorem ks_calls_4 {i : Nat} {v0 v1 v2 v3 : kx_V} (ht : tb pc = (.invokestatic i, nx, r1, 4, 0, tg)) (hc : kx_cats st ≤ 8) (h : kx_cx E r1 [v0, v1, v2, v3] G μ (fun v G' μ' => kx_wx E tb Q nx ls (v.toList ++ st) G' μ')) : kx_wx E tb Q pc ls (v3 :: v2 :: v1 :: v0 :: st) G μ := by
  refine kx_wx_step ?_
  unfold kx_st
  rw [ht]
  simp only [kx_do]
  rw [if_neg (by decide), if_pos ⟨by simp, by simpa using hc⟩]; exact h
theorem ks_callp_4 {i a : Nat} {v1 v2 v3 : kx_V} (ht : tb pc = (.invokespecial i, nx, r1, 4, 0, tg)) (hc : kx_cats st ≤ 8) (h : kx_cx E r1 [kR a, v1, v2, v3] G μ (fun v G' μ' => kx_wx E tb Q nx ls (v.toList ++ st) G' μ')) : kx_wx E tb Q pc ls (v3 :: v2 :: v1 :: kR a :: st) G μ := by
  refine kx_wx_step ?_
  unfold kx_st
  rw [ht]
  simp only [kx_do]
  rw [if_neg (by decide)]
  simp only [List.take_succ_cons, List.take_zero, List.drop_succ_cons, List.drop_zero, List.reverse_cons, List.reverse_nil, List.nil_append, List.cons_append]
  rw [if_pos ⟨by simp, hc⟩]; exact h
theorem ks_callv_4 {i a c : Nat} {v1 v2 v3 : kx_V} (ht : tb pc = (.invokevirtual i, nx, r1, 4, 0, [c])) (h8 : (c == 8) = false) (hs : G.1 a = (1, c)) (hc : kx_cats st ≤ 8) (h : kx_cx E r1 [kR a, v1, v2, v3] G μ (fun v G' μ' => kx_wx E tb Q nx ls (v.toList ++ st) G' μ')) : kx_wx E tb Q pc ls (v3 :: v2 :: v1 :: kR a :: st) G μ := by
  refine kx_wx_step ?_
  unfold kx_st
  rw [ht]
  simp only [kx_do]
  simp only [List.take_succ_cons, List.take_zero, List.drop_succ_cons, List.drop_zero, List.reverse_cons, List.reverse_nil, List.nil_append, List.cons_append]
  rw [if_pos ⟨by show (if c = 8 then a = 105 else G.1 a = (1, c)); rw [if_neg (by simpa using h8)]; exact hs, by simp, hc⟩]; exact h
theorem ks_callvS_4 {i : Nat} {v1 v2 v3 : kx_V} (ht : tb pc = (.invokevirtual i, nx, r1, 4, 0, [8])) (hc : kx_cats st ≤ 8) (h : kx_cx E r1 [kR 105, v1, v2, v3] G μ (fun v G' μ' => kx_wx E tb Q nx ls (v.toList ++ st) G' μ')) : kx_wx E tb Q pc ls (v3 :: v2 :: v1 :: kR 105 :: st) G μ := by
  refine kx_wx_step ?_
  unfold kx_st
  rw [ht]
  simp only [kx_do]
  simp only [List.take_succ_cons, List.take_zero, List.drop_succ_cons, List.drop_zero, List.reverse_cons, List.reverse_nil, List.nil_append, List.cons_append]
  rw [if_pos ⟨by simp, by simp, hc⟩]; exact h
theorem ks_calls_5 {i : Nat} {v0 v1 v2 v3 v4 : kx_V} (ht : tb pc = (.invokestatic i, nx, r1, 5, 0, tg)) (hc : kx_cats st ≤ 8) (h : kx_cx E r1 [v0, v1, v2, v3, v4] G μ (fun v G' μ' => kx_wx E tb Q nx ls (v.toList ++ st) G' μ')) : kx_wx E tb Q pc ls (v4 :: v3 :: v2 :: v1 :: v0 :: st) G μ := by
  refine kx_wx_step ?_
  unfold kx_st
  rw [ht]
  simp only [kx_do]
  rw [if_neg (by decide), if_pos ⟨by simp, by simpa using hc⟩]; exact h
theorem ks_callp_5 {i a : Nat} {v1 v2 v3 v4 : kx_V} (ht : tb pc = (.invokespecial i, nx, r1, 5, 0, tg)) (hc : kx_cats st ≤ 8) (h : kx_cx E r1 [kR a, v1, v2, v3, v4] G μ (fun v G' μ' => kx_wx E tb Q nx ls (v.toList ++ st) G' μ')) : kx_wx E tb Q pc ls (v4 :: v3 :: v2 :: v1 :: kR a :: st) G μ := by
  refine kx_wx_step ?_
  unfold kx_st
  rw [ht]
  simp only [kx_do]
  rw [if_neg (by decide)]
  simp only [List.take_succ_cons, List.take_zero, List.drop_succ_cons, List.drop_zero, List.reverse_cons, List.reverse_nil, List.nil_append, List.cons_append]
  rw [if_pos ⟨by simp, hc⟩]; exact h
theorem ks_callv_5 {i a c : Nat} {v1 v2 v3 v4 : kx_V} (ht : tb pc = (.invokevirtual i, nx, r1, 5, 0, [c])) (h8 : (c == 8) = false) (hs : G.1 a = (1, c)) (hc : kx_cats st ≤ 8) (h : kx_cx E r1 [kR a, v1, v2, v3, v4] G μ (fun v G' μ' => kx_wx E tb Q nx ls (v.toList ++ st) G' μ')) : kx_wx E tb Q pc ls (v4 :: v3 :: v2 :: v1 :: kR a :: st) G μ := by
  refine kx_wx_step ?_
  unfold kx_st
  rw [ht]
  simp only [kx_do]
  simp only [List.take_succ_cons, List.take_zero, List.drop_succ_cons, List.drop_zero, List.reverse_cons, List.reverse_nil, List.nil_append, List.cons_append]
  rw [if_pos ⟨by show (if c = 8 then a = 105 else G.1 a = (1, c)); rw [if_neg (by simpa using h8)]; exact hs, by simp, hc⟩]; exact h
theorem ks_callvS_5 {i : Nat} {v1 v2 v3 v4 : kx_V} (ht : tb pc = (.invokevirtual i, nx, r1, 5, 0, [8])) (hc : kx_cats st ≤ 8) (h : kx_cx E r1 [kR 105, v1, v2, v3, v4] G μ (fun v G' μ' => kx_wx E tb Q nx ls (v.toList ++ st) G' μ')) : kx_wx E tb Q pc ls (v4 :: v3 :: v2 :: v1 :: kR 105 :: st) G μ := by
  refine kx_wx_step ?_
  unfold kx_st
  rw [ht]
  simp only [kx_do]
  simp only [List.take_succ_cons, List.take_zero, List.drop_succ_cons, List.drop_zero, List.reverse_cons, List.reverse_nil, List.nil_append, List.cons_append]
  rw [if_pos ⟨by simp, by simp, hc⟩]; exact h
end KS
end
section
def kt_Acts_init : Nat → kx_E
  | 0 => (.aload_n 0, 1, 0, 0, 0, [])
  | 1 => (.invokespecial 1, 4, 0, 0, 1, [])
  | 4 => (.aload_n 0, 5, 0, 0, 0, [])
  | 5 => (.bipush 24, 7, 0, 0, 24, [])
  | 7 => (.newarray .int, 9, 2, 0, 0, [])
  | 9 => (.putfield 9, 12, 0, 1, 0, [])
  | 12 => (.aload_n 0, 13, 0, 0, 0, [])
  | 13 => (.bipush 24, 15, 0, 0, 24, [])
  | 15 => (.newarray .int, 17, 2, 0, 0, [])
  | 17 => (.putfield 13, 20, 0, 1, 1, [])
  | 20 => (.aload_n 0, 21, 0, 0, 0, [])
  | 21 => (.bipush 24, 23, 0, 0, 24, [])
  | 23 => (.newarray .int, 25, 2, 0, 0, [])
  | 25 => (.putfield 16, 28, 0, 1, 2, [])
  | 28 => (.aload_n 0, 29, 0, 0, 0, [])
  | 29 => (.bipush 24, 31, 0, 0, 24, [])
  | 31 => (.newarray .int, 33, 2, 0, 0, [])
  | 33 => (.putfield 19, 36, 0, 1, 3, [])
  | 36 => (.return_, 37, 0, 0, 0, [])
  | _ => (.nop, 1, 0, 0, 0, [])
def kt_Acts_forgetAll : Nat → kx_E
  | 0 => (.aload_n 0, 1, 0, 0, 0, [])
  | 1 => (.iconst 0, 2, 0, 0, 0, [])
  | 2 => (.putfield 22, 5, 0, 0, 5, [])
  | 5 => (.return_, 6, 0, 0, 0, [])
  | _ => (.nop, 1, 0, 0, 0, [])
def kt_Acts_keep : Nat → kx_E
  | 0 => (.aload_n 0, 1, 0, 0, 0, [])
  | 1 => (.getfield 9, 4, 0, 1, 0, [])
  | 4 => (.aload_n 0, 5, 0, 0, 0, [])
  | 5 => (.getfield 26, 8, 0, 0, 4, [])
  | 8 => (.iload_n 1, 9, 1, 0, 0, [])
  | 9 => (.iastore, 10, 0, 0, 0, [])
  | 10 => (.aload_n 0, 11, 0, 0, 0, [])
  | 11 => (.getfield 13, 14, 0, 1, 1, [])
  | 14 => (.aload_n 0, 15, 0, 0, 0, [])
  | 15 => (.getfield 26, 18, 0, 0, 4, [])
  | 18 => (.iload_n 2, 19, 2, 0, 0, [])
  | 19 => (.iastore, 20, 0, 0, 0, [])
  | 20 => (.aload_n 0, 21, 0, 0, 0, [])
  | 21 => (.getfield 16, 24, 0, 1, 2, [])
  | 24 => (.aload_n 0, 25, 0, 0, 0, [])
  | 25 => (.getfield 26, 28, 0, 0, 4, [])
  | 28 => (.iload_n 3, 29, 3, 0, 0, [])
  | 29 => (.iastore, 30, 0, 0, 0, [])
  | 30 => (.aload_n 0, 31, 0, 0, 0, [])
  | 31 => (.getfield 19, 34, 0, 1, 3, [])
  | 34 => (.aload_n 0, 35, 0, 0, 0, [])
  | 35 => (.getfield 26, 38, 0, 0, 4, [])
  | 38 => (.iload 4, 40, 4, 0, 0, [])
  | 40 => (.iastore, 41, 0, 0, 0, [])
  | 41 => (.aload_n 0, 42, 0, 0, 0, [])
  | 42 => (.aload_n 0, 43, 0, 0, 0, [])
  | 43 => (.getfield 26, 46, 0, 0, 4, [])
  | 46 => (.iconst 1, 47, 0, 0, 1, [])
  | 47 => (.iadd, 48, 0, 0, 0, [])
  | 48 => (.bipush 24, 50, 0, 0, 24, [])
  | 50 => (.irem, 51, 0, 0, 0, [])
  | 51 => (.putfield 26, 54, 0, 0, 4, [])
  | 54 => (.aload_n 0, 55, 0, 0, 0, [])
  | 55 => (.aload_n 0, 56, 0, 0, 0, [])
  | 56 => (.getfield 22, 59, 0, 0, 5, [])
  | 59 => (.iconst 1, 60, 0, 0, 1, [])
  | 60 => (.iadd, 61, 0, 0, 0, [])
  | 61 => (.bipush 24, 63, 0, 0, 24, [])
  | 63 => (.invokestatic 29, 66, 193, 2, 0, [])
  | 66 => (.putfield 22, 69, 0, 0, 5, [])
  | 69 => (.return_, 70, 0, 0, 0, [])
  | _ => (.nop, 1, 0, 0, 0, [])
def kt_Acts_revertLatest : Nat → kx_E
  | 0 => (.aload_n 0, 1, 0, 0, 0, [])
  | 1 => (.aload_n 0, 2, 0, 0, 0, [])
  | 2 => (.getfield 26, 5, 0, 0, 4, [])
  | 5 => (.bipush 24, 7, 0, 0, 24, [])
  | 7 => (.iadd, 8, 0, 0, 0, [])
  | 8 => (.iconst 1, 9, 0, 0, 1, [])
  | 9 => (.isub, 10, 0, 0, 0, [])
  | 10 => (.bipush 24, 12, 0, 0, 24, [])
  | 12 => (.irem, 13, 0, 0, 0, [])
  | 13 => (.putfield 26, 16, 0, 0, 4, [])
  | 16 => (.aload_n 0, 17, 0, 0, 0, [])
  | 17 => (.dup, 18, 0, 0, 0, [])
  | 18 => (.getfield 22, 21, 0, 0, 5, [])
  | 21 => (.iconst 1, 22, 0, 0, 1, [])
  | 22 => (.isub, 23, 0, 0, 0, [])
  | 23 => (.putfield 22, 26, 0, 0, 5, [])
  | 26 => (.aload_n 0, 27, 0, 0, 0, [])
  | 27 => (.getfield 19, 30, 0, 1, 3, [])
  | 30 => (.aload_n 0, 31, 0, 0, 0, [])
  | 31 => (.getfield 26, 34, 0, 0, 4, [])
  | 34 => (.iaload, 35, 0, 0, 0, [])
  | 35 => (.istore_n 2, 36, 2, 0, 0, [])
  | 36 => (.aload_n 0, 37, 0, 0, 0, [])
  | 37 => (.getfield 9, 40, 0, 1, 0, [])
  | 40 => (.aload_n 0, 41, 0, 0, 0, [])
  | 41 => (.getfield 26, 44, 0, 0, 4, [])
  | 44 => (.iaload, 45, 0, 0, 0, [])
  | 45 => (.tableswitch 116 0 4 #[35, 61, 69, 98, 106], 80, 161, 0, 0, [80, 106, 114, 143, 151])
  | 80 => (.aload_n 1, 81, 1, 0, 0, [])
  | 81 => (.aload_n 0, 82, 0, 0, 0, [])
  | 82 => (.getfield 13, 85, 0, 1, 1, [])
  | 85 => (.aload_n 0, 86, 0, 0, 0, [])
  | 86 => (.getfield 26, 89, 0, 0, 4, [])
  | 89 => (.iaload, 90, 0, 0, 0, [])
  | 90 => (.aload_n 0, 91, 0, 0, 0, [])
  | 91 => (.getfield 16, 94, 0, 1, 2, [])
  | 94 => (.aload_n 0, 95, 0, 0, 0, [])
  | 95 => (.getfield 26, 98, 0, 0, 4, [])
  | 98 => (.iaload, 99, 0, 0, 0, [])
  | 99 => (.iload_n 2, 100, 2, 0, 0, [])
  | 100 => (.invokevirtual 35, 103, 62, 4, 0, [5])
  | 103 => (.goto 58, 106, 161, 0, 0, [])
  | 106 => (.aload_n 1, 107, 1, 0, 0, [])
  | 107 => (.iload_n 2, 108, 2, 0, 0, [])
  | 108 => (.putfield 41, 111, 5, 0, 10, [])
  | 111 => (.goto 50, 114, 161, 0, 0, [])
  | 114 => (.aload_n 1, 115, 1, 0, 0, [])
  | 115 => (.aload_n 0, 116, 0, 0, 0, [])
  | 116 => (.getfield 13, 119, 0, 1, 1, [])
  | 119 => (.aload_n 0, 120, 0, 0, 0, [])
  | 120 => (.getfield 26, 123, 0, 0, 4, [])
  | 123 => (.iaload, 124, 0, 0, 0, [])
  | 124 => (.putfield 44, 127, 5, 0, 11, [])
  | 127 => (.aload_n 1, 128, 1, 0, 0, [])
  | 128 => (.aload_n 0, 129, 0, 0, 0, [])
  | 129 => (.getfield 16, 132, 0, 1, 2, [])
  | 132 => (.aload_n 0, 133, 0, 0, 0, [])
  | 133 => (.getfield 26, 136, 0, 0, 4, [])
  | 136 => (.iaload, 137, 0, 0, 0, [])
  | 137 => (.putfield 47, 140, 5, 0, 12, [])
  | 140 => (.goto 21, 143, 161, 0, 0, [])
  | 143 => (.aload_n 1, 144, 1, 0, 0, [])
  | 144 => (.iload_n 2, 145, 2, 0, 0, [])
  | 145 => (.putfield 50, 148, 5, 0, 9, [])
  | 148 => (.goto 13, 151, 161, 0, 0, [])
  | 151 => (.aload_n 1, 152, 1, 0, 0, [])
  | 152 => (.getfield 53, 155, 5, 1, 6, [])
  | 155 => (.iload_n 2, 156, 2, 0, 0, [])
  | 156 => (.iconst 0, 157, 0, 0, 0, [])
  | 157 => (.iastore, 158, 0, 0, 0, [])
  | 158 => (.goto 3, 161, 161, 0, 0, [])
  | 161 => (.return_, 162, 0, 0, 0, [])
  | _ => (.nop, 1, 0, 0, 0, [])
def kt_Asker_init : Nat → kx_E
  | 0 => (.aload_n 0, 1, 0, 0, 0, [])
  | 1 => (.invokespecial 3, 4, 0, 0, 1, [])
  | 4 => (.aload_n 0, 5, 0, 0, 0, [])
  | 5 => (.bipush 16, 7, 0, 0, 16, [])
  | 7 => (.newarray .int, 9, 2, 0, 0, [])
  | 9 => (.putfield 11, 12, 1, 1, 0, [])
  | 12 => (.return_, 13, 0, 0, 0, [])
  | _ => (.nop, 1, 0, 0, 0, [])
def kt_Asker_numberAt : Nat → kx_E
  | 0 => (.iconst 0, 1, 0, 0, 0, [])
  | 1 => (.iload_n 1, 2, 1, 0, 0, [])
  | 2 => (.if_icmp .gt 20, 5, 22, 0, 0, [])
  | 5 => (.iload_n 1, 6, 1, 0, 0, [])
  | 6 => (.aload_n 0, 7, 0, 0, 0, [])
  | 7 => (.getfield 15, 10, 1, 0, 1, [])
  | 10 => (.if_icmp .ge 12, 13, 22, 0, 0, [])
  | 13 => (.aload_n 0, 14, 0, 0, 0, [])
  | 14 => (.getfield 11, 17, 1, 1, 0, [])
  | 17 => (.iload_n 1, 18, 1, 0, 0, [])
  | 18 => (.iaload, 19, 0, 0, 0, [])
  | 19 => (.goto 5, 22, 24, 0, 0, [])
  | 22 => (.ldc 19, 24, 0, 0, (-1000000), [])
  | 24 => (.ireturn, 25, 0, 0, 0, [])
  | _ => (.nop, 1, 0, 0, 0, [])
def kt_Asker_answer : Nat → kx_E
  | 0 => (.aload_n 0, 1, 0, 0, 0, [])
  | 1 => (.iconst 0, 2, 0, 0, 0, [])
  | 2 => (.putfield 15, 5, 1, 0, 1, [])
  | 5 => (.aload_n 0, 6, 0, 0, 0, [])
  | 6 => (.iload_n 3, 7, 3, 0, 0, [])
  | 7 => (.aload_n 1, 8, 1, 0, 0, [])
  | 8 => (.iload_n 2, 9, 2, 0, 0, [])
  | 9 => (.iconst 0, 10, 0, 0, 0, [])
  | 10 => (.invokevirtual 20, 13, 8, 5, 0, [1])
  | 13 => (.ireturn, 14, 0, 0, 0, [])
  | _ => (.nop, 1, 0, 0, 0, [])
def kt_Asker_runBody : Nat → kx_E
  | 0 => (.iload 4, 2, 4, 0, 0, [])
  | 2 => (.bipush 12, 4, 0, 0, 12, [])
  | 4 => (.if_icmp .lt 5, 7, 9, 0, 0, [])
  | 7 => (.iconst 0, 8, 0, 0, 0, [])
  | 8 => (.ireturn, 9, 0, 0, 0, [])
  | 9 => (.aload_n 0, 10, 0, 0, 0, [])
  | 10 => (.iload_n 1, 11, 1, 0, 0, [])
  | 11 => (.invokevirtual 24, 14, 9, 2, 0, [1])
  | 14 => (.iload 4, 16, 4, 0, 0, [])
  | 16 => (.iconst 1, 17, 0, 0, 1, [])
  | 17 => (.iadd, 18, 0, 0, 0, [])
  | 18 => (.istore 5, 20, 5, 0, 0, [])
  | 20 => (.iload_n 1, 21, 1, 0, 0, [])
  | 21 => (.tableswitch 211 10 24 #[75, 82, 103, 115, 129, 211, 211, 211, 211, 211, 142, 144, 162, 177, 198], 96, 232, 0, 10, [96, 103, 124, 136, 150, 232, 232, 232, 232, 232, 163, 165, 183, 198, 219])
  | 96 => (.aload_n 2, 97, 2, 0, 0, [])
  | 97 => (.getfield 28, 100, 5, 1, 1, [])
  | 100 => (.iload_n 3, 101, 3, 0, 0, [])
  | 101 => (.iaload, 102, 0, 0, 0, [])
  | 102 => (.ireturn, 103, 0, 0, 0, [])
  | 103 => (.aload_n 0, 104, 0, 0, 0, [])
  | 104 => (.bipush 10, 106, 0, 0, 10, [])
  | 106 => (.aload_n 2, 107, 2, 0, 0, [])
  | 107 => (.iload_n 3, 108, 3, 0, 0, [])
  | 108 => (.iload 5, 110, 5, 0, 0, [])
  | 110 => (.invokevirtual 33, 113, 7, 5, 0, [1])
  | 113 => (.aload_n 0, 114, 0, 0, 0, [])
  | 114 => (.iconst 1, 115, 0, 0, 1, [])
  | 115 => (.aload_n 2, 116, 2, 0, 0, [])
  | 116 => (.iload_n 3, 117, 3, 0, 0, [])
  | 117 => (.iload 5, 119, 5, 0, 0, [])
  | 119 => (.invokevirtual 20, 122, 8, 5, 0, [1])
  | 122 => (.iadd, 123, 0, 0, 0, [])
  | 123 => (.ireturn, 124, 0, 0, 0, [])
  | 124 => (.aload_n 0, 125, 0, 0, 0, [])
  | 125 => (.bipush 11, 127, 0, 0, 11, [])
  | 127 => (.aload_n 2, 128, 2, 0, 0, [])
  | 128 => (.iload_n 3, 129, 3, 0, 0, [])
  | 129 => (.iload 5, 131, 5, 0, 0, [])
  | 131 => (.invokevirtual 33, 134, 7, 5, 0, [1])
  | 134 => (.ineg, 135, 0, 0, 0, [])
  | 135 => (.ireturn, 136, 0, 0, 0, [])
  | 136 => (.aload_n 0, 137, 0, 0, 0, [])
  | 137 => (.bipush 10, 139, 0, 0, 10, [])
  | 139 => (.aload_n 2, 140, 2, 0, 0, [])
  | 140 => (.iload_n 3, 141, 3, 0, 0, [])
  | 141 => (.iload 5, 143, 5, 0, 0, [])
  | 143 => (.invokevirtual 33, 146, 7, 5, 0, [1])
  | 146 => (.bipush 100, 148, 0, 0, 100, [])
  | 148 => (.isub, 149, 0, 0, 0, [])
  | 149 => (.ireturn, 150, 0, 0, 0, [])
  | 150 => (.iconst 2, 151, 0, 0, 2, [])
  | 151 => (.aload_n 0, 152, 0, 0, 0, [])
  | 152 => (.bipush 13, 154, 0, 0, 13, [])
  | 154 => (.aload_n 2, 155, 2, 0, 0, [])
  | 155 => (.iload_n 3, 156, 3, 0, 0, [])
  | 156 => (.iload 5, 158, 5, 0, 0, [])
  | 158 => (.invokevirtual 33, 161, 7, 5, 0, [1])
  | 161 => (.imul, 162, 0, 0, 0, [])
  | 162 => (.ireturn, 163, 0, 0, 0, [])
  | 163 => (.iload_n 3, 164, 3, 0, 0, [])
  | 164 => (.ireturn, 165, 0, 0, 0, [])
  | 165 => (.aload_n 0, 166, 0, 0, 0, [])
  | 166 => (.bipush 20, 168, 0, 0, 20, [])
  | 168 => (.aload_n 2, 169, 2, 0, 0, [])
  | 169 => (.iload_n 3, 170, 3, 0, 0, [])
  | 170 => (.iload 5, 172, 5, 0, 0, [])
  | 172 => (.invokevirtual 33, 175, 7, 5, 0, [1])
  | 175 => (.aload_n 2, 176, 2, 0, 0, [])
  | 176 => (.getfield 36, 179, 5, 1, 3, [])
  | 179 => (.iload_n 3, 180, 3, 0, 0, [])
  | 180 => (.iaload, 181, 0, 0, 0, [])
  | 181 => (.iadd, 182, 0, 0, 0, [])
  | 182 => (.ireturn, 183, 0, 0, 0, [])
  | 183 => (.aload_n 0, 184, 0, 0, 0, [])
  | 184 => (.bipush 21, 186, 0, 0, 21, [])
  | 186 => (.aload_n 2, 187, 2, 0, 0, [])
  | 187 => (.iload_n 3, 188, 3, 0, 0, [])
  | 188 => (.iload 5, 190, 5, 0, 0, [])
  | 190 => (.invokevirtual 33, 193, 7, 5, 0, [1])
  | 193 => (.sipush 1000, 196, 0, 0, 1000, [])
  | 196 => (.isub, 197, 0, 0, 0, [])
  | 197 => (.ireturn, 198, 0, 0, 0, [])
  | 198 => (.aload_n 0, 199, 0, 0, 0, [])
  | 199 => (.bipush 20, 201, 0, 0, 20, [])
  | 201 => (.aload_n 2, 202, 2, 0, 0, [])
  | 202 => (.iload_n 3, 203, 3, 0, 0, [])
  | 203 => (.iload 5, 205, 5, 0, 0, [])
  | 205 => (.invokevirtual 33, 208, 7, 5, 0, [1])
  | 208 => (.aload_n 0, 209, 0, 0, 0, [])
  | 209 => (.iconst 0, 210, 0, 0, 0, [])
  | 210 => (.aload_n 2, 211, 2, 0, 0, [])
  | 211 => (.iload_n 3, 212, 3, 0, 0, [])
  | 212 => (.iload 5, 214, 5, 0, 0, [])
  | 214 => (.invokevirtual 20, 217, 8, 5, 0, [1])
  | 217 => (.isub, 218, 0, 0, 0, [])
  | 218 => (.ireturn, 219, 0, 0, 0, [])
  | 219 => (.iconst 2, 220, 0, 0, 2, [])
  | 220 => (.aload_n 0, 221, 0, 0, 0, [])
  | 221 => (.bipush 21, 223, 0, 0, 21, [])
  | 223 => (.aload_n 2, 224, 2, 0, 0, [])
  | 224 => (.iload_n 3, 225, 3, 0, 0, [])
  | 225 => (.iload 5, 227, 5, 0, 0, [])
  | 227 => (.invokevirtual 33, 230, 7, 5, 0, [1])
  | 230 => (.imul, 231, 0, 0, 0, [])
  | 231 => (.ireturn, 232, 0, 0, 0, [])
  | 232 => (.iconst 0, 233, 0, 0, 0, [])
  | 233 => (.ireturn, 234, 0, 0, 0, [])
  | _ => (.nop, 1, 0, 0, 0, [])
def kt_Asker_askAnew : Nat → kx_E
  | 0 => (.aload_n 0, 1, 0, 0, 0, [])
  | 1 => (.aload_n 2, 2, 2, 0, 0, [])
  | 2 => (.getfield 39, 5, 5, 1, 0, [])
  | 5 => (.iload_n 3, 6, 3, 0, 0, [])
  | 6 => (.iaload, 7, 0, 0, 0, [])
  | 7 => (.iload_n 1, 8, 1, 0, 0, [])
  | 8 => (.invokestatic 42, 11, 29, 2, 0, [])
  | 11 => (.aload_n 2, 12, 2, 0, 0, [])
  | 12 => (.iload_n 3, 13, 3, 0, 0, [])
  | 13 => (.iload 4, 15, 4, 0, 0, [])
  | 15 => (.invokevirtual 33, 18, 7, 5, 0, [1])
  | 18 => (.ireturn, 19, 0, 0, 0, [])
  | _ => (.nop, 1, 0, 0, 0, [])
def kt_Asker_leaveNumber : Nat → kx_E
  | 0 => (.aload_n 0, 1, 0, 0, 0, [])
  | 1 => (.getfield 15, 4, 1, 0, 1, [])
  | 4 => (.bipush 16, 6, 0, 0, 16, [])
  | 6 => (.if_icmp .ge 23, 9, 29, 0, 0, [])
  | 9 => (.aload_n 0, 10, 0, 0, 0, [])
  | 10 => (.getfield 11, 13, 1, 1, 0, [])
  | 13 => (.aload_n 0, 14, 0, 0, 0, [])
  | 14 => (.getfield 15, 17, 1, 0, 1, [])
  | 17 => (.iload_n 1, 18, 1, 0, 0, [])
  | 18 => (.iastore, 19, 0, 0, 0, [])
  | 19 => (.aload_n 0, 20, 0, 0, 0, [])
  | 20 => (.dup, 21, 0, 0, 0, [])
  | 21 => (.getfield 15, 24, 1, 0, 1, [])
  | 24 => (.iconst 1, 25, 0, 0, 1, [])
  | 25 => (.iadd, 26, 0, 0, 0, [])
  | 26 => (.putfield 15, 29, 1, 0, 1, [])
  | 29 => (.return_, 30, 0, 0, 0, [])
  | _ => (.nop, 1, 0, 0, 0, [])
def kt_Fore_init : Nat → kx_E
  | 0 => (.aload_n 0, 1, 0, 0, 0, [])
  | 1 => (.invokespecial 5, 4, 0, 0, 1, [])
  | 4 => (.aload_n 0, 5, 0, 0, 0, [])
  | 5 => (.new 11, 8, 5, 0, 0, [])
  | 8 => (.dup, 9, 0, 0, 0, [])
  | 9 => (.invokespecial 13, 12, 52, 1, 0, [])
  | 12 => (.putfield 14, 15, 2, 1, 1, [])
  | 15 => (.aload_n 0, 16, 0, 0, 0, [])
  | 16 => (.bipush 61, 18, 0, 0, 61, [])
  | 18 => (.newarray .long, 20, 3, 0, 0, [])
  | 20 => (.putfield 18, 23, 2, 1, 2, [])
  | 23 => (.aload_n 0, 24, 0, 0, 0, [])
  | 24 => (.aload_n 1, 25, 1, 0, 0, [])
  | 25 => (.putfield 22, 28, 2, 1, 0, [])
  | 28 => (.return_, 29, 0, 0, 0, [])
  | _ => (.nop, 1, 0, 0, 0, [])
def kt_Fore_holderBehind : Nat → kx_E
  | 0 => (.aload_n 0, 1, 0, 0, 0, [])
  | 1 => (.getfield 14, 4, 2, 1, 1, [])
  | 4 => (.aload_n 0, 5, 0, 0, 0, [])
  | 5 => (.getfield 22, 8, 2, 1, 0, [])
  | 8 => (.invokevirtual 25, 11, 54, 2, 0, [5])
  | 11 => (.aload_n 0, 12, 0, 0, 0, [])
  | 12 => (.iload_n 1, 13, 1, 0, 0, [])
  | 13 => (.invokevirtual 29, 16, 22, 2, 0, [2])
  | 16 => (.aload_n 0, 17, 0, 0, 0, [])
  | 17 => (.getfield 14, 20, 2, 1, 1, [])
  | 20 => (.getfield 33, 23, 5, 0, 11, [])
  | 23 => (.ireturn, 24, 0, 0, 0, [])
  | _ => (.nop, 1, 0, 0, 0, [])
def kt_Fore_stepsUntilHolder : Nat → kx_E
  | 0 => (.aload_n 0, 1, 0, 0, 0, [])
  | 1 => (.getfield 14, 4, 2, 1, 1, [])
  | 4 => (.aload_n 0, 5, 0, 0, 0, [])
  | 5 => (.getfield 22, 8, 2, 1, 0, [])
  | 8 => (.invokevirtual 25, 11, 54, 2, 0, [5])
  | 11 => (.iconst 0, 12, 0, 0, 0, [])
  | 12 => (.istore_n 2, 13, 2, 0, 0, [])
  | 13 => (.iload_n 2, 14, 2, 0, 0, [])
  | 14 => (.bipush 60, 16, 0, 0, 60, [])
  | 16 => (.if_icmp .gt 30, 19, 46, 0, 0, [])
  | 19 => (.aload_n 0, 20, 0, 0, 0, [])
  | 20 => (.getfield 14, 23, 2, 1, 1, [])
  | 23 => (.getfield 33, 26, 5, 0, 11, [])
  | 26 => (.iload_n 1, 27, 1, 0, 0, [])
  | 27 => (.if_icmp .ne 5, 30, 32, 0, 0, [])
  | 30 => (.iload_n 2, 31, 2, 0, 0, [])
  | 31 => (.ireturn, 32, 0, 0, 0, [])
  | 32 => (.aload_n 0, 33, 0, 0, 0, [])
  | 33 => (.getfield 14, 36, 2, 1, 1, [])
  | 36 => (.invokevirtual 37, 39, 61, 1, 0, [5])
  | 39 => (.pop, 40, 0, 0, 0, [])
  | 40 => (.iinc 2 1, 43, 2, 0, 1, [])
  | 43 => (.goto (-30), 46, 13, 0, 0, [])
  | 46 => (.ldc 41, 48, 0, 0, (-1000000), [])
  | 48 => (.ireturn, 49, 0, 0, 0, [])
  | _ => (.nop, 1, 0, 0, 0, [])
def kt_Fore_holdersWithin : Nat → kx_E
  | 0 => (.aload_n 0, 1, 0, 0, 0, [])
  | 1 => (.getfield 14, 4, 2, 1, 1, [])
  | 4 => (.aload_n 0, 5, 0, 0, 0, [])
  | 5 => (.getfield 22, 8, 2, 1, 0, [])
  | 8 => (.invokevirtual 25, 11, 54, 2, 0, [5])
  | 11 => (.iconst 1, 12, 0, 0, 1, [])
  | 12 => (.aload_n 0, 13, 0, 0, 0, [])
  | 13 => (.getfield 14, 16, 2, 1, 1, [])
  | 16 => (.getfield 33, 19, 5, 0, 11, [])
  | 19 => (.ishl, 20, 0, 0, 0, [])
  | 20 => (.istore_n 2, 21, 2, 0, 0, [])
  | 21 => (.iconst 0, 22, 0, 0, 0, [])
  | 22 => (.istore_n 3, 23, 3, 0, 0, [])
  | 23 => (.iload_n 3, 24, 3, 0, 0, [])
  | 24 => (.iload_n 1, 25, 1, 0, 0, [])
  | 25 => (.if_icmp .ge 29, 28, 54, 0, 0, [])
  | 28 => (.aload_n 0, 29, 0, 0, 0, [])
  | 29 => (.getfield 14, 32, 2, 1, 1, [])
  | 32 => (.invokevirtual 37, 35, 61, 1, 0, [5])
  | 35 => (.pop, 36, 0, 0, 0, [])
  | 36 => (.iload_n 2, 37, 2, 0, 0, [])
  | 37 => (.iconst 1, 38, 0, 0, 1, [])
  | 38 => (.aload_n 0, 39, 0, 0, 0, [])
  | 39 => (.getfield 14, 42, 2, 1, 1, [])
  | 42 => (.getfield 33, 45, 5, 0, 11, [])
  | 45 => (.ishl, 46, 0, 0, 0, [])
  | 46 => (.ior, 47, 0, 0, 0, [])
  | 47 => (.istore_n 2, 48, 2, 0, 0, [])
  | 48 => (.iinc 3 1, 51, 3, 0, 1, [])
  | 51 => (.goto (-28), 54, 23, 0, 0, [])
  | 54 => (.iload_n 2, 55, 2, 0, 0, [])
  | 55 => (.ireturn, 56, 0, 0, 0, [])
  | _ => (.nop, 1, 0, 0, 0, [])
def kt_Fore_repetition : Nat → kx_E
  | 0 => (.aload_n 0, 1, 0, 0, 0, [])
  | 1 => (.getfield 14, 4, 2, 1, 1, [])
  | 4 => (.aload_n 0, 5, 0, 0, 0, [])
  | 5 => (.getfield 22, 8, 2, 1, 0, [])
  | 8 => (.invokevirtual 25, 11, 54, 2, 0, [5])
  | 11 => (.aload_n 0, 12, 0, 0, 0, [])
  | 12 => (.getfield 18, 15, 2, 1, 2, [])
  | 15 => (.iconst 0, 16, 0, 0, 0, [])
  | 16 => (.aload_n 0, 17, 0, 0, 0, [])
  | 17 => (.invokevirtual 42, 20, 25, 1, 0, [2])
  | 20 => (.lastore, 21, 0, 0, 0, [])
  | 21 => (.iconst 1, 22, 0, 0, 1, [])
  | 22 => (.istore_n 2, 23, 2, 0, 0, [])
  | 23 => (.iload_n 2, 24, 2, 0, 0, [])
  | 24 => (.bipush 60, 26, 0, 0, 60, [])
  | 26 => (.if_icmp .gt 48, 29, 74, 0, 0, [])
  | 29 => (.aload_n 0, 30, 0, 0, 0, [])
  | 30 => (.getfield 14, 33, 2, 1, 1, [])
  | 33 => (.invokevirtual 37, 36, 61, 1, 0, [5])
  | 36 => (.pop, 37, 0, 0, 0, [])
  | 37 => (.aload_n 0, 38, 0, 0, 0, [])
  | 38 => (.getfield 18, 41, 2, 1, 2, [])
  | 41 => (.iload_n 2, 42, 2, 0, 0, [])
  | 42 => (.aload_n 0, 43, 0, 0, 0, [])
  | 43 => (.invokevirtual 42, 46, 25, 1, 0, [2])
  | 46 => (.lastore, 47, 0, 0, 0, [])
  | 47 => (.aload_n 0, 48, 0, 0, 0, [])
  | 48 => (.iload_n 2, 49, 2, 0, 0, [])
  | 49 => (.invokevirtual 46, 52, 26, 2, 0, [2])
  | 52 => (.istore_n 3, 53, 3, 0, 0, [])
  | 53 => (.iload_n 3, 54, 3, 0, 0, [])
  | 54 => (.iload_n 2, 55, 2, 0, 0, [])
  | 55 => (.if_icmp .ge 13, 58, 68, 0, 0, [])
  | 58 => (.iload_n 1, 59, 1, 0, 0, [])
  | 59 => (.ifCond .ne 7, 62, 66, 0, 0, [])
  | 62 => (.iload_n 2, 63, 2, 0, 0, [])
  | 63 => (.goto 4, 66, 67, 0, 0, [])
  | 66 => (.iload_n 3, 67, 3, 0, 0, [])
  | 67 => (.ireturn, 68, 0, 0, 0, [])
  | 68 => (.iinc 2 1, 71, 2, 0, 1, [])
  | 71 => (.goto (-48), 74, 23, 0, 0, [])
  | 74 => (.ldc 41, 76, 0, 0, (-1000000), [])
  | 76 => (.ireturn, 77, 0, 0, 0, [])
  | _ => (.nop, 1, 0, 0, 0, [])
def kt_Fore_stepOfDone : Nat → kx_E
  | 0 => (.aload_n 0, 1, 0, 0, 0, [])
  | 1 => (.getfield 22, 4, 2, 1, 0, [])
  | 4 => (.getfield 50, 7, 5, 1, 6, [])
  | 7 => (.iload_n 1, 8, 1, 0, 0, [])
  | 8 => (.iaload, 9, 0, 0, 0, [])
  | 9 => (.ifCond .ne 32, 12, 41, 0, 0, [])
  | 12 => (.aload_n 0, 13, 0, 0, 0, [])
  | 13 => (.getfield 14, 16, 2, 1, 1, [])
  | 16 => (.aload_n 0, 17, 0, 0, 0, [])
  | 17 => (.getfield 22, 20, 2, 1, 0, [])
  | 20 => (.invokevirtual 25, 23, 54, 2, 0, [5])
  | 23 => (.aload_n 0, 24, 0, 0, 0, [])
  | 24 => (.iload_n 1, 25, 1, 0, 0, [])
  | 25 => (.bipush 60, 27, 0, 0, 60, [])
  | 27 => (.invokevirtual 54, 30, 23, 3, 0, [2])
  | 30 => (.pop, 31, 0, 0, 0, [])
  | 31 => (.aload_n 0, 32, 0, 0, 0, [])
  | 32 => (.getfield 14, 35, 2, 1, 1, [])
  | 35 => (.getfield 58, 38, 5, 1, 7, [])
  | 38 => (.iload_n 1, 39, 1, 0, 0, [])
  | 39 => (.iaload, 40, 0, 0, 0, [])
  | 40 => (.ireturn, 41, 0, 0, 0, [])
  | 41 => (.aload_n 0, 42, 0, 0, 0, [])
  | 42 => (.getfield 22, 45, 2, 1, 0, [])
  | 45 => (.getfield 58, 48, 5, 1, 7, [])
  | 48 => (.iload_n 1, 49, 1, 0, 0, [])
  | 49 => (.iaload, 50, 0, 0, 0, [])
  | 50 => (.ireturn, 51, 0, 0, 0, [])
  | _ => (.nop, 1, 0, 0, 0, [])
def kt_Fore_orderDoneFirst : Nat → kx_E
  | 0 => (.aload_n 0, 1, 0, 0, 0, [])
  | 1 => (.getfield 14, 4, 2, 1, 1, [])
  | 4 => (.aload_n 0, 5, 0, 0, 0, [])
  | 5 => (.getfield 22, 8, 2, 1, 0, [])
  | 8 => (.invokevirtual 25, 11, 54, 2, 0, [5])
  | 11 => (.iconst 0, 12, 0, 0, 0, [])
  | 12 => (.istore_n 1, 13, 1, 0, 0, [])
  | 13 => (.iload_n 1, 14, 1, 0, 0, [])
  | 14 => (.bipush 60, 16, 0, 0, 60, [])
  | 16 => (.if_icmp .ge 37, 19, 53, 0, 0, [])
  | 19 => (.aload_n 0, 20, 0, 0, 0, [])
  | 20 => (.getfield 14, 23, 2, 1, 1, [])
  | 23 => (.invokevirtual 37, 26, 61, 1, 0, [5])
  | 26 => (.istore_n 2, 27, 2, 0, 0, [])
  | 27 => (.iload_n 2, 28, 2, 0, 0, [])
  | 28 => (.iconst (-1), 29, 0, 0, (-1), [])
  | 29 => (.if_icmp .eq 18, 32, 47, 0, 0, [])
  | 32 => (.aload_n 0, 33, 0, 0, 0, [])
  | 33 => (.getfield 14, 36, 2, 1, 1, [])
  | 36 => (.getfield 50, 39, 5, 1, 6, [])
  | 39 => (.iload_n 2, 40, 2, 0, 0, [])
  | 40 => (.iaload, 41, 0, 0, 0, [])
  | 41 => (.iconst 1, 42, 0, 0, 1, [])
  | 42 => (.if_icmp .ne 5, 45, 47, 0, 0, [])
  | 45 => (.iload_n 2, 46, 2, 0, 0, [])
  | 46 => (.ireturn, 47, 0, 0, 0, [])
  | 47 => (.iinc 1 1, 50, 1, 0, 1, [])
  | 50 => (.goto (-37), 53, 13, 0, 0, [])
  | 53 => (.ldc 41, 55, 0, 0, (-1000000), [])
  | 55 => (.ireturn, 56, 0, 0, 0, [])
  | _ => (.nop, 1, 0, 0, 0, [])
def kt_Fore_workWithin : Nat → kx_E
  | 0 => (.aload_n 0, 1, 0, 0, 0, [])
  | 1 => (.getfield 14, 4, 2, 1, 1, [])
  | 4 => (.aload_n 0, 5, 0, 0, 0, [])
  | 5 => (.getfield 22, 8, 2, 1, 0, [])
  | 8 => (.invokevirtual 25, 11, 54, 2, 0, [5])
  | 11 => (.aload_n 0, 12, 0, 0, 0, [])
  | 12 => (.iload_n 2, 13, 2, 0, 0, [])
  | 13 => (.invokevirtual 29, 16, 22, 2, 0, [2])
  | 16 => (.aload_n 0, 17, 0, 0, 0, [])
  | 17 => (.getfield 14, 20, 2, 1, 1, [])
  | 20 => (.getfield 61, 23, 5, 1, 3, [])
  | 23 => (.iload_n 1, 24, 1, 0, 0, [])
  | 24 => (.iaload, 25, 0, 0, 0, [])
  | 25 => (.aload_n 0, 26, 0, 0, 0, [])
  | 26 => (.getfield 22, 29, 2, 1, 0, [])
  | 29 => (.getfield 61, 32, 5, 1, 3, [])
  | 32 => (.iload_n 1, 33, 1, 0, 0, [])
  | 33 => (.iaload, 34, 0, 0, 0, [])
  | 34 => (.isub, 35, 0, 0, 0, [])
  | 35 => (.ireturn, 36, 0, 0, 0, [])
  | _ => (.nop, 1, 0, 0, 0, [])
def kt_Fore_bestGift : Nat → kx_E
  | 0 => (.bipush 61, 2, 0, 0, 61, [])
  | 2 => (.istore_n 3, 3, 3, 0, 0, [])
  | 3 => (.ldc 41, 5, 0, 0, (-1000000), [])
  | 5 => (.istore 4, 7, 4, 0, 0, [])
  | 7 => (.iconst 0, 8, 0, 0, 0, [])
  | 8 => (.istore 5, 10, 5, 0, 0, [])
  | 10 => (.iload 5, 12, 5, 0, 0, [])
  | 12 => (.aload_n 0, 13, 0, 0, 0, [])
  | 13 => (.getfield 22, 16, 2, 1, 0, [])
  | 16 => (.getfield 64, 19, 5, 0, 8, [])
  | 19 => (.if_icmp .ge 52, 22, 71, 0, 0, [])
  | 22 => (.aload_n 0, 23, 0, 0, 0, [])
  | 23 => (.getfield 14, 26, 2, 1, 1, [])
  | 26 => (.aload_n 0, 27, 0, 0, 0, [])
  | 27 => (.getfield 22, 30, 2, 1, 0, [])
  | 30 => (.invokevirtual 25, 33, 54, 2, 0, [5])
  | 33 => (.aload_n 0, 34, 0, 0, 0, [])
  | 34 => (.getfield 14, 37, 2, 1, 1, [])
  | 37 => (.iload 5, 39, 5, 0, 0, [])
  | 39 => (.invokevirtual 67, 42, 60, 2, 0, [5])
  | 42 => (.aload_n 0, 43, 0, 0, 0, [])
  | 43 => (.iload_n 1, 44, 1, 0, 0, [])
  | 44 => (.iload_n 3, 45, 3, 0, 0, [])
  | 45 => (.iconst 1, 46, 0, 0, 1, [])
  | 46 => (.isub, 47, 0, 0, 0, [])
  | 47 => (.invokevirtual 54, 50, 23, 3, 0, [2])
  | 50 => (.istore 6, 52, 6, 0, 0, [])
  | 52 => (.iload 6, 54, 6, 0, 0, [])
  | 54 => (.iload_n 3, 55, 3, 0, 0, [])
  | 55 => (.if_icmp .ge 10, 58, 65, 0, 0, [])
  | 58 => (.iload 6, 60, 6, 0, 0, [])
  | 60 => (.istore_n 3, 61, 3, 0, 0, [])
  | 61 => (.iload 5, 63, 5, 0, 0, [])
  | 63 => (.istore 4, 65, 4, 0, 0, [])
  | 65 => (.iinc 5 1, 68, 5, 0, 1, [])
  | 68 => (.goto (-58), 71, 10, 0, 0, [])
  | 71 => (.iload 4, 73, 4, 0, 0, [])
  | 73 => (.ldc 41, 75, 0, 0, (-1000000), [])
  | 75 => (.if_icmp .ne 6, 78, 81, 0, 0, [])
  | 78 => (.ldc 41, 80, 0, 0, (-1000000), [])
  | 80 => (.ireturn, 81, 0, 0, 0, [])
  | 81 => (.iload_n 2, 82, 2, 0, 0, [])
  | 82 => (.ifCond .ne 8, 85, 90, 0, 0, [])
  | 85 => (.iload 4, 87, 4, 0, 0, [])
  | 87 => (.goto 4, 90, 91, 0, 0, [])
  | 90 => (.iload_n 3, 91, 3, 0, 0, [])
  | 91 => (.ireturn, 92, 0, 0, 0, [])
  | _ => (.nop, 1, 0, 0, 0, [])
def kt_Fore_windsThatBring : Nat → kx_E
  | 0 => (.iconst 0, 1, 0, 0, 0, [])
  | 1 => (.istore_n 3, 2, 3, 0, 0, [])
  | 2 => (.iconst 0, 3, 0, 0, 0, [])
  | 3 => (.istore 4, 5, 4, 0, 0, [])
  | 5 => (.iload 4, 7, 4, 0, 0, [])
  | 7 => (.iconst 5, 8, 0, 0, 5, [])
  | 8 => (.if_icmp .gt 52, 11, 60, 0, 0, [])
  | 11 => (.aload_n 0, 12, 0, 0, 0, [])
  | 12 => (.getfield 14, 15, 2, 1, 1, [])
  | 15 => (.aload_n 0, 16, 0, 0, 0, [])
  | 16 => (.getfield 22, 19, 2, 1, 0, [])
  | 19 => (.invokevirtual 25, 22, 54, 2, 0, [5])
  | 22 => (.aload_n 0, 23, 0, 0, 0, [])
  | 23 => (.getfield 14, 26, 2, 1, 1, [])
  | 26 => (.iload 4, 28, 4, 0, 0, [])
  | 28 => (.putfield 70, 31, 5, 0, 10, [])
  | 31 => (.aload_n 0, 32, 0, 0, 0, [])
  | 32 => (.iload_n 2, 33, 2, 0, 0, [])
  | 33 => (.invokevirtual 29, 36, 22, 2, 0, [2])
  | 36 => (.aload_n 0, 37, 0, 0, 0, [])
  | 37 => (.getfield 14, 40, 2, 1, 1, [])
  | 40 => (.getfield 33, 43, 5, 0, 11, [])
  | 43 => (.iload_n 1, 44, 1, 0, 0, [])
  | 44 => (.if_icmp .ne 10, 47, 54, 0, 0, [])
  | 47 => (.iload_n 3, 48, 3, 0, 0, [])
  | 48 => (.iconst 1, 49, 0, 0, 1, [])
  | 49 => (.iload 4, 51, 4, 0, 0, [])
  | 51 => (.ishl, 52, 0, 0, 0, [])
  | 52 => (.ior, 53, 0, 0, 0, [])
  | 53 => (.istore_n 3, 54, 3, 0, 0, [])
  | 54 => (.iinc 4 1, 57, 4, 0, 1, [])
  | 57 => (.goto (-52), 60, 5, 0, 0, [])
  | 60 => (.iload_n 3, 61, 3, 0, 0, [])
  | 61 => (.ireturn, 62, 0, 0, 0, [])
  | _ => (.nop, 1, 0, 0, 0, [])
def kt_Fore_giftsThatGoAs : Nat → kx_E
  | 0 => (.iconst 0, 1, 0, 0, 0, [])
  | 1 => (.istore 5, 3, 5, 0, 0, [])
  | 3 => (.ldc 41, 5, 0, 0, (-1000000), [])
  | 5 => (.istore 6, 7, 6, 0, 0, [])
  | 7 => (.aload_n 0, 8, 0, 0, 0, [])
  | 8 => (.getfield 22, 11, 2, 1, 0, [])
  | 11 => (.getfield 64, 14, 5, 0, 8, [])
  | 14 => (.iconst 1, 15, 0, 0, 1, [])
  | 15 => (.isub, 16, 0, 0, 0, [])
  | 16 => (.istore 7, 18, 7, 0, 0, [])
  | 18 => (.iload 7, 20, 7, 0, 0, [])
  | 20 => (.ifCond .lt 46, 23, 66, 0, 0, [])
  | 23 => (.aload_n 0, 24, 0, 0, 0, [])
  | 24 => (.getfield 14, 27, 2, 1, 1, [])
  | 27 => (.aload_n 0, 28, 0, 0, 0, [])
  | 28 => (.getfield 22, 31, 2, 1, 0, [])
  | 31 => (.invokevirtual 25, 34, 54, 2, 0, [5])
  | 34 => (.aload_n 0, 35, 0, 0, 0, [])
  | 35 => (.getfield 14, 38, 2, 1, 1, [])
  | 38 => (.iload 7, 40, 7, 0, 0, [])
  | 40 => (.invokevirtual 67, 43, 60, 2, 0, [5])
  | 43 => (.aload_n 0, 44, 0, 0, 0, [])
  | 44 => (.aload_n 1, 45, 1, 0, 0, [])
  | 45 => (.iload_n 2, 46, 2, 0, 0, [])
  | 46 => (.iload_n 3, 47, 3, 0, 0, [])
  | 47 => (.invokevirtual 73, 50, 24, 4, 0, [2])
  | 50 => (.ifCond .eq 10, 53, 60, 0, 0, [])
  | 53 => (.iinc 5 1, 56, 5, 0, 1, [])
  | 56 => (.iload 7, 58, 7, 0, 0, [])
  | 58 => (.istore 6, 60, 6, 0, 0, [])
  | 60 => (.iinc 7 (-1), 63, 7, 0, (-1), [])
  | 63 => (.goto (-45), 66, 18, 0, 0, [])
  | 66 => (.iload 4, 68, 4, 0, 0, [])
  | 68 => (.ifCond .ne 8, 71, 76, 0, 0, [])
  | 71 => (.iload 5, 73, 5, 0, 0, [])
  | 73 => (.goto 5, 76, 78, 0, 0, [])
  | 76 => (.iload 6, 78, 6, 0, 0, [])
  | 78 => (.ireturn, 79, 0, 0, 0, [])
  | _ => (.nop, 1, 0, 0, 0, [])
def kt_Fore_keepsThatGoAs : Nat → kx_E
  | 0 => (.iconst 0, 1, 0, 0, 0, [])
  | 1 => (.istore 5, 3, 5, 0, 0, [])
  | 3 => (.iconst 1, 4, 0, 0, 1, [])
  | 4 => (.istore 6, 6, 6, 0, 0, [])
  | 6 => (.iload 6, 8, 6, 0, 0, [])
  | 8 => (.bipush 9, 10, 0, 0, 9, [])
  | 10 => (.if_icmp .gt 53, 13, 63, 0, 0, [])
  | 13 => (.aload_n 0, 14, 0, 0, 0, [])
  | 14 => (.getfield 14, 17, 2, 1, 1, [])
  | 17 => (.aload_n 0, 18, 0, 0, 0, [])
  | 18 => (.getfield 22, 21, 2, 1, 0, [])
  | 21 => (.invokevirtual 25, 24, 54, 2, 0, [5])
  | 24 => (.aload_n 0, 25, 0, 0, 0, [])
  | 25 => (.getfield 14, 28, 2, 1, 1, [])
  | 28 => (.getfield 77, 31, 5, 1, 1, [])
  | 31 => (.iload_n 1, 32, 1, 0, 0, [])
  | 32 => (.iload 6, 34, 6, 0, 0, [])
  | 34 => (.iastore, 35, 0, 0, 0, [])
  | 35 => (.aload_n 0, 36, 0, 0, 0, [])
  | 36 => (.aload_n 2, 37, 2, 0, 0, [])
  | 37 => (.iload_n 3, 38, 3, 0, 0, [])
  | 38 => (.iload 4, 40, 4, 0, 0, [])
  | 40 => (.invokevirtual 73, 43, 24, 4, 0, [2])
  | 43 => (.ifCond .eq 14, 46, 57, 0, 0, [])
  | 46 => (.iload 5, 48, 5, 0, 0, [])
  | 48 => (.iconst 1, 49, 0, 0, 1, [])
  | 49 => (.iload 6, 51, 6, 0, 0, [])
  | 51 => (.iconst 1, 52, 0, 0, 1, [])
  | 52 => (.isub, 53, 0, 0, 0, [])
  | 53 => (.ishl, 54, 0, 0, 0, [])
  | 54 => (.ior, 55, 0, 0, 0, [])
  | 55 => (.istore 5, 57, 5, 0, 0, [])
  | 57 => (.iinc 6 1, 60, 6, 0, 1, [])
  | 60 => (.goto (-54), 63, 6, 0, 0, [])
  | 63 => (.iload 5, 65, 5, 0, 0, [])
  | 65 => (.ireturn, 66, 0, 0, 0, [])
  | _ => (.nop, 1, 0, 0, 0, [])
def kt_Fore_go : Nat → kx_E
  | 0 => (.iconst 0, 1, 0, 0, 0, [])
  | 1 => (.istore_n 2, 2, 2, 0, 0, [])
  | 2 => (.iload_n 2, 3, 2, 0, 0, [])
  | 3 => (.iload_n 1, 4, 1, 0, 0, [])
  | 4 => (.if_icmp .ge 17, 7, 21, 0, 0, [])
  | 7 => (.aload_n 0, 8, 0, 0, 0, [])
  | 8 => (.getfield 14, 11, 2, 1, 1, [])
  | 11 => (.invokevirtual 37, 14, 61, 1, 0, [5])
  | 14 => (.pop, 15, 0, 0, 0, [])
  | 15 => (.iinc 2 1, 18, 2, 0, 1, [])
  | 18 => (.goto (-16), 21, 2, 0, 0, [])
  | 21 => (.return_, 22, 0, 0, 0, [])
  | _ => (.nop, 1, 0, 0, 0, [])
def kt_Fore_stepsUntilDone : Nat → kx_E
  | 0 => (.iconst 1, 1, 0, 0, 1, [])
  | 1 => (.istore_n 3, 2, 3, 0, 0, [])
  | 2 => (.iload_n 3, 3, 3, 0, 0, [])
  | 3 => (.iload_n 2, 4, 2, 0, 0, [])
  | 4 => (.if_icmp .gt 32, 7, 36, 0, 0, [])
  | 7 => (.aload_n 0, 8, 0, 0, 0, [])
  | 8 => (.getfield 14, 11, 2, 1, 1, [])
  | 11 => (.invokevirtual 37, 14, 61, 1, 0, [5])
  | 14 => (.pop, 15, 0, 0, 0, [])
  | 15 => (.aload_n 0, 16, 0, 0, 0, [])
  | 16 => (.getfield 14, 19, 2, 1, 1, [])
  | 19 => (.getfield 50, 22, 5, 1, 6, [])
  | 22 => (.iload_n 1, 23, 1, 0, 0, [])
  | 23 => (.iaload, 24, 0, 0, 0, [])
  | 24 => (.iconst 1, 25, 0, 0, 1, [])
  | 25 => (.if_icmp .ne 5, 28, 30, 0, 0, [])
  | 28 => (.iload_n 3, 29, 3, 0, 0, [])
  | 29 => (.ireturn, 30, 0, 0, 0, [])
  | 30 => (.iinc 3 1, 33, 3, 0, 1, [])
  | 33 => (.goto (-31), 36, 2, 0, 0, [])
  | 36 => (.bipush 61, 38, 0, 0, 61, [])
  | 38 => (.ireturn, 39, 0, 0, 0, [])
  | _ => (.nop, 1, 0, 0, 0, [])
def kt_Fore_goesAs : Nat → kx_E
  | 0 => (.iload_n 2, 1, 2, 0, 0, [])
  | 1 => (.istore 4, 3, 4, 0, 0, [])
  | 3 => (.iload 4, 5, 4, 0, 0, [])
  | 5 => (.iload_n 2, 6, 2, 0, 0, [])
  | 6 => (.iload_n 3, 7, 3, 0, 0, [])
  | 7 => (.iadd, 8, 0, 0, 0, [])
  | 8 => (.if_icmp .ge 47, 11, 55, 0, 0, [])
  | 11 => (.aload_n 0, 12, 0, 0, 0, [])
  | 12 => (.getfield 14, 15, 2, 1, 1, [])
  | 15 => (.invokevirtual 37, 18, 61, 1, 0, [5])
  | 18 => (.pop, 19, 0, 0, 0, [])
  | 19 => (.aload_n 1, 20, 1, 0, 0, [])
  | 20 => (.getfield 80, 23, 3, 1, 0, [])
  | 23 => (.iload 4, 25, 4, 0, 0, [])
  | 25 => (.iaload, 26, 0, 0, 0, [])
  | 26 => (.iconst (-1), 27, 0, 0, (-1), [])
  | 27 => (.if_icmp .eq 22, 30, 49, 0, 0, [])
  | 30 => (.aload_n 1, 31, 1, 0, 0, [])
  | 31 => (.getfield 80, 34, 3, 1, 0, [])
  | 34 => (.iload 4, 36, 4, 0, 0, [])
  | 36 => (.iaload, 37, 0, 0, 0, [])
  | 37 => (.aload_n 0, 38, 0, 0, 0, [])
  | 38 => (.getfield 14, 41, 2, 1, 1, [])
  | 41 => (.getfield 33, 44, 5, 0, 11, [])
  | 44 => (.if_icmp .eq 5, 47, 49, 0, 0, [])
  | 47 => (.iconst 0, 48, 0, 0, 0, [])
  | 48 => (.ireturn, 49, 1, 0, 0, [])
  | 49 => (.iinc 4 1, 52, 4, 0, 1, [])
  | 52 => (.goto (-49), 55, 3, 0, 0, [])
  | 55 => (.iconst 1, 56, 0, 0, 1, [])
  | 56 => (.ireturn, 57, 1, 0, 0, [])
  | _ => (.nop, 1, 0, 0, 0, [])
def kt_Fore_markOfTrial : Nat → kx_E
  | 0 => (.aload_n 0, 1, 0, 0, 0, [])
  | 1 => (.getfield 14, 4, 2, 1, 1, [])
  | 4 => (.getfield 85, 7, 5, 0, 12, [])
  | 7 => (.i2l, 8, 0, 0, 0, [])
  | 8 => (.lstore_n 1, 9, 1, 0, 0, [])
  | 9 => (.lload_n 1, 10, 1, 0, 0, [])
  | 10 => (.iconst 3, 11, 0, 0, 3, [])
  | 11 => (.lshl, 12, 0, 0, 0, [])
  | 12 => (.aload_n 0, 13, 0, 0, 0, [])
  | 13 => (.getfield 14, 16, 2, 1, 1, [])
  | 16 => (.getfield 33, 19, 5, 0, 11, [])
  | 19 => (.i2l, 20, 0, 0, 0, [])
  | 20 => (.lor, 21, 0, 0, 0, [])
  | 21 => (.lstore_n 1, 22, 1, 0, 0, [])
  | 22 => (.iconst 0, 23, 0, 0, 0, [])
  | 23 => (.istore_n 3, 24, 3, 0, 0, [])
  | 24 => (.iload_n 3, 25, 3, 0, 0, [])
  | 25 => (.aload_n 0, 26, 0, 0, 0, [])
  | 26 => (.getfield 14, 29, 2, 1, 1, [])
  | 29 => (.getfield 88, 32, 5, 0, 9, [])
  | 32 => (.if_icmp .ge 25, 35, 57, 0, 0, [])
  | 35 => (.lload_n 1, 36, 1, 0, 0, [])
  | 36 => (.bipush 6, 38, 0, 0, 6, [])
  | 38 => (.lshl, 39, 0, 0, 0, [])
  | 39 => (.aload_n 0, 40, 0, 0, 0, [])
  | 40 => (.getfield 14, 43, 2, 1, 1, [])
  | 43 => (.getfield 91, 46, 5, 1, 5, [])
  | 46 => (.iload_n 3, 47, 3, 0, 0, [])
  | 47 => (.iaload, 48, 0, 0, 0, [])
  | 48 => (.i2l, 49, 0, 0, 0, [])
  | 49 => (.lor, 50, 0, 0, 0, [])
  | 50 => (.lstore_n 1, 51, 1, 0, 0, [])
  | 51 => (.iinc 3 1, 54, 3, 0, 1, [])
  | 54 => (.goto (-30), 57, 24, 0, 0, [])
  | 57 => (.lload_n 1, 58, 1, 0, 0, [])
  | 58 => (.lreturn, 59, 0, 0, 0, [])
  | _ => (.nop, 1, 0, 0, 0, [])
def kt_Fore_earliestWithMarkOf : Nat → kx_E
  | 0 => (.iconst 0, 1, 0, 0, 0, [])
  | 1 => (.istore_n 2, 2, 2, 0, 0, [])
  | 2 => (.iload_n 2, 3, 2, 0, 0, [])
  | 3 => (.iload_n 1, 4, 1, 0, 0, [])
  | 4 => (.if_icmp .ge 27, 7, 31, 0, 0, [])
  | 7 => (.aload_n 0, 8, 0, 0, 0, [])
  | 8 => (.getfield 18, 11, 2, 1, 2, [])
  | 11 => (.iload_n 2, 12, 2, 0, 0, [])
  | 12 => (.laload, 13, 0, 0, 0, [])
  | 13 => (.aload_n 0, 14, 0, 0, 0, [])
  | 14 => (.getfield 18, 17, 2, 1, 2, [])
  | 17 => (.iload_n 1, 18, 1, 0, 0, [])
  | 18 => (.laload, 19, 0, 0, 0, [])
  | 19 => (.lcmp, 20, 0, 0, 0, [])
  | 20 => (.ifCond .ne 5, 23, 25, 0, 0, [])
  | 23 => (.iload_n 2, 24, 2, 0, 0, [])
  | 24 => (.ireturn, 25, 0, 0, 0, [])
  | 25 => (.iinc 2 1, 28, 2, 0, 1, [])
  | 28 => (.goto (-26), 31, 2, 0, 0, [])
  | 31 => (.iload_n 1, 32, 1, 0, 0, [])
  | 32 => (.ireturn, 33, 0, 0, 0, [])
  | _ => (.nop, 1, 0, 0, 0, [])
def kt_Kinds_told : Nat → kx_E
  | 0 => (.bipush 97, 2, 0, 0, 97, [])
  | 2 => (.iload_n 0, 3, 0, 0, 0, [])
  | 3 => (.if_icmp .gt 13, 6, 16, 0, 0, [])
  | 6 => (.iload_n 0, 7, 0, 0, 0, [])
  | 7 => (.bipush 122, 9, 0, 0, 122, [])
  | 9 => (.if_icmp .gt 7, 12, 16, 0, 0, [])
  | 12 => (.iconst 1, 13, 0, 0, 1, [])
  | 13 => (.goto 4, 16, 17, 0, 0, [])
  | 16 => (.iconst 0, 17, 0, 0, 0, [])
  | 17 => (.istore_n 1, 18, 1, 0, 0, [])
  | 18 => (.iload_n 1, 19, 1, 0, 0, [])
  | 19 => (.ifCond .eq 15, 22, 34, 0, 0, [])
  | 22 => (.ldc 9, 24, 1, 105, 0, [])
  | 24 => (.iload_n 0, 25, 0, 0, 0, [])
  | 25 => (.i2c, 26, 0, 0, 0, [])
  | 26 => (.invokevirtual 11, 29, 197, 2, 0, [8])
  | 29 => (.iconst 1, 30, 0, 0, 1, [])
  | 30 => (.iadd, 31, 0, 0, 0, [])
  | 31 => (.goto 4, 34, 35, 0, 0, [])
  | 34 => (.iconst 0, 35, 0, 0, 0, [])
  | 35 => (.ireturn, 36, 0, 0, 0, [])
  | _ => (.nop, 1, 0, 0, 0, [])
def kt_Kinds_isOne : Nat → kx_E
  | 0 => (.iload_n 0, 1, 0, 0, 0, [])
  | 1 => (.istore_n 2, 2, 2, 0, 0, [])
  | 2 => (.iconst 0, 3, 0, 0, 0, [])
  | 3 => (.istore_n 3, 4, 3, 0, 0, [])
  | 4 => (.iload_n 3, 5, 3, 0, 0, [])
  | 5 => (.bipush 6, 7, 0, 0, 6, [])
  | 7 => (.if_icmp .ge 22, 10, 29, 0, 0, [])
  | 10 => (.iload_n 2, 11, 2, 0, 0, [])
  | 11 => (.iload_n 1, 12, 1, 0, 0, [])
  | 12 => (.if_icmp .ne 5, 15, 17, 0, 0, [])
  | 15 => (.iconst 1, 16, 0, 0, 1, [])
  | 16 => (.ireturn, 17, 1, 0, 0, [])
  | 17 => (.getstatic 17, 20, 0, 101, 0, [])
  | 20 => (.iload_n 2, 21, 2, 0, 0, [])
  | 21 => (.iaload, 22, 0, 0, 0, [])
  | 22 => (.istore_n 2, 23, 2, 0, 0, [])
  | 23 => (.iinc 3 1, 26, 3, 0, 1, [])
  | 26 => (.goto (-22), 29, 4, 0, 0, [])
  | 29 => (.iconst 0, 30, 0, 0, 0, [])
  | 30 => (.ireturn, 31, 1, 0, 0, [])
  | _ => (.nop, 1, 0, 0, 0, [])
def kt_Kinds_bodyOf : Nat → kx_E
  | 0 => (.iload_n 1, 1, 1, 0, 0, [])
  | 1 => (.ifCond .ne 9, 4, 10, 0, 0, [])
  | 4 => (.getstatic 21, 7, 0, 102, 0, [])
  | 7 => (.goto 6, 10, 13, 0, 0, [])
  | 10 => (.getstatic 24, 13, 0, 103, 0, [])
  | 13 => (.astore_n 2, 14, 2, 0, 0, [])
  | 14 => (.iload_n 0, 15, 0, 0, 0, [])
  | 15 => (.istore_n 3, 16, 3, 0, 0, [])
  | 16 => (.iconst 0, 17, 0, 0, 0, [])
  | 17 => (.istore 4, 19, 4, 0, 0, [])
  | 19 => (.iload 4, 21, 4, 0, 0, [])
  | 21 => (.bipush 6, 23, 0, 0, 6, [])
  | 23 => (.if_icmp .ge 25, 26, 48, 0, 0, [])
  | 26 => (.aload_n 2, 27, 2, 0, 0, [])
  | 27 => (.iload_n 3, 28, 3, 0, 0, [])
  | 28 => (.iaload, 29, 0, 0, 0, [])
  | 29 => (.ifCond .eq 7, 32, 36, 0, 0, [])
  | 32 => (.aload_n 2, 33, 2, 0, 0, [])
  | 33 => (.iload_n 3, 34, 3, 0, 0, [])
  | 34 => (.iaload, 35, 0, 0, 0, [])
  | 35 => (.ireturn, 36, 0, 0, 0, [])
  | 36 => (.getstatic 17, 39, 0, 101, 0, [])
  | 39 => (.iload_n 3, 40, 3, 0, 0, [])
  | 40 => (.iaload, 41, 0, 0, 0, [])
  | 41 => (.istore_n 3, 42, 3, 0, 0, [])
  | 42 => (.iinc 4 1, 45, 4, 0, 1, [])
  | 45 => (.goto (-26), 48, 19, 0, 0, [])
  | 48 => (.aload_n 2, 49, 2, 0, 0, [])
  | 49 => (.iconst 0, 50, 0, 0, 0, [])
  | 50 => (.iaload, 51, 0, 0, 0, [])
  | 51 => (.ireturn, 52, 0, 0, 0, [])
  | _ => (.nop, 1, 0, 0, 0, [])
def kt_Row_init : Nat → kx_E
  | 0 => (.aload_n 0, 1, 0, 0, 0, [])
  | 1 => (.invokespecial 1, 4, 0, 0, 1, [])
  | 4 => (.aload_n 0, 5, 0, 0, 0, [])
  | 5 => (.bipush 40, 7, 0, 0, 40, [])
  | 7 => (.newarray .int, 9, 2, 0, 0, [])
  | 9 => (.putfield 9, 12, 3, 1, 0, [])
  | 12 => (.aload_n 0, 13, 0, 0, 0, [])
  | 13 => (.iconst 0, 14, 0, 0, 0, [])
  | 14 => (.putfield 13, 17, 3, 0, 1, [])
  | 17 => (.aload_n 0, 18, 0, 0, 0, [])
  | 18 => (.iconst (-1), 19, 0, 0, (-1), [])
  | 19 => (.putfield 17, 22, 3, 0, 2, [])
  | 22 => (.return_, 23, 0, 0, 0, [])
  | _ => (.nop, 1, 0, 0, 0, [])
def kt_Row_isMissing : Nat → kx_E
  | 0 => (.aload_n 0, 1, 0, 0, 0, [])
  | 1 => (.getfield 17, 4, 3, 0, 2, [])
  | 4 => (.iconst (-1), 5, 0, 0, (-1), [])
  | 5 => (.if_icmp .ne 7, 8, 12, 0, 0, [])
  | 8 => (.iconst 1, 9, 0, 0, 1, [])
  | 9 => (.goto 4, 12, 13, 0, 0, [])
  | 12 => (.iconst 0, 13, 0, 0, 0, [])
  | 13 => (.ireturn, 14, 1, 0, 0, [])
  | _ => (.nop, 1, 0, 0, 0, [])
def kt_Row_lay : Nat → kx_E
  | 0 => (.aload_n 0, 1, 0, 0, 0, [])
  | 1 => (.getfield 9, 4, 3, 1, 0, [])
  | 4 => (.iconst 0, 5, 0, 0, 0, [])
  | 5 => (.invokestatic 20, 8, 194, 2, 0, [])
  | 8 => (.aload_n 0, 9, 0, 0, 0, [])
  | 9 => (.iload_n 1, 10, 1, 0, 0, [])
  | 10 => (.putfield 13, 13, 3, 0, 1, [])
  | 13 => (.aload_n 0, 14, 0, 0, 0, [])
  | 14 => (.iload_n 2, 15, 2, 0, 0, [])
  | 15 => (.putfield 17, 18, 3, 0, 2, [])
  | 18 => (.return_, 19, 0, 0, 0, [])
  | _ => (.nop, 1, 0, 0, 0, [])
def kt_Row_remove : Nat → kx_E
  | 0 => (.aload_n 0, 1, 0, 0, 0, [])
  | 1 => (.getfield 17, 4, 3, 0, 2, [])
  | 4 => (.istore_n 1, 5, 1, 0, 0, [])
  | 5 => (.aload_n 0, 6, 0, 0, 0, [])
  | 6 => (.iconst (-1), 7, 0, 0, (-1), [])
  | 7 => (.putfield 17, 10, 3, 0, 2, [])
  | 10 => (.iload_n 1, 11, 1, 0, 0, [])
  | 11 => (.ireturn, 12, 0, 0, 0, [])
  | _ => (.nop, 1, 0, 0, 0, [])
def kt_Row_hasPlaces : Nat → kx_E
  | 0 => (.iload_n 1, 1, 1, 0, 0, [])
  | 1 => (.ifCond .lt 25, 4, 26, 0, 0, [])
  | 4 => (.iload_n 2, 5, 2, 0, 0, [])
  | 5 => (.ifCond .lt 21, 8, 26, 0, 0, [])
  | 8 => (.iload_n 1, 9, 1, 0, 0, [])
  | 9 => (.i2l, 10, 0, 0, 0, [])
  | 10 => (.iload_n 2, 11, 2, 0, 0, [])
  | 11 => (.i2l, 12, 0, 0, 0, [])
  | 12 => (.ladd, 13, 0, 0, 0, [])
  | 13 => (.aload_n 0, 14, 0, 0, 0, [])
  | 14 => (.getfield 17, 17, 3, 0, 2, [])
  | 17 => (.i2l, 18, 0, 0, 0, [])
  | 18 => (.lcmp, 19, 0, 0, 0, [])
  | 19 => (.ifCond .gt 7, 22, 26, 0, 0, [])
  | 22 => (.iconst 1, 23, 0, 0, 1, [])
  | 23 => (.goto 4, 26, 27, 0, 0, [])
  | 26 => (.iconst 0, 27, 0, 0, 0, [])
  | 27 => (.ireturn, 28, 1, 0, 0, [])
  | _ => (.nop, 1, 0, 0, 0, [])
def kt_Row_put : Nat → kx_E
  | 0 => (.aload_n 0, 1, 0, 0, 0, [])
  | 1 => (.getfield 9, 4, 3, 1, 0, [])
  | 4 => (.iload_n 1, 5, 1, 0, 0, [])
  | 5 => (.aload_n 0, 6, 0, 0, 0, [])
  | 6 => (.iload_n 2, 7, 2, 0, 0, [])
  | 7 => (.invokevirtual 26, 10, 36, 2, 0, [3])
  | 10 => (.iastore, 11, 0, 0, 0, [])
  | 11 => (.aload_n 0, 12, 0, 0, 0, [])
  | 12 => (.getfield 9, 15, 3, 1, 0, [])
  | 15 => (.iload_n 1, 16, 1, 0, 0, [])
  | 16 => (.iaload, 17, 0, 0, 0, [])
  | 17 => (.ireturn, 18, 0, 0, 0, [])
  | _ => (.nop, 1, 0, 0, 0, [])
def kt_Row_cutToLane : Nat → kx_E
  | 0 => (.aload_n 0, 1, 0, 0, 0, [])
  | 1 => (.getfield 13, 4, 3, 0, 1, [])
  | 4 => (.lookupswitch 34 #[(0, 28), (1, 31)], 32, 38, 0, 0, [32, 35])
  | 32 => (.iload_n 1, 33, 1, 0, 0, [])
  | 33 => (.i2b, 34, 0, 0, 0, [])
  | 34 => (.ireturn, 35, 0, 0, 0, [])
  | 35 => (.iload_n 1, 36, 1, 0, 0, [])
  | 36 => (.i2s, 37, 0, 0, 0, [])
  | 37 => (.ireturn, 38, 0, 0, 0, [])
  | 38 => (.iload_n 1, 39, 1, 0, 0, [])
  | 39 => (.ireturn, 40, 0, 0, 0, [])
  | _ => (.nop, 1, 0, 0, 0, [])
def kt_Tape_init : Nat → kx_E
  | 0 => (.aload_n 0, 1, 0, 0, 0, [])
  | 1 => (.invokespecial 1, 4, 0, 0, 1, [])
  | 4 => (.aload_n 0, 5, 0, 0, 0, [])
  | 5 => (.bipush 120, 7, 0, 0, 120, [])
  | 7 => (.newarray .int, 9, 2, 0, 0, [])
  | 9 => (.putfield 9, 12, 4, 1, 0, [])
  | 12 => (.return_, 13, 0, 0, 0, [])
  | _ => (.nop, 1, 0, 0, 0, [])
def kt_Tape_isFull : Nat → kx_E
  | 0 => (.aload_n 0, 1, 0, 0, 0, [])
  | 1 => (.getfield 13, 4, 4, 0, 1, [])
  | 4 => (.bipush 120, 6, 0, 0, 120, [])
  | 6 => (.if_icmp .lt 7, 9, 13, 0, 0, [])
  | 9 => (.iconst 1, 10, 0, 0, 1, [])
  | 10 => (.goto 4, 13, 14, 0, 0, [])
  | 13 => (.iconst 0, 14, 0, 0, 0, [])
  | 14 => (.ireturn, 15, 1, 0, 0, [])
  | _ => (.nop, 1, 0, 0, 0, [])
def kt_Tape_add : Nat → kx_E
  | 0 => (.aload_n 0, 1, 0, 0, 0, [])
  | 1 => (.getfield 9, 4, 4, 1, 0, [])
  | 4 => (.aload_n 0, 5, 0, 0, 0, [])
  | 5 => (.getfield 13, 8, 4, 0, 1, [])
  | 8 => (.iload_n 1, 9, 1, 0, 0, [])
  | 9 => (.iastore, 10, 0, 0, 0, [])
  | 10 => (.aload_n 0, 11, 0, 0, 0, [])
  | 11 => (.dup, 12, 0, 0, 0, [])
  | 12 => (.getfield 13, 15, 4, 0, 1, [])
  | 15 => (.iconst 1, 16, 0, 0, 1, [])
  | 16 => (.iadd, 17, 0, 0, 0, [])
  | 17 => (.putfield 13, 20, 4, 0, 1, [])
  | 20 => (.aload_n 0, 21, 0, 0, 0, [])
  | 21 => (.getfield 13, 24, 4, 0, 1, [])
  | 24 => (.ireturn, 25, 0, 0, 0, [])
  | _ => (.nop, 1, 0, 0, 0, [])
def kt_Tape_empty : Nat → kx_E
  | 0 => (.aload_n 0, 1, 0, 0, 0, [])
  | 1 => (.iconst 0, 2, 0, 0, 0, [])
  | 2 => (.putfield 13, 5, 4, 0, 1, [])
  | 5 => (.return_, 6, 0, 0, 0, [])
  | _ => (.nop, 1, 0, 0, 0, [])
def kt_Tape_readInto : Nat → kx_E
  | 0 => (.aload_n 1, 1, 1, 0, 0, [])
  | 1 => (.invokevirtual 17, 4, 53, 1, 0, [5])
  | 4 => (.aload_n 0, 5, 0, 0, 0, [])
  | 5 => (.iconst 0, 6, 0, 0, 0, [])
  | 6 => (.putfield 22, 9, 4, 0, 4, [])
  | 9 => (.aload_n 0, 10, 0, 0, 0, [])
  | 10 => (.aload_n 1, 11, 1, 0, 0, [])
  | 11 => (.invokevirtual 25, 14, 42, 2, 0, [4])
  | 14 => (.ifCond .eq 23, 17, 37, 0, 0, [])
  | 17 => (.aload_n 0, 18, 0, 0, 0, [])
  | 18 => (.aload_n 1, 19, 1, 0, 0, [])
  | 19 => (.invokevirtual 29, 22, 43, 2, 0, [4])
  | 22 => (.ifCond .eq 15, 25, 37, 0, 0, [])
  | 25 => (.aload_n 0, 26, 0, 0, 0, [])
  | 26 => (.aload_n 1, 27, 1, 0, 0, [])
  | 27 => (.invokevirtual 32, 30, 45, 2, 0, [4])
  | 30 => (.ifCond .eq 7, 33, 37, 0, 0, [])
  | 33 => (.iconst 1, 34, 0, 0, 1, [])
  | 34 => (.goto 4, 37, 38, 0, 0, [])
  | 37 => (.iconst 0, 38, 0, 0, 0, [])
  | 38 => (.ireturn, 39, 1, 0, 0, [])
  | _ => (.nop, 1, 0, 0, 0, [])
def kt_Tape_readLaw : Nat → kx_E
  | 0 => (.aload_n 0, 1, 0, 0, 0, [])
  | 1 => (.bipush 104, 3, 0, 0, 104, [])
  | 3 => (.invokevirtual 35, 6, 47, 2, 0, [4])
  | 6 => (.ifCond .eq 12, 9, 18, 0, 0, [])
  | 9 => (.aload_n 0, 10, 0, 0, 0, [])
  | 10 => (.iconst 0, 11, 0, 0, 0, [])
  | 11 => (.iconst 5, 12, 0, 0, 5, [])
  | 12 => (.invokevirtual 39, 15, 48, 3, 0, [4])
  | 15 => (.ifCond .ne 5, 18, 20, 0, 0, [])
  | 18 => (.iconst 0, 19, 0, 0, 0, [])
  | 19 => (.ireturn, 20, 1, 0, 0, [])
  | 20 => (.aload_n 1, 21, 1, 0, 0, [])
  | 21 => (.aload_n 0, 22, 0, 0, 0, [])
  | 22 => (.getfield 43, 25, 4, 0, 5, [])
  | 25 => (.putfield 46, 28, 5, 0, 10, [])
  | 28 => (.aload_n 0, 29, 0, 0, 0, [])
  | 29 => (.bipush 59, 31, 0, 0, 59, [])
  | 31 => (.invokevirtual 35, 34, 47, 2, 0, [4])
  | 34 => (.ireturn, 35, 1, 0, 0, [])
  | _ => (.nop, 1, 0, 0, 0, [])
def kt_Tape_readHeads : Nat → kx_E
  | 0 => (.iconst 0, 1, 0, 0, 0, [])
  | 1 => (.istore_n 2, 2, 2, 0, 0, [])
  | 2 => (.iload_n 2, 3, 2, 0, 0, [])
  | 3 => (.bipush 6, 5, 0, 0, 6, [])
  | 5 => (.if_icmp .gt 50, 8, 55, 0, 0, [])
  | 8 => (.aload_n 0, 9, 0, 0, 0, [])
  | 9 => (.invokevirtual 49, 12, 50, 1, 0, [4])
  | 12 => (.invokestatic 53, 15, 27, 1, 0, [])
  | 15 => (.istore_n 3, 16, 3, 0, 0, [])
  | 16 => (.iload_n 3, 17, 3, 0, 0, [])
  | 17 => (.ifCond .ne 21, 20, 38, 0, 0, [])
  | 20 => (.iload_n 2, 21, 2, 0, 0, [])
  | 21 => (.ifCond .gt 11, 24, 32, 0, 0, [])
  | 24 => (.aload_n 0, 25, 0, 0, 0, [])
  | 25 => (.iconst 1, 26, 0, 0, 1, [])
  | 26 => (.invokevirtual 59, 29, 51, 2, 0, [4])
  | 29 => (.ifCond .eq 7, 32, 36, 0, 0, [])
  | 32 => (.iconst 1, 33, 0, 0, 1, [])
  | 33 => (.goto 4, 36, 37, 0, 0, [])
  | 36 => (.iconst 0, 37, 0, 0, 0, [])
  | 37 => (.ireturn, 38, 1, 0, 0, [])
  | 38 => (.aload_n 0, 39, 0, 0, 0, [])
  | 39 => (.aload_n 1, 40, 1, 0, 0, [])
  | 40 => (.iload_n 3, 41, 3, 0, 0, [])
  | 41 => (.invokevirtual 62, 44, 44, 3, 0, [4])
  | 44 => (.ifCond .ne 5, 47, 49, 0, 0, [])
  | 47 => (.iconst 0, 48, 0, 0, 0, [])
  | 48 => (.ireturn, 49, 1, 0, 0, [])
  | 49 => (.iinc 2 1, 52, 2, 0, 1, [])
  | 52 => (.goto (-50), 55, 2, 0, 0, [])
  | 55 => (.iconst 0, 56, 0, 0, 0, [])
  | 56 => (.ireturn, 57, 1, 0, 0, [])
  | _ => (.nop, 1, 0, 0, 0, [])
def kt_Tape_readHead : Nat → kx_E
  | 0 => (.aload_n 1, 1, 1, 0, 0, [])
  | 1 => (.getfield 66, 4, 5, 0, 8, [])
  | 4 => (.bipush 6, 6, 0, 0, 6, [])
  | 6 => (.if_icmp .lt 9, 9, 15, 0, 0, [])
  | 9 => (.aload_n 0, 10, 0, 0, 0, [])
  | 10 => (.iconst 3, 11, 0, 0, 3, [])
  | 11 => (.invokevirtual 59, 14, 51, 2, 0, [4])
  | 14 => (.ireturn, 15, 1, 0, 0, [])
  | 15 => (.aload_n 0, 16, 0, 0, 0, [])
  | 16 => (.dup, 17, 0, 0, 0, [])
  | 17 => (.getfield 22, 20, 4, 0, 4, [])
  | 20 => (.iconst 1, 21, 0, 0, 1, [])
  | 21 => (.iadd, 22, 0, 0, 0, [])
  | 22 => (.putfield 22, 25, 4, 0, 4, [])
  | 25 => (.aload_n 0, 26, 0, 0, 0, [])
  | 26 => (.iconst 1, 27, 0, 0, 1, [])
  | 27 => (.bipush 9, 29, 0, 0, 9, [])
  | 29 => (.invokevirtual 39, 32, 48, 3, 0, [4])
  | 32 => (.ifCond .ne 5, 35, 37, 0, 0, [])
  | 35 => (.iconst 0, 36, 0, 0, 0, [])
  | 36 => (.ireturn, 37, 1, 0, 0, [])
  | 37 => (.aload_n 0, 38, 0, 0, 0, [])
  | 38 => (.getfield 43, 41, 4, 0, 5, [])
  | 41 => (.istore_n 3, 42, 3, 0, 0, [])
  | 42 => (.aload_n 0, 43, 0, 0, 0, [])
  | 43 => (.bipush 44, 45, 0, 0, 44, [])
  | 45 => (.invokevirtual 35, 48, 47, 2, 0, [4])
  | 48 => (.ifCond .eq 13, 51, 61, 0, 0, [])
  | 51 => (.aload_n 0, 52, 0, 0, 0, [])
  | 52 => (.iconst 0, 53, 0, 0, 0, [])
  | 53 => (.bipush 15, 55, 0, 0, 15, [])
  | 55 => (.invokevirtual 39, 58, 48, 3, 0, [4])
  | 58 => (.ifCond .ne 5, 61, 63, 0, 0, [])
  | 61 => (.iconst 0, 62, 0, 0, 0, [])
  | 62 => (.ireturn, 63, 1, 0, 0, [])
  | 63 => (.aload_n 1, 64, 1, 0, 0, [])
  | 64 => (.iload_n 2, 65, 2, 0, 0, [])
  | 65 => (.iload_n 3, 66, 3, 0, 0, [])
  | 66 => (.aload_n 0, 67, 0, 0, 0, [])
  | 67 => (.getfield 43, 70, 4, 0, 5, [])
  | 70 => (.invokevirtual 69, 73, 55, 4, 0, [5])
  | 73 => (.aload_n 0, 74, 0, 0, 0, [])
  | 74 => (.bipush 59, 76, 0, 0, 59, [])
  | 76 => (.invokevirtual 35, 79, 47, 2, 0, [4])
  | 79 => (.ireturn, 80, 1, 0, 0, [])
  | _ => (.nop, 1, 0, 0, 0, [])
def kt_Tape_readOrders : Nat → kx_E
  | 0 => (.iconst 0, 1, 0, 0, 0, [])
  | 1 => (.istore_n 2, 2, 2, 0, 0, [])
  | 2 => (.iload_n 2, 3, 2, 0, 0, [])
  | 3 => (.iconst 4, 4, 0, 0, 4, [])
  | 4 => (.if_icmp .gt 29, 7, 33, 0, 0, [])
  | 7 => (.aload_n 0, 8, 0, 0, 0, [])
  | 8 => (.invokevirtual 49, 11, 50, 1, 0, [4])
  | 11 => (.iconst (-1), 12, 0, 0, (-1), [])
  | 12 => (.if_icmp .ne 5, 15, 17, 0, 0, [])
  | 15 => (.iconst 1, 16, 0, 0, 1, [])
  | 16 => (.ireturn, 17, 1, 0, 0, [])
  | 17 => (.aload_n 0, 18, 0, 0, 0, [])
  | 18 => (.aload_n 1, 19, 1, 0, 0, [])
  | 19 => (.invokevirtual 73, 22, 46, 2, 0, [4])
  | 22 => (.ifCond .ne 5, 25, 27, 0, 0, [])
  | 25 => (.iconst 0, 26, 0, 0, 0, [])
  | 26 => (.ireturn, 27, 1, 0, 0, [])
  | 27 => (.iinc 2 1, 30, 2, 0, 1, [])
  | 30 => (.goto (-28), 33, 2, 0, 0, [])
  | 33 => (.iconst 0, 34, 0, 0, 0, [])
  | 34 => (.ireturn, 35, 1, 0, 0, [])
  | _ => (.nop, 1, 0, 0, 0, [])
def kt_Tape_readOrder : Nat → kx_E
  | 0 => (.aload_n 0, 1, 0, 0, 0, [])
  | 1 => (.invokevirtual 49, 4, 50, 1, 0, [4])
  | 4 => (.bipush 111, 6, 0, 0, 111, [])
  | 6 => (.if_icmp .ne 17, 9, 23, 0, 0, [])
  | 9 => (.aload_n 1, 10, 1, 0, 0, [])
  | 10 => (.getfield 76, 13, 5, 0, 9, [])
  | 13 => (.iconst 4, 14, 0, 0, 4, [])
  | 14 => (.if_icmp .lt 9, 17, 23, 0, 0, [])
  | 17 => (.aload_n 0, 18, 0, 0, 0, [])
  | 18 => (.iconst 3, 19, 0, 0, 3, [])
  | 19 => (.invokevirtual 59, 22, 51, 2, 0, [4])
  | 22 => (.ireturn, 23, 1, 0, 0, [])
  | 23 => (.aload_n 0, 24, 0, 0, 0, [])
  | 24 => (.bipush 111, 26, 0, 0, 111, [])
  | 26 => (.invokevirtual 35, 29, 47, 2, 0, [4])
  | 29 => (.ifCond .eq 13, 32, 42, 0, 0, [])
  | 32 => (.aload_n 0, 33, 0, 0, 0, [])
  | 33 => (.iconst 1, 34, 0, 0, 1, [])
  | 34 => (.bipush 40, 36, 0, 0, 40, [])
  | 36 => (.invokevirtual 39, 39, 48, 3, 0, [4])
  | 39 => (.ifCond .ne 5, 42, 44, 0, 0, [])
  | 42 => (.iconst 0, 43, 0, 0, 0, [])
  | 43 => (.ireturn, 44, 1, 0, 0, [])
  | 44 => (.aload_n 1, 45, 1, 0, 0, [])
  | 45 => (.aload_n 0, 46, 0, 0, 0, [])
  | 46 => (.getfield 43, 49, 4, 0, 5, [])
  | 49 => (.invokevirtual 79, 52, 56, 2, 0, [5])
  | 52 => (.pop, 53, 0, 0, 0, [])
  | 53 => (.aload_n 0, 54, 0, 0, 0, [])
  | 54 => (.bipush 59, 56, 0, 0, 59, [])
  | 56 => (.invokevirtual 35, 59, 47, 2, 0, [4])
  | 59 => (.ireturn, 60, 1, 0, 0, [])
  | _ => (.nop, 1, 0, 0, 0, [])
def kt_Tape_take : Nat → kx_E
  | 0 => (.aload_n 0, 1, 0, 0, 0, [])
  | 1 => (.invokevirtual 49, 4, 50, 1, 0, [4])
  | 4 => (.iload_n 1, 5, 1, 0, 0, [])
  | 5 => (.if_icmp .eq 9, 8, 14, 0, 0, [])
  | 8 => (.aload_n 0, 9, 0, 0, 0, [])
  | 9 => (.iconst 1, 10, 0, 0, 1, [])
  | 10 => (.invokevirtual 59, 13, 51, 2, 0, [4])
  | 13 => (.ireturn, 14, 1, 0, 0, [])
  | 14 => (.aload_n 0, 15, 0, 0, 0, [])
  | 15 => (.dup, 16, 0, 0, 0, [])
  | 16 => (.getfield 22, 19, 4, 0, 4, [])
  | 19 => (.iconst 1, 20, 0, 0, 1, [])
  | 20 => (.iadd, 21, 0, 0, 0, [])
  | 21 => (.putfield 22, 24, 4, 0, 4, [])
  | 24 => (.iconst 1, 25, 0, 0, 1, [])
  | 25 => (.ireturn, 26, 1, 0, 0, [])
  | _ => (.nop, 1, 0, 0, 0, [])
def kt_Tape_takeNumber : Nat → kx_E
  | 0 => (.aload_n 0, 1, 0, 0, 0, [])
  | 1 => (.invokevirtual 82, 4, 49, 1, 0, [4])
  | 4 => (.istore_n 3, 5, 3, 0, 0, [])
  | 5 => (.iload_n 3, 6, 3, 0, 0, [])
  | 6 => (.ifCond .eq 8, 9, 14, 0, 0, [])
  | 9 => (.iload_n 3, 10, 3, 0, 0, [])
  | 10 => (.iconst 2, 11, 0, 0, 2, [])
  | 11 => (.if_icmp .le 9, 14, 20, 0, 0, [])
  | 14 => (.aload_n 0, 15, 0, 0, 0, [])
  | 15 => (.iconst 1, 16, 0, 0, 1, [])
  | 16 => (.invokevirtual 59, 19, 51, 2, 0, [4])
  | 19 => (.ireturn, 20, 1, 0, 0, [])
  | 20 => (.iconst 0, 21, 0, 0, 0, [])
  | 21 => (.istore 4, 23, 4, 0, 0, [])
  | 23 => (.iconst 0, 24, 0, 0, 0, [])
  | 24 => (.istore 5, 26, 5, 0, 0, [])
  | 26 => (.iload 5, 28, 5, 0, 0, [])
  | 28 => (.iload_n 3, 29, 3, 0, 0, [])
  | 29 => (.if_icmp .ge 32, 32, 61, 0, 0, [])
  | 32 => (.bipush 10, 34, 0, 0, 10, [])
  | 34 => (.iload 4, 36, 4, 0, 0, [])
  | 36 => (.imul, 37, 0, 0, 0, [])
  | 37 => (.aload_n 0, 38, 0, 0, 0, [])
  | 38 => (.getfield 9, 41, 4, 1, 0, [])
  | 41 => (.aload_n 0, 42, 0, 0, 0, [])
  | 42 => (.getfield 22, 45, 4, 0, 4, [])
  | 45 => (.iload 5, 47, 5, 0, 0, [])
  | 47 => (.iadd, 48, 0, 0, 0, [])
  | 48 => (.iaload, 49, 0, 0, 0, [])
  | 49 => (.iadd, 50, 0, 0, 0, [])
  | 50 => (.bipush 48, 52, 0, 0, 48, [])
  | 52 => (.isub, 53, 0, 0, 0, [])
  | 53 => (.istore 4, 55, 4, 0, 0, [])
  | 55 => (.iinc 5 1, 58, 5, 0, 1, [])
  | 58 => (.goto (-32), 61, 26, 0, 0, [])
  | 61 => (.iload 4, 63, 4, 0, 0, [])
  | 63 => (.iload_n 1, 64, 1, 0, 0, [])
  | 64 => (.if_icmp .lt 9, 67, 73, 0, 0, [])
  | 67 => (.iload 4, 69, 4, 0, 0, [])
  | 69 => (.iload_n 2, 70, 2, 0, 0, [])
  | 70 => (.if_icmp .le 9, 73, 79, 0, 0, [])
  | 73 => (.aload_n 0, 74, 0, 0, 0, [])
  | 74 => (.iconst 2, 75, 0, 0, 2, [])
  | 75 => (.invokevirtual 59, 78, 51, 2, 0, [4])
  | 78 => (.ireturn, 79, 1, 0, 0, [])
  | 79 => (.aload_n 0, 80, 0, 0, 0, [])
  | 80 => (.iload 4, 82, 4, 0, 0, [])
  | 82 => (.putfield 43, 85, 4, 0, 5, [])
  | 85 => (.aload_n 0, 86, 0, 0, 0, [])
  | 86 => (.dup, 87, 0, 0, 0, [])
  | 87 => (.getfield 22, 90, 4, 0, 4, [])
  | 90 => (.iload_n 3, 91, 3, 0, 0, [])
  | 91 => (.iadd, 92, 0, 0, 0, [])
  | 92 => (.putfield 22, 95, 4, 0, 4, [])
  | 95 => (.iconst 1, 96, 0, 0, 1, [])
  | 96 => (.ireturn, 97, 1, 0, 0, [])
  | _ => (.nop, 1, 0, 0, 0, [])
def kt_Tape_figuresAhead : Nat → kx_E
  | 0 => (.aload_n 0, 1, 0, 0, 0, [])
  | 1 => (.getfield 22, 4, 4, 0, 4, [])
  | 4 => (.istore_n 1, 5, 1, 0, 0, [])
  | 5 => (.iload_n 1, 6, 1, 0, 0, [])
  | 6 => (.aload_n 0, 7, 0, 0, 0, [])
  | 7 => (.getfield 13, 10, 4, 0, 1, [])
  | 10 => (.if_icmp .ge 31, 13, 41, 0, 0, [])
  | 13 => (.aload_n 0, 14, 0, 0, 0, [])
  | 14 => (.getfield 9, 17, 4, 1, 0, [])
  | 17 => (.iload_n 1, 18, 1, 0, 0, [])
  | 18 => (.iaload, 19, 0, 0, 0, [])
  | 19 => (.bipush 48, 21, 0, 0, 48, [])
  | 21 => (.if_icmp .lt 20, 24, 41, 0, 0, [])
  | 24 => (.aload_n 0, 25, 0, 0, 0, [])
  | 25 => (.getfield 9, 28, 4, 1, 0, [])
  | 28 => (.iload_n 1, 29, 1, 0, 0, [])
  | 29 => (.iaload, 30, 0, 0, 0, [])
  | 30 => (.bipush 57, 32, 0, 0, 57, [])
  | 32 => (.if_icmp .gt 9, 35, 41, 0, 0, [])
  | 35 => (.iinc 1 1, 38, 1, 0, 1, [])
  | 38 => (.goto (-33), 41, 5, 0, 0, [])
  | 41 => (.iload_n 1, 42, 1, 0, 0, [])
  | 42 => (.aload_n 0, 43, 0, 0, 0, [])
  | 43 => (.getfield 22, 46, 4, 0, 4, [])
  | 46 => (.isub, 47, 0, 0, 0, [])
  | 47 => (.ireturn, 48, 0, 0, 0, [])
  | _ => (.nop, 1, 0, 0, 0, [])
def kt_Tape_next : Nat → kx_E
  | 0 => (.aload_n 0, 1, 0, 0, 0, [])
  | 1 => (.getfield 22, 4, 4, 0, 4, [])
  | 4 => (.aload_n 0, 5, 0, 0, 0, [])
  | 5 => (.getfield 13, 8, 4, 0, 1, [])
  | 8 => (.if_icmp .ge 15, 11, 23, 0, 0, [])
  | 11 => (.aload_n 0, 12, 0, 0, 0, [])
  | 12 => (.getfield 9, 15, 4, 1, 0, [])
  | 15 => (.aload_n 0, 16, 0, 0, 0, [])
  | 16 => (.getfield 22, 19, 4, 0, 4, [])
  | 19 => (.iaload, 20, 0, 0, 0, [])
  | 20 => (.goto 4, 23, 24, 0, 0, [])
  | 23 => (.iconst (-1), 24, 0, 0, (-1), [])
  | 24 => (.ireturn, 25, 0, 0, 0, [])
  | _ => (.nop, 1, 0, 0, 0, [])
def kt_Tape_refuse : Nat → kx_E
  | 0 => (.aload_n 0, 1, 0, 0, 0, [])
  | 1 => (.iload_n 1, 2, 1, 0, 0, [])
  | 2 => (.putfield 85, 5, 4, 0, 2, [])
  | 5 => (.aload_n 0, 6, 0, 0, 0, [])
  | 6 => (.aload_n 0, 7, 0, 0, 0, [])
  | 7 => (.getfield 22, 10, 4, 0, 4, [])
  | 10 => (.putfield 88, 13, 4, 0, 3, [])
  | 13 => (.iconst 0, 14, 0, 0, 0, [])
  | 14 => (.ireturn, 15, 1, 0, 0, [])
  | _ => (.nop, 1, 0, 0, 0, [])
def kt_Town_init : Nat → kx_E
  | 0 => (.aload_n 0, 1, 0, 0, 0, [])
  | 1 => (.invokespecial 3, 4, 0, 0, 1, [])
  | 4 => (.aload_n 0, 5, 0, 0, 0, [])
  | 5 => (.bipush 6, 7, 0, 0, 6, [])
  | 7 => (.newarray .int, 9, 2, 0, 0, [])
  | 9 => (.putfield 11, 12, 5, 1, 0, [])
  | 12 => (.aload_n 0, 13, 0, 0, 0, [])
  | 13 => (.bipush 6, 15, 0, 0, 6, [])
  | 15 => (.newarray .int, 17, 2, 0, 0, [])
  | 17 => (.putfield 15, 20, 5, 1, 1, [])
  | 20 => (.aload_n 0, 21, 0, 0, 0, [])
  | 21 => (.bipush 6, 23, 0, 0, 6, [])
  | 23 => (.newarray .int, 25, 2, 0, 0, [])
  | 25 => (.putfield 18, 28, 5, 1, 2, [])
  | 28 => (.aload_n 0, 29, 0, 0, 0, [])
  | 29 => (.bipush 6, 31, 0, 0, 6, [])
  | 31 => (.newarray .int, 33, 2, 0, 0, [])
  | 33 => (.putfield 21, 36, 5, 1, 3, [])
  | 36 => (.aload_n 0, 37, 0, 0, 0, [])
  | 37 => (.iconst 4, 38, 0, 0, 4, [])
  | 38 => (.newarray .int, 40, 2, 0, 0, [])
  | 40 => (.putfield 24, 43, 5, 1, 4, [])
  | 43 => (.aload_n 0, 44, 0, 0, 0, [])
  | 44 => (.iconst 4, 45, 0, 0, 4, [])
  | 45 => (.newarray .int, 47, 2, 0, 0, [])
  | 47 => (.putfield 27, 50, 5, 1, 5, [])
  | 50 => (.aload_n 0, 51, 0, 0, 0, [])
  | 51 => (.iconst 4, 52, 0, 0, 4, [])
  | 52 => (.newarray .int, 54, 2, 0, 0, [])
  | 54 => (.putfield 30, 57, 5, 1, 6, [])
  | 57 => (.aload_n 0, 58, 0, 0, 0, [])
  | 58 => (.iconst 4, 59, 0, 0, 4, [])
  | 59 => (.newarray .int, 61, 2, 0, 0, [])
  | 61 => (.putfield 33, 64, 5, 1, 7, [])
  | 64 => (.return_, 65, 0, 0, 0, [])
  | _ => (.nop, 1, 0, 0, 0, [])
def kt_Town_clear : Nat → kx_E
  | 0 => (.aload_n 0, 1, 0, 0, 0, [])
  | 1 => (.iconst 0, 2, 0, 0, 0, [])
  | 2 => (.putfield 36, 5, 5, 0, 8, [])
  | 5 => (.aload_n 0, 6, 0, 0, 0, [])
  | 6 => (.iconst 0, 7, 0, 0, 0, [])
  | 7 => (.putfield 40, 10, 5, 0, 9, [])
  | 10 => (.aload_n 0, 11, 0, 0, 0, [])
  | 11 => (.iconst 0, 12, 0, 0, 0, [])
  | 12 => (.putfield 43, 15, 5, 0, 10, [])
  | 15 => (.aload_n 0, 16, 0, 0, 0, [])
  | 16 => (.iconst 0, 17, 0, 0, 0, [])
  | 17 => (.putfield 46, 20, 5, 0, 11, [])
  | 20 => (.aload_n 0, 21, 0, 0, 0, [])
  | 21 => (.iconst 0, 22, 0, 0, 0, [])
  | 22 => (.putfield 49, 25, 5, 0, 12, [])
  | 25 => (.aload_n 0, 26, 0, 0, 0, [])
  | 26 => (.iconst 0, 27, 0, 0, 0, [])
  | 27 => (.putfield 52, 30, 5, 0, 13, [])
  | 30 => (.return_, 31, 0, 0, 0, [])
  | _ => (.nop, 1, 0, 0, 0, [])
def kt_Town_becomeLike : Nat → kx_E
  | 0 => (.aload_n 1, 1, 1, 0, 0, [])
  | 1 => (.getfield 11, 4, 5, 1, 0, [])
  | 4 => (.iconst 0, 5, 0, 0, 0, [])
  | 5 => (.aload_n 0, 6, 0, 0, 0, [])
  | 6 => (.getfield 11, 9, 5, 1, 0, [])
  | 9 => (.iconst 0, 10, 0, 0, 0, [])
  | 10 => (.bipush 6, 12, 0, 0, 6, [])
  | 12 => (.invokestatic 55, 15, 0, 0, 2, [])
  | 15 => (.aload_n 1, 16, 1, 0, 0, [])
  | 16 => (.getfield 15, 19, 5, 1, 1, [])
  | 19 => (.iconst 0, 20, 0, 0, 0, [])
  | 20 => (.aload_n 0, 21, 0, 0, 0, [])
  | 21 => (.getfield 15, 24, 5, 1, 1, [])
  | 24 => (.iconst 0, 25, 0, 0, 0, [])
  | 25 => (.bipush 6, 27, 0, 0, 6, [])
  | 27 => (.invokestatic 55, 30, 0, 0, 2, [])
  | 30 => (.aload_n 1, 31, 1, 0, 0, [])
  | 31 => (.getfield 18, 34, 5, 1, 2, [])
  | 34 => (.iconst 0, 35, 0, 0, 0, [])
  | 35 => (.aload_n 0, 36, 0, 0, 0, [])
  | 36 => (.getfield 18, 39, 5, 1, 2, [])
  | 39 => (.iconst 0, 40, 0, 0, 0, [])
  | 40 => (.bipush 6, 42, 0, 0, 6, [])
  | 42 => (.invokestatic 55, 45, 0, 0, 2, [])
  | 45 => (.aload_n 1, 46, 1, 0, 0, [])
  | 46 => (.getfield 21, 49, 5, 1, 3, [])
  | 49 => (.iconst 0, 50, 0, 0, 0, [])
  | 50 => (.aload_n 0, 51, 0, 0, 0, [])
  | 51 => (.getfield 21, 54, 5, 1, 3, [])
  | 54 => (.iconst 0, 55, 0, 0, 0, [])
  | 55 => (.bipush 6, 57, 0, 0, 6, [])
  | 57 => (.invokestatic 55, 60, 0, 0, 2, [])
  | 60 => (.aload_n 1, 61, 1, 0, 0, [])
  | 61 => (.getfield 24, 64, 5, 1, 4, [])
  | 64 => (.iconst 0, 65, 0, 0, 0, [])
  | 65 => (.aload_n 0, 66, 0, 0, 0, [])
  | 66 => (.getfield 24, 69, 5, 1, 4, [])
  | 69 => (.iconst 0, 70, 0, 0, 0, [])
  | 70 => (.iconst 4, 71, 0, 0, 4, [])
  | 71 => (.invokestatic 55, 74, 0, 0, 2, [])
  | 74 => (.aload_n 1, 75, 1, 0, 0, [])
  | 75 => (.getfield 27, 78, 5, 1, 5, [])
  | 78 => (.iconst 0, 79, 0, 0, 0, [])
  | 79 => (.aload_n 0, 80, 0, 0, 0, [])
  | 80 => (.getfield 27, 83, 5, 1, 5, [])
  | 83 => (.iconst 0, 84, 0, 0, 0, [])
  | 84 => (.iconst 4, 85, 0, 0, 4, [])
  | 85 => (.invokestatic 55, 88, 0, 0, 2, [])
  | 88 => (.aload_n 1, 89, 1, 0, 0, [])
  | 89 => (.getfield 30, 92, 5, 1, 6, [])
  | 92 => (.iconst 0, 93, 0, 0, 0, [])
  | 93 => (.aload_n 0, 94, 0, 0, 0, [])
  | 94 => (.getfield 30, 97, 5, 1, 6, [])
  | 97 => (.iconst 0, 98, 0, 0, 0, [])
  | 98 => (.iconst 4, 99, 0, 0, 4, [])
  | 99 => (.invokestatic 55, 102, 0, 0, 2, [])
  | 102 => (.aload_n 1, 103, 1, 0, 0, [])
  | 103 => (.getfield 33, 106, 5, 1, 7, [])
  | 106 => (.iconst 0, 107, 0, 0, 0, [])
  | 107 => (.aload_n 0, 108, 0, 0, 0, [])
  | 108 => (.getfield 33, 111, 5, 1, 7, [])
  | 111 => (.iconst 0, 112, 0, 0, 0, [])
  | 112 => (.iconst 4, 113, 0, 0, 4, [])
  | 113 => (.invokestatic 55, 116, 0, 0, 2, [])
  | 116 => (.aload_n 0, 117, 0, 0, 0, [])
  | 117 => (.aload_n 1, 118, 1, 0, 0, [])
  | 118 => (.getfield 36, 121, 5, 0, 8, [])
  | 121 => (.putfield 36, 124, 5, 0, 8, [])
  | 124 => (.aload_n 0, 125, 0, 0, 0, [])
  | 125 => (.aload_n 1, 126, 1, 0, 0, [])
  | 126 => (.getfield 40, 129, 5, 0, 9, [])
  | 129 => (.putfield 40, 132, 5, 0, 9, [])
  | 132 => (.aload_n 0, 133, 0, 0, 0, [])
  | 133 => (.aload_n 1, 134, 1, 0, 0, [])
  | 134 => (.getfield 43, 137, 5, 0, 10, [])
  | 137 => (.putfield 43, 140, 5, 0, 10, [])
  | 140 => (.aload_n 0, 141, 0, 0, 0, [])
  | 141 => (.aload_n 1, 142, 1, 0, 0, [])
  | 142 => (.getfield 46, 145, 5, 0, 11, [])
  | 145 => (.putfield 46, 148, 5, 0, 11, [])
  | 148 => (.aload_n 0, 149, 0, 0, 0, [])
  | 149 => (.aload_n 1, 150, 1, 0, 0, [])
  | 150 => (.getfield 49, 153, 5, 0, 12, [])
  | 153 => (.putfield 49, 156, 5, 0, 12, [])
  | 156 => (.aload_n 0, 157, 0, 0, 0, [])
  | 157 => (.aload_n 1, 158, 1, 0, 0, [])
  | 158 => (.getfield 52, 161, 5, 0, 13, [])
  | 161 => (.putfield 52, 164, 5, 0, 13, [])
  | 164 => (.return_, 165, 0, 0, 0, [])
  | _ => (.nop, 1, 0, 0, 0, [])
def kt_Town_addHead : Nat → kx_E
  | 0 => (.aload_n 0, 1, 0, 0, 0, [])
  | 1 => (.getfield 11, 4, 5, 1, 0, [])
  | 4 => (.aload_n 0, 5, 0, 0, 0, [])
  | 5 => (.getfield 36, 8, 5, 0, 8, [])
  | 8 => (.iload_n 1, 9, 1, 0, 0, [])
  | 9 => (.iastore, 10, 0, 0, 0, [])
  | 10 => (.aload_n 0, 11, 0, 0, 0, [])
  | 11 => (.getfield 15, 14, 5, 1, 1, [])
  | 14 => (.aload_n 0, 15, 0, 0, 0, [])
  | 15 => (.getfield 36, 18, 5, 0, 8, [])
  | 18 => (.iload_n 2, 19, 2, 0, 0, [])
  | 19 => (.iastore, 20, 0, 0, 0, [])
  | 20 => (.aload_n 0, 21, 0, 0, 0, [])
  | 21 => (.getfield 18, 24, 5, 1, 2, [])
  | 24 => (.aload_n 0, 25, 0, 0, 0, [])
  | 25 => (.getfield 36, 28, 5, 0, 8, [])
  | 28 => (.iload_n 3, 29, 3, 0, 0, [])
  | 29 => (.iastore, 30, 0, 0, 0, [])
  | 30 => (.aload_n 0, 31, 0, 0, 0, [])
  | 31 => (.getfield 21, 34, 5, 1, 3, [])
  | 34 => (.aload_n 0, 35, 0, 0, 0, [])
  | 35 => (.getfield 36, 38, 5, 0, 8, [])
  | 38 => (.iconst 0, 39, 0, 0, 0, [])
  | 39 => (.iastore, 40, 0, 0, 0, [])
  | 40 => (.aload_n 0, 41, 0, 0, 0, [])
  | 41 => (.dup, 42, 0, 0, 0, [])
  | 42 => (.getfield 36, 45, 5, 0, 8, [])
  | 45 => (.iconst 1, 46, 0, 0, 1, [])
  | 46 => (.iadd, 47, 0, 0, 0, [])
  | 47 => (.putfield 36, 50, 5, 0, 8, [])
  | 50 => (.return_, 51, 0, 0, 0, [])
  | _ => (.nop, 1, 0, 0, 0, [])
def kt_Town_addOrder : Nat → kx_E
  | 0 => (.aload_n 0, 1, 0, 0, 0, [])
  | 1 => (.getfield 40, 4, 5, 0, 9, [])
  | 4 => (.istore_n 2, 5, 2, 0, 0, [])
  | 5 => (.aload_n 0, 6, 0, 0, 0, [])
  | 6 => (.getfield 24, 9, 5, 1, 4, [])
  | 9 => (.iload_n 2, 10, 2, 0, 0, [])
  | 10 => (.iload_n 1, 11, 1, 0, 0, [])
  | 11 => (.iastore, 12, 0, 0, 0, [])
  | 12 => (.aload_n 0, 13, 0, 0, 0, [])
  | 13 => (.getfield 27, 16, 5, 1, 5, [])
  | 16 => (.iload_n 2, 17, 2, 0, 0, [])
  | 17 => (.iload_n 1, 18, 1, 0, 0, [])
  | 18 => (.iastore, 19, 0, 0, 0, [])
  | 19 => (.aload_n 0, 20, 0, 0, 0, [])
  | 20 => (.getfield 30, 23, 5, 1, 6, [])
  | 23 => (.iload_n 2, 24, 2, 0, 0, [])
  | 24 => (.iconst 0, 25, 0, 0, 0, [])
  | 25 => (.iastore, 26, 0, 0, 0, [])
  | 26 => (.aload_n 0, 27, 0, 0, 0, [])
  | 27 => (.getfield 33, 30, 5, 1, 7, [])
  | 30 => (.iload_n 2, 31, 2, 0, 0, [])
  | 31 => (.ldc 61, 33, 0, 0, (-1000000), [])
  | 33 => (.iastore, 34, 0, 0, 0, [])
  | 34 => (.aload_n 0, 35, 0, 0, 0, [])
  | 35 => (.dup, 36, 0, 0, 0, [])
  | 36 => (.getfield 40, 39, 5, 0, 9, [])
  | 39 => (.iconst 1, 40, 0, 0, 1, [])
  | 40 => (.iadd, 41, 0, 0, 0, [])
  | 41 => (.putfield 40, 44, 5, 0, 9, [])
  | 44 => (.iload_n 2, 45, 2, 0, 0, [])
  | 45 => (.ireturn, 46, 0, 0, 0, [])
  | _ => (.nop, 1, 0, 0, 0, [])
def kt_Town_hasHead : Nat → kx_E
  | 0 => (.iconst 0, 1, 0, 0, 0, [])
  | 1 => (.iload_n 1, 2, 1, 0, 0, [])
  | 2 => (.if_icmp .gt 15, 5, 17, 0, 0, [])
  | 5 => (.iload_n 1, 6, 1, 0, 0, [])
  | 6 => (.aload_n 0, 7, 0, 0, 0, [])
  | 7 => (.getfield 36, 10, 5, 0, 8, [])
  | 10 => (.if_icmp .ge 7, 13, 17, 0, 0, [])
  | 13 => (.iconst 1, 14, 0, 0, 1, [])
  | 14 => (.goto 4, 17, 18, 0, 0, [])
  | 17 => (.iconst 0, 18, 0, 0, 0, [])
  | 18 => (.ireturn, 19, 1, 0, 0, [])
  | _ => (.nop, 1, 0, 0, 0, [])
def kt_Town_hasOrder : Nat → kx_E
  | 0 => (.iconst 0, 1, 0, 0, 0, [])
  | 1 => (.iload_n 1, 2, 1, 0, 0, [])
  | 2 => (.if_icmp .gt 15, 5, 17, 0, 0, [])
  | 5 => (.iload_n 1, 6, 1, 0, 0, [])
  | 6 => (.aload_n 0, 7, 0, 0, 0, [])
  | 7 => (.getfield 40, 10, 5, 0, 9, [])
  | 10 => (.if_icmp .ge 7, 13, 17, 0, 0, [])
  | 13 => (.iconst 1, 14, 0, 0, 1, [])
  | 14 => (.goto 4, 17, 18, 0, 0, [])
  | 17 => (.iconst 0, 18, 0, 0, 0, [])
  | 18 => (.ireturn, 19, 1, 0, 0, [])
  | _ => (.nop, 1, 0, 0, 0, [])
def kt_Town_ordersThatAre : Nat → kx_E
  | 0 => (.iconst 0, 1, 0, 0, 0, [])
  | 1 => (.istore_n 2, 2, 2, 0, 0, [])
  | 2 => (.iconst 0, 3, 0, 0, 0, [])
  | 3 => (.istore_n 3, 4, 3, 0, 0, [])
  | 4 => (.iload_n 3, 5, 3, 0, 0, [])
  | 5 => (.aload_n 0, 6, 0, 0, 0, [])
  | 6 => (.getfield 40, 9, 5, 0, 9, [])
  | 9 => (.if_icmp .ge 22, 12, 31, 0, 0, [])
  | 12 => (.aload_n 0, 13, 0, 0, 0, [])
  | 13 => (.getfield 30, 16, 5, 1, 6, [])
  | 16 => (.iload_n 3, 17, 3, 0, 0, [])
  | 17 => (.iaload, 18, 0, 0, 0, [])
  | 18 => (.iload_n 1, 19, 1, 0, 0, [])
  | 19 => (.if_icmp .ne 6, 22, 25, 0, 0, [])
  | 22 => (.iinc 2 1, 25, 2, 0, 1, [])
  | 25 => (.iinc 3 1, 28, 3, 0, 1, [])
  | 28 => (.goto (-24), 31, 4, 0, 0, [])
  | 31 => (.iload_n 2, 32, 2, 0, 0, [])
  | 32 => (.ireturn, 33, 0, 0, 0, [])
  | _ => (.nop, 1, 0, 0, 0, [])
def kt_Town_handTo : Nat → kx_E
  | 0 => (.aload_n 0, 1, 0, 0, 0, [])
  | 1 => (.iload_n 1, 2, 1, 0, 0, [])
  | 2 => (.putfield 46, 5, 5, 0, 11, [])
  | 5 => (.aload_n 0, 6, 0, 0, 0, [])
  | 6 => (.iconst 0, 7, 0, 0, 0, [])
  | 7 => (.putfield 49, 10, 5, 0, 12, [])
  | 10 => (.return_, 11, 0, 0, 0, [])
  | _ => (.nop, 1, 0, 0, 0, [])
def kt_Town_takeStep : Nat → kx_E
  | 0 => (.aload_n 0, 1, 0, 0, 0, [])
  | 1 => (.dup, 2, 0, 0, 0, [])
  | 2 => (.getfield 52, 5, 5, 0, 13, [])
  | 5 => (.iconst 1, 6, 0, 0, 1, [])
  | 6 => (.iadd, 7, 0, 0, 0, [])
  | 7 => (.putfield 52, 10, 5, 0, 13, [])
  | 10 => (.aload_n 0, 11, 0, 0, 0, [])
  | 11 => (.invokevirtual 62, 14, 63, 1, 0, [5])
  | 14 => (.istore_n 1, 15, 1, 0, 0, [])
  | 15 => (.iload_n 1, 16, 1, 0, 0, [])
  | 16 => (.iconst (-1), 17, 0, 0, (-1), [])
  | 17 => (.if_icmp .eq 8, 20, 25, 0, 0, [])
  | 20 => (.aload_n 0, 21, 0, 0, 0, [])
  | 21 => (.iload_n 1, 22, 1, 0, 0, [])
  | 22 => (.invokevirtual 66, 25, 64, 2, 0, [5])
  | 25 => (.aload_n 0, 26, 0, 0, 0, [])
  | 26 => (.dup, 27, 0, 0, 0, [])
  | 27 => (.getfield 49, 30, 5, 0, 12, [])
  | 30 => (.iconst 1, 31, 0, 0, 1, [])
  | 31 => (.iadd, 32, 0, 0, 0, [])
  | 32 => (.putfield 49, 35, 5, 0, 12, [])
  | 35 => (.aload_n 0, 36, 0, 0, 0, [])
  | 36 => (.getfield 49, 39, 5, 0, 12, [])
  | 39 => (.aload_n 0, 40, 0, 0, 0, [])
  | 40 => (.invokevirtual 70, 43, 65, 1, 0, [5])
  | 43 => (.if_icmp .lt 20, 46, 63, 0, 0, [])
  | 46 => (.aload_n 0, 47, 0, 0, 0, [])
  | 47 => (.aload_n 0, 48, 0, 0, 0, [])
  | 48 => (.aload_n 0, 49, 0, 0, 0, [])
  | 49 => (.getfield 46, 52, 5, 0, 11, [])
  | 52 => (.aload_n 0, 53, 0, 0, 0, [])
  | 53 => (.invokevirtual 73, 56, 66, 1, 0, [5])
  | 56 => (.iadd, 57, 0, 0, 0, [])
  | 57 => (.invokevirtual 76, 60, 67, 2, 0, [5])
  | 60 => (.invokevirtual 80, 63, 60, 2, 0, [5])
  | 63 => (.iload_n 1, 64, 1, 0, 0, [])
  | 64 => (.ireturn, 65, 0, 0, 0, [])
  | _ => (.nop, 1, 0, 0, 0, [])
def kt_Town_revertStep : Nat → kx_E
  | 0 => (.aload_n 0, 1, 0, 0, 0, [])
  | 1 => (.dup, 2, 0, 0, 0, [])
  | 2 => (.getfield 52, 5, 5, 0, 13, [])
  | 5 => (.iconst 1, 6, 0, 0, 1, [])
  | 6 => (.isub, 7, 0, 0, 0, [])
  | 7 => (.putfield 52, 10, 5, 0, 13, [])
  | 10 => (.aload_n 0, 11, 0, 0, 0, [])
  | 11 => (.iload_n 1, 12, 1, 0, 0, [])
  | 12 => (.putfield 46, 15, 5, 0, 11, [])
  | 15 => (.aload_n 0, 16, 0, 0, 0, [])
  | 16 => (.iload_n 2, 17, 2, 0, 0, [])
  | 17 => (.putfield 49, 20, 5, 0, 12, [])
  | 20 => (.iload_n 3, 21, 3, 0, 0, [])
  | 21 => (.iconst (-1), 22, 0, 0, (-1), [])
  | 22 => (.if_icmp .eq 38, 25, 60, 0, 0, [])
  | 25 => (.aload_n 0, 26, 0, 0, 0, [])
  | 26 => (.getfield 27, 29, 5, 1, 5, [])
  | 29 => (.iload_n 3, 30, 3, 0, 0, [])
  | 30 => (.dup2, 31, 0, 0, 0, [])
  | 31 => (.iaload, 32, 0, 0, 0, [])
  | 32 => (.iconst 1, 33, 0, 0, 1, [])
  | 33 => (.iadd, 34, 0, 0, 0, [])
  | 34 => (.iastore, 35, 0, 0, 0, [])
  | 35 => (.aload_n 0, 36, 0, 0, 0, [])
  | 36 => (.getfield 30, 39, 5, 1, 6, [])
  | 39 => (.iload_n 3, 40, 3, 0, 0, [])
  | 40 => (.iconst 0, 41, 0, 0, 0, [])
  | 41 => (.iastore, 42, 0, 0, 0, [])
  | 42 => (.aload_n 0, 43, 0, 0, 0, [])
  | 43 => (.getfield 33, 46, 5, 1, 7, [])
  | 46 => (.iload_n 3, 47, 3, 0, 0, [])
  | 47 => (.ldc 61, 49, 0, 0, (-1000000), [])
  | 49 => (.iastore, 50, 0, 0, 0, [])
  | 50 => (.aload_n 0, 51, 0, 0, 0, [])
  | 51 => (.getfield 21, 54, 5, 1, 3, [])
  | 54 => (.iload_n 1, 55, 1, 0, 0, [])
  | 55 => (.dup2, 56, 0, 0, 0, [])
  | 56 => (.iaload, 57, 0, 0, 0, [])
  | 57 => (.iconst 1, 58, 0, 0, 1, [])
  | 58 => (.isub, 59, 0, 0, 0, [])
  | 59 => (.iastore, 60, 0, 0, 0, [])
  | 60 => (.return_, 61, 0, 0, 0, [])
  | _ => (.nop, 1, 0, 0, 0, [])
def kt_Town_orderToWorkOn : Nat → kx_E
  | 0 => (.iconst 0, 1, 0, 0, 0, [])
  | 1 => (.istore_n 1, 2, 1, 0, 0, [])
  | 2 => (.iload_n 1, 3, 1, 0, 0, [])
  | 3 => (.aload_n 0, 4, 0, 0, 0, [])
  | 4 => (.getfield 40, 7, 5, 0, 9, [])
  | 7 => (.if_icmp .ge 37, 10, 44, 0, 0, [])
  | 10 => (.aload_n 0, 11, 0, 0, 0, [])
  | 11 => (.getfield 30, 14, 5, 1, 6, [])
  | 14 => (.iload_n 1, 15, 1, 0, 0, [])
  | 15 => (.iaload, 16, 0, 0, 0, [])
  | 16 => (.ifCond .ne 22, 19, 38, 0, 0, [])
  | 19 => (.aload_n 0, 20, 0, 0, 0, [])
  | 20 => (.getfield 18, 23, 5, 1, 2, [])
  | 23 => (.aload_n 0, 24, 0, 0, 0, [])
  | 24 => (.getfield 46, 27, 5, 0, 11, [])
  | 27 => (.iaload, 28, 0, 0, 0, [])
  | 28 => (.iload_n 1, 29, 1, 0, 0, [])
  | 29 => (.ishr, 30, 0, 0, 0, [])
  | 30 => (.iconst 1, 31, 0, 0, 1, [])
  | 31 => (.iand, 32, 0, 0, 0, [])
  | 32 => (.iconst 1, 33, 0, 0, 1, [])
  | 33 => (.if_icmp .ne 5, 36, 38, 0, 0, [])
  | 36 => (.iload_n 1, 37, 1, 0, 0, [])
  | 37 => (.ireturn, 38, 0, 0, 0, [])
  | 38 => (.iinc 1 1, 41, 1, 0, 1, [])
  | 41 => (.goto (-39), 44, 2, 0, 0, [])
  | 44 => (.iconst (-1), 45, 0, 0, (-1), [])
  | 45 => (.ireturn, 46, 0, 0, 0, [])
  | _ => (.nop, 1, 0, 0, 0, [])
def kt_Town_workOn : Nat → kx_E
  | 0 => (.aload_n 0, 1, 0, 0, 0, [])
  | 1 => (.getfield 27, 4, 5, 1, 5, [])
  | 4 => (.iload_n 1, 5, 1, 0, 0, [])
  | 5 => (.dup2, 6, 0, 0, 0, [])
  | 6 => (.iaload, 7, 0, 0, 0, [])
  | 7 => (.iconst 1, 8, 0, 0, 1, [])
  | 8 => (.isub, 9, 0, 0, 0, [])
  | 9 => (.iastore, 10, 0, 0, 0, [])
  | 10 => (.aload_n 0, 11, 0, 0, 0, [])
  | 11 => (.getfield 21, 14, 5, 1, 3, [])
  | 14 => (.aload_n 0, 15, 0, 0, 0, [])
  | 15 => (.getfield 46, 18, 5, 0, 11, [])
  | 18 => (.dup2, 19, 0, 0, 0, [])
  | 19 => (.iaload, 20, 0, 0, 0, [])
  | 20 => (.iconst 1, 21, 0, 0, 1, [])
  | 21 => (.iadd, 22, 0, 0, 0, [])
  | 22 => (.iastore, 23, 0, 0, 0, [])
  | 23 => (.aload_n 0, 24, 0, 0, 0, [])
  | 24 => (.getfield 27, 27, 5, 1, 5, [])
  | 27 => (.iload_n 1, 28, 1, 0, 0, [])
  | 28 => (.iaload, 29, 0, 0, 0, [])
  | 29 => (.ifCond .ne 20, 32, 49, 0, 0, [])
  | 32 => (.aload_n 0, 33, 0, 0, 0, [])
  | 33 => (.getfield 30, 36, 5, 1, 6, [])
  | 36 => (.iload_n 1, 37, 1, 0, 0, [])
  | 37 => (.iconst 1, 38, 0, 0, 1, [])
  | 38 => (.iastore, 39, 0, 0, 0, [])
  | 39 => (.aload_n 0, 40, 0, 0, 0, [])
  | 40 => (.getfield 33, 43, 5, 1, 7, [])
  | 43 => (.iload_n 1, 44, 1, 0, 0, [])
  | 44 => (.aload_n 0, 45, 0, 0, 0, [])
  | 45 => (.getfield 52, 48, 5, 0, 13, [])
  | 48 => (.iastore, 49, 0, 0, 0, [])
  | 49 => (.return_, 50, 0, 0, 0, [])
  | _ => (.nop, 1, 0, 0, 0, [])
def kt_Town_patience : Nat → kx_E
  | 0 => (.aload_n 0, 1, 0, 0, 0, [])
  | 1 => (.getfield 11, 4, 5, 1, 0, [])
  | 4 => (.aload_n 0, 5, 0, 0, 0, [])
  | 5 => (.getfield 46, 8, 5, 0, 11, [])
  | 8 => (.iaload, 9, 0, 0, 0, [])
  | 9 => (.iconst 3, 10, 0, 0, 3, [])
  | 10 => (.if_icmp .ne 11, 13, 21, 0, 0, [])
  | 13 => (.aload_n 0, 14, 0, 0, 0, [])
  | 14 => (.iconst 0, 15, 0, 0, 0, [])
  | 15 => (.invokevirtual 85, 18, 59, 2, 0, [5])
  | 18 => (.goto 4, 21, 22, 0, 0, [])
  | 21 => (.iconst 0, 22, 0, 0, 0, [])
  | 22 => (.istore_n 1, 23, 1, 0, 0, [])
  | 23 => (.aload_n 0, 24, 0, 0, 0, [])
  | 24 => (.getfield 15, 27, 5, 1, 1, [])
  | 27 => (.aload_n 0, 28, 0, 0, 0, [])
  | 28 => (.getfield 46, 31, 5, 0, 11, [])
  | 31 => (.iaload, 32, 0, 0, 0, [])
  | 32 => (.iload_n 1, 33, 1, 0, 0, [])
  | 33 => (.iadd, 34, 0, 0, 0, [])
  | 34 => (.ireturn, 35, 0, 0, 0, [])
  | _ => (.nop, 1, 0, 0, 0, [])
def kt_Town_stride : Nat → kx_E
  | 0 => (.aload_n 0, 1, 0, 0, 0, [])
  | 1 => (.getfield 11, 4, 5, 1, 0, [])
  | 4 => (.aload_n 0, 5, 0, 0, 0, [])
  | 5 => (.getfield 46, 8, 5, 0, 11, [])
  | 8 => (.iaload, 9, 0, 0, 0, [])
  | 9 => (.tableswitch 44 2 5 #[31, 44, 33, 38], 40, 53, 0, 2, [40, 53, 42, 47])
  | 40 => (.iconst 2, 41, 0, 0, 2, [])
  | 41 => (.ireturn, 42, 0, 0, 0, [])
  | 42 => (.aload_n 0, 43, 0, 0, 0, [])
  | 43 => (.getfield 43, 46, 5, 0, 10, [])
  | 46 => (.ireturn, 47, 0, 0, 0, [])
  | 47 => (.aload_n 0, 48, 0, 0, 0, [])
  | 48 => (.getfield 43, 51, 5, 0, 10, [])
  | 51 => (.ineg, 52, 0, 0, 0, [])
  | 52 => (.ireturn, 53, 0, 0, 0, [])
  | 53 => (.iconst 1, 54, 0, 0, 1, [])
  | 54 => (.ireturn, 55, 0, 0, 0, [])
  | _ => (.nop, 1, 0, 0, 0, [])
def kt_Town_seat : Nat → kx_E
  | 0 => (.aload_n 0, 1, 0, 0, 0, [])
  | 1 => (.getfield 36, 4, 5, 0, 8, [])
  | 4 => (.ifCond .le 14, 7, 18, 0, 0, [])
  | 7 => (.iload_n 1, 8, 1, 0, 0, [])
  | 8 => (.aload_n 0, 9, 0, 0, 0, [])
  | 9 => (.getfield 36, 12, 5, 0, 8, [])
  | 12 => (.invokestatic 88, 15, 192, 2, 0, [])
  | 15 => (.goto 4, 18, 19, 0, 0, [])
  | 18 => (.iconst 0, 19, 0, 0, 0, [])
  | 19 => (.ireturn, 20, 0, 0, 0, [])
  | _ => (.nop, 1, 0, 0, 0, [])
end
section
def kt_X_init : Nat → kx_E
  | 0 => (.aload_n 0, 1, 0, 0, 0, [])
  | 1 => (.invokespecial 1, 4, 0, 0, 1, [])
  | 4 => (.aload_n 0, 5, 0, 0, 0, [])
  | 5 => (.bipush 8, 7, 0, 0, 8, [])
  | 7 => (.anewarray 9, 10, 5, 0, 0, [])
  | 10 => (.putfield 11, 13, 6, 1, 0, [])
  | 13 => (.iconst 0, 14, 0, 0, 0, [])
  | 14 => (.istore_n 1, 15, 1, 0, 0, [])
  | 15 => (.iload_n 1, 16, 1, 0, 0, [])
  | 16 => (.bipush 8, 18, 0, 0, 8, [])
  | 18 => (.if_icmp .ge 22, 21, 40, 0, 0, [])
  | 21 => (.aload_n 0, 22, 0, 0, 0, [])
  | 22 => (.getfield 11, 25, 6, 1, 0, [])
  | 25 => (.iload_n 1, 26, 1, 0, 0, [])
  | 26 => (.new 9, 29, 3, 0, 0, [])
  | 29 => (.dup, 30, 0, 0, 0, [])
  | 30 => (.invokespecial 15, 33, 30, 1, 0, [])
  | 33 => (.aastore, 34, 0, 0, 0, [])
  | 34 => (.iinc 1 1, 37, 1, 0, 1, [])
  | 37 => (.goto (-22), 40, 15, 0, 0, [])
  | 40 => (.aload_n 0, 41, 0, 0, 0, [])
  | 41 => (.new 16, 44, 4, 0, 0, [])
  | 44 => (.dup, 45, 0, 0, 0, [])
  | 45 => (.invokespecial 18, 48, 37, 1, 0, [])
  | 48 => (.putfield 19, 51, 6, 1, 1, [])
  | 51 => (.aload_n 0, 52, 0, 0, 0, [])
  | 52 => (.new 23, 55, 5, 0, 0, [])
  | 55 => (.dup, 56, 0, 0, 0, [])
  | 56 => (.invokespecial 25, 59, 52, 1, 0, [])
  | 59 => (.putfield 26, 62, 6, 1, 2, [])
  | 62 => (.aload_n 0, 63, 0, 0, 0, [])
  | 63 => (.new 23, 66, 5, 0, 0, [])
  | 66 => (.dup, 67, 0, 0, 0, [])
  | 67 => (.invokespecial 25, 70, 52, 1, 0, [])
  | 70 => (.putfield 30, 73, 6, 1, 3, [])
  | 73 => (.aload_n 0, 74, 0, 0, 0, [])
  | 74 => (.new 33, 77, 0, 0, 0, [])
  | 77 => (.dup, 78, 0, 0, 0, [])
  | 78 => (.invokespecial 35, 81, 0, 1, 0, [])
  | 81 => (.putfield 36, 84, 6, 1, 4, [])
  | 84 => (.aload_n 0, 85, 0, 0, 0, [])
  | 85 => (.new 40, 88, 2, 0, 0, [])
  | 88 => (.dup, 89, 0, 0, 0, [])
  | 89 => (.aload_n 0, 90, 0, 0, 0, [])
  | 90 => (.getfield 30, 93, 6, 1, 3, [])
  | 93 => (.invokespecial 42, 96, 10, 2, 0, [])
  | 96 => (.putfield 45, 99, 6, 1, 5, [])
  | 99 => (.aload_n 0, 100, 0, 0, 0, [])
  | 100 => (.new 49, 103, 1, 0, 0, [])
  | 103 => (.dup, 104, 0, 0, 0, [])
  | 104 => (.invokespecial 51, 107, 4, 1, 0, [])
  | 107 => (.putfield 52, 110, 6, 1, 6, [])
  | 110 => (.aload_n 0, 111, 0, 0, 0, [])
  | 111 => (.iconst 2, 112, 0, 0, 2, [])
  | 112 => (.anewarray 23, 115, 6, 0, 0, [])
  | 115 => (.putfield 56, 118, 6, 1, 7, [])
  | 118 => (.iconst 0, 119, 0, 0, 0, [])
  | 119 => (.istore_n 1, 120, 1, 0, 0, [])
  | 120 => (.iload_n 1, 121, 1, 0, 0, [])
  | 121 => (.iconst 2, 122, 0, 0, 2, [])
  | 122 => (.if_icmp .ge 22, 125, 144, 0, 0, [])
  | 125 => (.aload_n 0, 126, 0, 0, 0, [])
  | 126 => (.getfield 56, 129, 6, 1, 7, [])
  | 129 => (.iload_n 1, 130, 1, 0, 0, [])
  | 130 => (.new 23, 133, 5, 0, 0, [])
  | 133 => (.dup, 134, 0, 0, 0, [])
  | 134 => (.invokespecial 25, 137, 52, 1, 0, [])
  | 137 => (.aastore, 138, 0, 0, 0, [])
  | 138 => (.iinc 1 1, 141, 1, 0, 1, [])
  | 141 => (.goto (-21), 144, 120, 0, 0, [])
  | 144 => (.aload_n 0, 145, 0, 0, 0, [])
  | 145 => (.iconst 2, 146, 0, 0, 2, [])
  | 146 => (.newarray .boolean, 148, 4, 0, 0, [])
  | 148 => (.putfield 60, 151, 6, 1, 8, [])
  | 151 => (.aload_n 0, 152, 0, 0, 0, [])
  | 152 => (.iconst 0, 153, 0, 0, 0, [])
  | 153 => (.putfield 64, 156, 6, 0, 9, [])
  | 156 => (.aload_n 0, 157, 0, 0, 0, [])
  | 157 => (.iconst 0, 158, 0, 0, 0, [])
  | 158 => (.putfield 68, 161, 6, 0, 10, [])
  | 161 => (.return_, 162, 0, 0, 0, [])
  | _ => (.nop, 1, 0, 0, 0, [])
def kt_X_row : Nat → kx_E
  | 0 => (.iload_n 1, 1, 1, 0, 0, [])
  | 1 => (.invokestatic 71, 4, 110, 1, 0, [])
  | 4 => (.ifCond .eq 18, 7, 22, 0, 0, [])
  | 7 => (.iload_n 2, 8, 2, 0, 0, [])
  | 8 => (.iconst 0, 9, 0, 0, 0, [])
  | 9 => (.iconst 2, 10, 0, 0, 2, [])
  | 10 => (.invokestatic 75, 13, 113, 3, 0, [])
  | 13 => (.ifCond .eq 9, 16, 22, 0, 0, [])
  | 16 => (.iload_n 3, 17, 3, 0, 0, [])
  | 17 => (.bipush 40, 19, 0, 0, 40, [])
  | 19 => (.if_icmp .le 6, 22, 25, 0, 0, [])
  | 22 => (.ldc 79, 24, 0, 0, (-1000001), [])
  | 24 => (.ireturn, 25, 0, 0, 0, [])
  | 25 => (.iload_n 3, 26, 3, 0, 0, [])
  | 26 => (.ifCond .ge 9, 29, 35, 0, 0, [])
  | 29 => (.aload_n 0, 30, 0, 0, 0, [])
  | 30 => (.iconst 4, 31, 0, 0, 4, [])
  | 31 => (.invokevirtual 80, 34, 105, 2, 0, [6])
  | 34 => (.ireturn, 35, 0, 0, 0, [])
  | 35 => (.aload_n 0, 36, 0, 0, 0, [])
  | 36 => (.getfield 11, 39, 6, 1, 0, [])
  | 39 => (.iload_n 1, 40, 1, 0, 0, [])
  | 40 => (.aaload, 41, 0, 0, 0, [])
  | 41 => (.iload_n 2, 42, 2, 0, 0, [])
  | 42 => (.iload_n 3, 43, 3, 0, 0, [])
  | 43 => (.invokevirtual 84, 46, 32, 3, 0, [3])
  | 46 => (.aload_n 0, 47, 0, 0, 0, [])
  | 47 => (.iload_n 3, 48, 3, 0, 0, [])
  | 48 => (.invokevirtual 88, 51, 106, 2, 0, [6])
  | 51 => (.ireturn, 52, 0, 0, 0, [])
  | _ => (.nop, 1, 0, 0, 0, [])
def kt_X_set : Nat → kx_E
  | 0 => (.iload_n 1, 1, 1, 0, 0, [])
  | 1 => (.invokestatic 71, 4, 110, 1, 0, [])
  | 4 => (.ifCond .ne 6, 7, 10, 0, 0, [])
  | 7 => (.ldc 79, 9, 0, 0, (-1000001), [])
  | 9 => (.ireturn, 10, 0, 0, 0, [])
  | 10 => (.aload_n 0, 11, 0, 0, 0, [])
  | 11 => (.iload_n 1, 12, 1, 0, 0, [])
  | 12 => (.iload_n 2, 13, 2, 0, 0, [])
  | 13 => (.iconst 1, 14, 0, 0, 1, [])
  | 14 => (.invokevirtual 91, 17, 107, 4, 0, [6])
  | 17 => (.istore 4, 19, 4, 0, 0, [])
  | 19 => (.iload 4, 21, 4, 0, 0, [])
  | 21 => (.ifCond .eq 10, 24, 31, 0, 0, [])
  | 24 => (.aload_n 0, 25, 0, 0, 0, [])
  | 25 => (.iload 4, 27, 4, 0, 0, [])
  | 27 => (.invokevirtual 80, 30, 105, 2, 0, [6])
  | 30 => (.ireturn, 31, 0, 0, 0, [])
  | 31 => (.aload_n 0, 32, 0, 0, 0, [])
  | 32 => (.aload_n 0, 33, 0, 0, 0, [])
  | 33 => (.getfield 11, 36, 6, 1, 0, [])
  | 36 => (.iload_n 1, 37, 1, 0, 0, [])
  | 37 => (.aaload, 38, 0, 0, 0, [])
  | 38 => (.iload_n 2, 39, 2, 0, 0, [])
  | 39 => (.iload_n 3, 40, 3, 0, 0, [])
  | 40 => (.invokevirtual 95, 43, 35, 3, 0, [3])
  | 43 => (.invokevirtual 88, 46, 106, 2, 0, [6])
  | 46 => (.ireturn, 47, 0, 0, 0, [])
  | _ => (.nop, 1, 0, 0, 0, [])
def kt_X_copy : Nat → kx_E
  | 0 => (.iload_n 1, 1, 1, 0, 0, [])
  | 1 => (.invokestatic 71, 4, 110, 1, 0, [])
  | 4 => (.ifCond .eq 10, 7, 14, 0, 0, [])
  | 7 => (.iload_n 3, 8, 3, 0, 0, [])
  | 8 => (.invokestatic 71, 11, 110, 1, 0, [])
  | 11 => (.ifCond .ne 6, 14, 17, 0, 0, [])
  | 14 => (.ldc 79, 16, 0, 0, (-1000001), [])
  | 16 => (.ireturn, 17, 0, 0, 0, [])
  | 17 => (.aload_n 0, 18, 0, 0, 0, [])
  | 18 => (.getfield 11, 21, 6, 1, 0, [])
  | 21 => (.iload_n 1, 22, 1, 0, 0, [])
  | 22 => (.aaload, 23, 0, 0, 0, [])
  | 23 => (.astore 6, 25, 6, 0, 0, [])
  | 25 => (.aload_n 0, 26, 0, 0, 0, [])
  | 26 => (.getfield 11, 29, 6, 1, 0, [])
  | 29 => (.iload_n 3, 30, 3, 0, 0, [])
  | 30 => (.aaload, 31, 0, 0, 0, [])
  | 31 => (.astore 7, 33, 7, 0, 0, [])
  | 33 => (.aload 6, 35, 6, 0, 0, [])
  | 35 => (.invokevirtual 99, 38, 31, 1, 0, [3])
  | 38 => (.ifCond .ne 11, 41, 49, 0, 0, [])
  | 41 => (.aload 7, 43, 7, 0, 0, [])
  | 43 => (.invokevirtual 99, 46, 31, 1, 0, [3])
  | 46 => (.ifCond .eq 9, 49, 55, 0, 0, [])
  | 49 => (.aload_n 0, 50, 0, 0, 0, [])
  | 50 => (.iconst 1, 51, 0, 0, 1, [])
  | 51 => (.invokevirtual 80, 54, 105, 2, 0, [6])
  | 54 => (.ireturn, 55, 0, 0, 0, [])
  | 55 => (.aload 6, 57, 6, 0, 0, [])
  | 57 => (.getfield 103, 60, 3, 0, 1, [])
  | 60 => (.aload 7, 62, 7, 0, 0, [])
  | 62 => (.getfield 103, 65, 3, 0, 1, [])
  | 65 => (.if_icmp .eq 9, 68, 74, 0, 0, [])
  | 68 => (.aload_n 0, 69, 0, 0, 0, [])
  | 69 => (.iconst 5, 70, 0, 0, 5, [])
  | 70 => (.invokevirtual 80, 73, 105, 2, 0, [6])
  | 73 => (.ireturn, 74, 0, 0, 0, [])
  | 74 => (.aload 6, 76, 6, 0, 0, [])
  | 76 => (.iload_n 2, 77, 2, 0, 0, [])
  | 77 => (.iload 5, 79, 5, 0, 0, [])
  | 79 => (.invokevirtual 106, 82, 34, 3, 0, [3])
  | 82 => (.ifCond .eq 15, 85, 97, 0, 0, [])
  | 85 => (.aload 7, 87, 7, 0, 0, [])
  | 87 => (.iload 4, 89, 4, 0, 0, [])
  | 89 => (.iload 5, 91, 5, 0, 0, [])
  | 91 => (.invokevirtual 106, 94, 34, 3, 0, [3])
  | 94 => (.ifCond .ne 9, 97, 103, 0, 0, [])
  | 97 => (.aload_n 0, 98, 0, 0, 0, [])
  | 98 => (.iconst 2, 99, 0, 0, 2, [])
  | 99 => (.invokevirtual 80, 102, 105, 2, 0, [6])
  | 102 => (.ireturn, 103, 0, 0, 0, [])
  | 103 => (.aload 6, 105, 6, 0, 0, [])
  | 105 => (.getfield 110, 108, 3, 1, 0, [])
  | 108 => (.iload_n 2, 109, 2, 0, 0, [])
  | 109 => (.aload 7, 111, 7, 0, 0, [])
  | 111 => (.getfield 110, 114, 3, 1, 0, [])
  | 114 => (.iload 4, 116, 4, 0, 0, [])
  | 116 => (.iload 5, 118, 5, 0, 0, [])
  | 118 => (.invokestatic 114, 121, 0, 0, 2, [])
  | 121 => (.aload_n 0, 122, 0, 0, 0, [])
  | 122 => (.iload 5, 124, 5, 0, 0, [])
  | 124 => (.invokevirtual 88, 127, 106, 2, 0, [6])
  | 127 => (.ireturn, 128, 0, 0, 0, [])
  | _ => (.nop, 1, 0, 0, 0, [])
def kt_X_drop : Nat → kx_E
  | 0 => (.iload_n 1, 1, 1, 0, 0, [])
  | 1 => (.invokestatic 71, 4, 110, 1, 0, [])
  | 4 => (.ifCond .ne 6, 7, 10, 0, 0, [])
  | 7 => (.ldc 79, 9, 0, 0, (-1000001), [])
  | 9 => (.ireturn, 10, 0, 0, 0, [])
  | 10 => (.aload_n 0, 11, 0, 0, 0, [])
  | 11 => (.getfield 11, 14, 6, 1, 0, [])
  | 14 => (.iload_n 1, 15, 1, 0, 0, [])
  | 15 => (.aaload, 16, 0, 0, 0, [])
  | 16 => (.invokevirtual 99, 19, 31, 1, 0, [3])
  | 19 => (.ifCond .eq 9, 22, 28, 0, 0, [])
  | 22 => (.aload_n 0, 23, 0, 0, 0, [])
  | 23 => (.iconst 1, 24, 0, 0, 1, [])
  | 24 => (.invokevirtual 80, 27, 105, 2, 0, [6])
  | 27 => (.ireturn, 28, 0, 0, 0, [])
  | 28 => (.aload_n 0, 29, 0, 0, 0, [])
  | 29 => (.aload_n 0, 30, 0, 0, 0, [])
  | 30 => (.getfield 11, 33, 6, 1, 0, [])
  | 33 => (.iload_n 1, 34, 1, 0, 0, [])
  | 34 => (.aaload, 35, 0, 0, 0, [])
  | 35 => (.invokevirtual 120, 38, 33, 1, 0, [3])
  | 38 => (.invokevirtual 88, 41, 106, 2, 0, [6])
  | 41 => (.ireturn, 42, 0, 0, 0, [])
  | _ => (.nop, 1, 0, 0, 0, [])
def kt_X_feed : Nat → kx_E
  | 0 => (.iload_n 1, 1, 1, 0, 0, [])
  | 1 => (.iconst 0, 2, 0, 0, 0, [])
  | 2 => (.sipush 255, 5, 0, 0, 255, [])
  | 5 => (.invokestatic 75, 8, 113, 3, 0, [])
  | 8 => (.ifCond .ne 6, 11, 14, 0, 0, [])
  | 11 => (.ldc 79, 13, 0, 0, (-1000001), [])
  | 13 => (.ireturn, 14, 0, 0, 0, [])
  | 14 => (.aload_n 0, 15, 0, 0, 0, [])
  | 15 => (.getfield 19, 18, 6, 1, 1, [])
  | 18 => (.invokevirtual 124, 21, 38, 1, 0, [4])
  | 21 => (.ifCond .eq 6, 24, 27, 0, 0, [])
  | 24 => (.ldc 127, 26, 0, 0, (-1000003), [])
  | 26 => (.ireturn, 27, 0, 0, 0, [])
  | 27 => (.aload_n 0, 28, 0, 0, 0, [])
  | 28 => (.getfield 19, 31, 6, 1, 1, [])
  | 31 => (.iload_n 1, 32, 1, 0, 0, [])
  | 32 => (.invokevirtual 128, 35, 39, 2, 0, [4])
  | 35 => (.ireturn, 36, 0, 0, 0, [])
  | _ => (.nop, 1, 0, 0, 0, [])
def kt_X_town : Nat → kx_E
  | 0 => (.aload_n 0, 1, 0, 0, 0, [])
  | 1 => (.getfield 19, 4, 6, 1, 1, [])
  | 4 => (.aload_n 0, 5, 0, 0, 0, [])
  | 5 => (.getfield 26, 8, 6, 1, 2, [])
  | 8 => (.invokevirtual 131, 11, 41, 2, 0, [4])
  | 11 => (.istore_n 1, 12, 1, 0, 0, [])
  | 12 => (.aload_n 0, 13, 0, 0, 0, [])
  | 13 => (.getfield 19, 16, 6, 1, 1, [])
  | 16 => (.invokevirtual 135, 19, 40, 1, 0, [4])
  | 19 => (.iload_n 1, 20, 1, 0, 0, [])
  | 20 => (.ifCond .ne 25, 23, 45, 0, 0, [])
  | 23 => (.aload_n 0, 24, 0, 0, 0, [])
  | 24 => (.aload_n 0, 25, 0, 0, 0, [])
  | 25 => (.getfield 19, 28, 6, 1, 1, [])
  | 28 => (.getfield 138, 31, 4, 0, 2, [])
  | 31 => (.putfield 64, 34, 6, 0, 9, [])
  | 34 => (.ldc 139, 36, 0, 0, (-1000100), [])
  | 36 => (.aload_n 0, 37, 0, 0, 0, [])
  | 37 => (.getfield 19, 40, 6, 1, 1, [])
  | 40 => (.getfield 140, 43, 4, 0, 3, [])
  | 43 => (.isub, 44, 0, 0, 0, [])
  | 44 => (.ireturn, 45, 0, 0, 0, [])
  | 45 => (.aload_n 0, 46, 0, 0, 0, [])
  | 46 => (.getfield 30, 49, 6, 1, 3, [])
  | 49 => (.aload_n 0, 50, 0, 0, 0, [])
  | 50 => (.getfield 26, 53, 6, 1, 2, [])
  | 53 => (.invokevirtual 143, 56, 54, 2, 0, [5])
  | 56 => (.aload_n 0, 57, 0, 0, 0, [])
  | 57 => (.getfield 36, 60, 6, 1, 4, [])
  | 60 => (.invokevirtual 146, 63, 1, 1, 0, [0])
  | 63 => (.aload_n 0, 64, 0, 0, 0, [])
  | 64 => (.getfield 30, 67, 6, 1, 3, [])
  | 67 => (.getfield 149, 70, 5, 0, 8, [])
  | 70 => (.ireturn, 71, 0, 0, 0, [])
  | _ => (.nop, 1, 0, 0, 0, [])
def kt_X_fault : Nat → kx_E
  | 0 => (.aload_n 0, 1, 0, 0, 0, [])
  | 1 => (.getfield 64, 4, 6, 0, 9, [])
  | 4 => (.ireturn, 5, 0, 0, 0, [])
  | _ => (.nop, 1, 0, 0, 0, [])
def kt_X_steps : Nat → kx_E
  | 0 => (.aload_n 0, 1, 0, 0, 0, [])
  | 1 => (.invokevirtual 152, 4, 109, 1, 0, [6])
  | 4 => (.ifCond .eq 6, 7, 10, 0, 0, [])
  | 7 => (.ldc 155, 9, 0, 0, (-1000002), [])
  | 9 => (.ireturn, 10, 0, 0, 0, [])
  | 10 => (.iload_n 1, 11, 1, 0, 0, [])
  | 11 => (.iconst 1, 12, 0, 0, 1, [])
  | 12 => (.bipush 20, 14, 0, 0, 20, [])
  | 14 => (.invokestatic 75, 17, 113, 3, 0, [])
  | 17 => (.ifCond .ne 6, 20, 23, 0, 0, [])
  | 20 => (.ldc 79, 22, 0, 0, (-1000001), [])
  | 22 => (.ireturn, 23, 0, 0, 0, [])
  | 23 => (.aload_n 0, 24, 0, 0, 0, [])
  | 24 => (.getfield 30, 27, 6, 1, 3, [])
  | 27 => (.getfield 156, 30, 5, 0, 13, [])
  | 30 => (.iload_n 1, 31, 1, 0, 0, [])
  | 31 => (.iadd, 32, 0, 0, 0, [])
  | 32 => (.sipush 999, 35, 0, 0, 999, [])
  | 35 => (.if_icmp .le 6, 38, 41, 0, 0, [])
  | 38 => (.ldc 127, 40, 0, 0, (-1000003), [])
  | 40 => (.ireturn, 41, 0, 0, 0, [])
  | 41 => (.iconst 0, 42, 0, 0, 0, [])
  | 42 => (.istore_n 2, 43, 2, 0, 0, [])
  | 43 => (.iload_n 2, 44, 2, 0, 0, [])
  | 44 => (.iload_n 1, 45, 1, 0, 0, [])
  | 45 => (.if_icmp .ge 44, 48, 89, 0, 0, [])
  | 48 => (.aload_n 0, 49, 0, 0, 0, [])
  | 49 => (.getfield 30, 52, 6, 1, 3, [])
  | 52 => (.getfield 159, 55, 5, 0, 11, [])
  | 55 => (.istore_n 3, 56, 3, 0, 0, [])
  | 56 => (.aload_n 0, 57, 0, 0, 0, [])
  | 57 => (.getfield 30, 60, 6, 1, 3, [])
  | 60 => (.getfield 162, 63, 5, 0, 12, [])
  | 63 => (.istore 4, 65, 4, 0, 0, [])
  | 65 => (.aload_n 0, 66, 0, 0, 0, [])
  | 66 => (.getfield 36, 69, 6, 1, 4, [])
  | 69 => (.iconst 0, 70, 0, 0, 0, [])
  | 70 => (.iload_n 3, 71, 3, 0, 0, [])
  | 71 => (.iload 4, 73, 4, 0, 0, [])
  | 73 => (.aload_n 0, 74, 0, 0, 0, [])
  | 74 => (.getfield 30, 77, 6, 1, 3, [])
  | 77 => (.invokevirtual 165, 80, 61, 1, 0, [5])
  | 80 => (.invokevirtual 168, 83, 2, 5, 0, [0])
  | 83 => (.iinc 2 1, 86, 2, 0, 1, [])
  | 86 => (.goto (-43), 89, 43, 0, 0, [])
  | 89 => (.aload_n 0, 90, 0, 0, 0, [])
  | 90 => (.getfield 30, 93, 6, 1, 3, [])
  | 93 => (.getfield 159, 96, 5, 0, 11, [])
  | 96 => (.ireturn, 97, 0, 0, 0, [])
  | _ => (.nop, 1, 0, 0, 0, [])
def kt_X_wind : Nat → kx_E
  | 0 => (.aload_n 0, 1, 0, 0, 0, [])
  | 1 => (.invokevirtual 152, 4, 109, 1, 0, [6])
  | 4 => (.ifCond .eq 6, 7, 10, 0, 0, [])
  | 7 => (.ldc 155, 9, 0, 0, (-1000002), [])
  | 9 => (.ireturn, 10, 0, 0, 0, [])
  | 10 => (.iload_n 1, 11, 1, 0, 0, [])
  | 11 => (.iconst 0, 12, 0, 0, 0, [])
  | 12 => (.iconst 5, 13, 0, 0, 5, [])
  | 13 => (.invokestatic 75, 16, 113, 3, 0, [])
  | 16 => (.ifCond .ne 6, 19, 22, 0, 0, [])
  | 19 => (.ldc 79, 21, 0, 0, (-1000001), [])
  | 21 => (.ireturn, 22, 0, 0, 0, [])
  | 22 => (.aload_n 0, 23, 0, 0, 0, [])
  | 23 => (.getfield 30, 26, 6, 1, 3, [])
  | 26 => (.getfield 172, 29, 5, 0, 10, [])
  | 29 => (.istore_n 2, 30, 2, 0, 0, [])
  | 30 => (.aload_n 0, 31, 0, 0, 0, [])
  | 31 => (.getfield 36, 34, 6, 1, 4, [])
  | 34 => (.iconst 1, 35, 0, 0, 1, [])
  | 35 => (.aload_n 0, 36, 0, 0, 0, [])
  | 36 => (.getfield 30, 39, 6, 1, 3, [])
  | 39 => (.getfield 159, 42, 5, 0, 11, [])
  | 42 => (.aload_n 0, 43, 0, 0, 0, [])
  | 43 => (.getfield 30, 46, 6, 1, 3, [])
  | 46 => (.getfield 162, 49, 5, 0, 12, [])
  | 49 => (.iload_n 2, 50, 2, 0, 0, [])
  | 50 => (.invokevirtual 168, 53, 2, 5, 0, [0])
  | 53 => (.aload_n 0, 54, 0, 0, 0, [])
  | 54 => (.getfield 30, 57, 6, 1, 3, [])
  | 57 => (.iload_n 1, 58, 1, 0, 0, [])
  | 58 => (.putfield 172, 61, 5, 0, 10, [])
  | 61 => (.iload_n 2, 62, 2, 0, 0, [])
  | 62 => (.ireturn, 63, 0, 0, 0, [])
  | _ => (.nop, 1, 0, 0, 0, [])
def kt_X_give : Nat → kx_E
  | 0 => (.aload_n 0, 1, 0, 0, 0, [])
  | 1 => (.getfield 30, 4, 6, 1, 3, [])
  | 4 => (.iload_n 1, 5, 1, 0, 0, [])
  | 5 => (.invokevirtual 175, 8, 57, 2, 0, [5])
  | 8 => (.ifCond .ne 6, 11, 14, 0, 0, [])
  | 11 => (.ldc 79, 13, 0, 0, (-1000001), [])
  | 13 => (.ireturn, 14, 0, 0, 0, [])
  | 14 => (.aload_n 0, 15, 0, 0, 0, [])
  | 15 => (.getfield 30, 18, 6, 1, 3, [])
  | 18 => (.getfield 159, 21, 5, 0, 11, [])
  | 21 => (.istore_n 2, 22, 2, 0, 0, [])
  | 22 => (.aload_n 0, 23, 0, 0, 0, [])
  | 23 => (.getfield 36, 26, 6, 1, 4, [])
  | 26 => (.iconst 2, 27, 0, 0, 2, [])
  | 27 => (.iload_n 2, 28, 2, 0, 0, [])
  | 28 => (.aload_n 0, 29, 0, 0, 0, [])
  | 29 => (.getfield 30, 32, 6, 1, 3, [])
  | 32 => (.getfield 162, 35, 5, 0, 12, [])
  | 35 => (.iload_n 1, 36, 1, 0, 0, [])
  | 36 => (.invokevirtual 168, 39, 2, 5, 0, [0])
  | 39 => (.aload_n 0, 40, 0, 0, 0, [])
  | 40 => (.getfield 30, 43, 6, 1, 3, [])
  | 43 => (.iload_n 1, 44, 1, 0, 0, [])
  | 44 => (.invokevirtual 178, 47, 60, 2, 0, [5])
  | 47 => (.iload_n 2, 48, 2, 0, 0, [])
  | 48 => (.ireturn, 49, 0, 0, 0, [])
  | _ => (.nop, 1, 0, 0, 0, [])
def kt_X_order : Nat → kx_E
  | 0 => (.aload_n 0, 1, 0, 0, 0, [])
  | 1 => (.invokevirtual 152, 4, 109, 1, 0, [6])
  | 4 => (.ifCond .eq 6, 7, 10, 0, 0, [])
  | 7 => (.ldc 155, 9, 0, 0, (-1000002), [])
  | 9 => (.ireturn, 10, 0, 0, 0, [])
  | 10 => (.iload_n 1, 11, 1, 0, 0, [])
  | 11 => (.iconst 1, 12, 0, 0, 1, [])
  | 12 => (.bipush 40, 14, 0, 0, 40, [])
  | 14 => (.invokestatic 75, 17, 113, 3, 0, [])
  | 17 => (.ifCond .ne 6, 20, 23, 0, 0, [])
  | 20 => (.ldc 79, 22, 0, 0, (-1000001), [])
  | 22 => (.ireturn, 23, 0, 0, 0, [])
  | 23 => (.aload_n 0, 24, 0, 0, 0, [])
  | 24 => (.getfield 30, 27, 6, 1, 3, [])
  | 27 => (.getfield 182, 30, 5, 0, 9, [])
  | 30 => (.iconst 4, 31, 0, 0, 4, [])
  | 31 => (.if_icmp .lt 6, 34, 37, 0, 0, [])
  | 34 => (.ldc 127, 36, 0, 0, (-1000003), [])
  | 36 => (.ireturn, 37, 0, 0, 0, [])
  | 37 => (.aload_n 0, 38, 0, 0, 0, [])
  | 38 => (.getfield 30, 41, 6, 1, 3, [])
  | 41 => (.iload_n 1, 42, 1, 0, 0, [])
  | 42 => (.invokevirtual 185, 45, 56, 2, 0, [5])
  | 45 => (.istore_n 2, 46, 2, 0, 0, [])
  | 46 => (.aload_n 0, 47, 0, 0, 0, [])
  | 47 => (.getfield 36, 50, 6, 1, 4, [])
  | 50 => (.iconst 3, 51, 0, 0, 3, [])
  | 51 => (.aload_n 0, 52, 0, 0, 0, [])
  | 52 => (.getfield 30, 55, 6, 1, 3, [])
  | 55 => (.getfield 159, 58, 5, 0, 11, [])
  | 58 => (.aload_n 0, 59, 0, 0, 0, [])
  | 59 => (.getfield 30, 62, 6, 1, 3, [])
  | 62 => (.getfield 162, 65, 5, 0, 12, [])
  | 65 => (.iload_n 2, 66, 2, 0, 0, [])
  | 66 => (.invokevirtual 168, 69, 2, 5, 0, [0])
  | 69 => (.iload_n 2, 70, 2, 0, 0, [])
  | 70 => (.ireturn, 71, 0, 0, 0, [])
  | _ => (.nop, 1, 0, 0, 0, [])
def kt_X_back : Nat → kx_E
  | 0 => (.aload_n 0, 1, 0, 0, 0, [])
  | 1 => (.getfield 30, 4, 6, 1, 3, [])
  | 4 => (.iload_n 1, 5, 1, 0, 0, [])
  | 5 => (.invokevirtual 188, 8, 58, 2, 0, [5])
  | 8 => (.ifCond .ne 6, 11, 14, 0, 0, [])
  | 11 => (.ldc 79, 13, 0, 0, (-1000001), [])
  | 13 => (.ireturn, 14, 0, 0, 0, [])
  | 14 => (.aload_n 0, 15, 0, 0, 0, [])
  | 15 => (.getfield 30, 18, 6, 1, 3, [])
  | 18 => (.getfield 191, 21, 5, 1, 6, [])
  | 21 => (.iload_n 1, 22, 1, 0, 0, [])
  | 22 => (.iaload, 23, 0, 0, 0, [])
  | 23 => (.ifCond .eq 6, 26, 29, 0, 0, [])
  | 26 => (.ldc 155, 28, 0, 0, (-1000002), [])
  | 28 => (.ireturn, 29, 0, 0, 0, [])
  | 29 => (.aload_n 0, 30, 0, 0, 0, [])
  | 30 => (.getfield 36, 33, 6, 1, 4, [])
  | 33 => (.iconst 4, 34, 0, 0, 4, [])
  | 34 => (.aload_n 0, 35, 0, 0, 0, [])
  | 35 => (.getfield 30, 38, 6, 1, 3, [])
  | 38 => (.getfield 159, 41, 5, 0, 11, [])
  | 41 => (.aload_n 0, 42, 0, 0, 0, [])
  | 42 => (.getfield 30, 45, 6, 1, 3, [])
  | 45 => (.getfield 162, 48, 5, 0, 12, [])
  | 48 => (.iload_n 1, 49, 1, 0, 0, [])
  | 49 => (.invokevirtual 168, 52, 2, 5, 0, [0])
  | 52 => (.aload_n 0, 53, 0, 0, 0, [])
  | 53 => (.getfield 30, 56, 6, 1, 3, [])
  | 56 => (.getfield 191, 59, 5, 1, 6, [])
  | 59 => (.iload_n 1, 60, 1, 0, 0, [])
  | 60 => (.iconst 2, 61, 0, 0, 2, [])
  | 61 => (.iastore, 62, 0, 0, 0, [])
  | 62 => (.aload_n 0, 63, 0, 0, 0, [])
  | 63 => (.getfield 30, 66, 6, 1, 3, [])
  | 66 => (.getfield 194, 69, 5, 1, 5, [])
  | 69 => (.iload_n 1, 70, 1, 0, 0, [])
  | 70 => (.iaload, 71, 0, 0, 0, [])
  | 71 => (.ireturn, 72, 0, 0, 0, [])
  | _ => (.nop, 1, 0, 0, 0, [])
def kt_X_undo : Nat → kx_E
  | 0 => (.aload_n 0, 1, 0, 0, 0, [])
  | 1 => (.getfield 36, 4, 6, 1, 4, [])
  | 4 => (.getfield 197, 7, 0, 0, 5, [])
  | 7 => (.ifCond .ne 6, 10, 13, 0, 0, [])
  | 10 => (.ldc 155, 12, 0, 0, (-1000002), [])
  | 12 => (.ireturn, 13, 0, 0, 0, [])
  | 13 => (.aload_n 0, 14, 0, 0, 0, [])
  | 14 => (.getfield 36, 17, 6, 1, 4, [])
  | 17 => (.aload_n 0, 18, 0, 0, 0, [])
  | 18 => (.getfield 30, 21, 6, 1, 3, [])
  | 21 => (.invokevirtual 200, 24, 3, 2, 0, [0])
  | 24 => (.aload_n 0, 25, 0, 0, 0, [])
  | 25 => (.getfield 36, 28, 6, 1, 4, [])
  | 28 => (.getfield 197, 31, 0, 0, 5, [])
  | 31 => (.ireturn, 32, 0, 0, 0, [])
  | _ => (.nop, 1, 0, 0, 0, [])
def kt_X_head : Nat → kx_E
  | 0 => (.aload_n 0, 1, 0, 0, 0, [])
  | 1 => (.getfield 30, 4, 6, 1, 3, [])
  | 4 => (.iload_n 1, 5, 1, 0, 0, [])
  | 5 => (.invokevirtual 175, 8, 57, 2, 0, [5])
  | 8 => (.ifCond .ne 6, 11, 14, 0, 0, [])
  | 11 => (.ldc 79, 13, 0, 0, (-1000001), [])
  | 13 => (.ireturn, 14, 0, 0, 0, [])
  | 14 => (.iload_n 2, 15, 2, 0, 0, [])
  | 15 => (.tableswitch 76 0 3 #[29, 39, 49, 66], 44, 91, 0, 0, [44, 54, 64, 81])
  | 44 => (.aload_n 0, 45, 0, 0, 0, [])
  | 45 => (.getfield 30, 48, 6, 1, 3, [])
  | 48 => (.getfield 203, 51, 5, 1, 1, [])
  | 51 => (.iload_n 1, 52, 1, 0, 0, [])
  | 52 => (.iaload, 53, 0, 0, 0, [])
  | 53 => (.ireturn, 54, 0, 0, 0, [])
  | 54 => (.aload_n 0, 55, 0, 0, 0, [])
  | 55 => (.getfield 30, 58, 6, 1, 3, [])
  | 58 => (.getfield 206, 61, 5, 1, 2, [])
  | 61 => (.iload_n 1, 62, 1, 0, 0, [])
  | 62 => (.iaload, 63, 0, 0, 0, [])
  | 63 => (.ireturn, 64, 0, 0, 0, [])
  | 64 => (.aload_n 0, 65, 0, 0, 0, [])
  | 65 => (.getfield 30, 68, 6, 1, 3, [])
  | 68 => (.getfield 159, 71, 5, 0, 11, [])
  | 71 => (.iload_n 1, 72, 1, 0, 0, [])
  | 72 => (.if_icmp .ne 7, 75, 79, 0, 0, [])
  | 75 => (.iconst 1, 76, 0, 0, 1, [])
  | 76 => (.goto 4, 79, 80, 0, 0, [])
  | 79 => (.iconst 0, 80, 0, 0, 0, [])
  | 80 => (.ireturn, 81, 0, 0, 0, [])
  | 81 => (.aload_n 0, 82, 0, 0, 0, [])
  | 82 => (.getfield 30, 85, 6, 1, 3, [])
  | 85 => (.getfield 209, 88, 5, 1, 3, [])
  | 88 => (.iload_n 1, 89, 1, 0, 0, [])
  | 89 => (.iaload, 90, 0, 0, 0, [])
  | 90 => (.ireturn, 91, 0, 0, 0, [])
  | 91 => (.ldc 79, 93, 0, 0, (-1000001), [])
  | 93 => (.ireturn, 94, 0, 0, 0, [])
  | _ => (.nop, 1, 0, 0, 0, [])
def kt_X_orderHas : Nat → kx_E
  | 0 => (.aload_n 0, 1, 0, 0, 0, [])
  | 1 => (.getfield 30, 4, 6, 1, 3, [])
  | 4 => (.iload_n 1, 5, 1, 0, 0, [])
  | 5 => (.invokevirtual 188, 8, 58, 2, 0, [5])
  | 8 => (.ifCond .ne 6, 11, 14, 0, 0, [])
  | 11 => (.ldc 79, 13, 0, 0, (-1000001), [])
  | 13 => (.ireturn, 14, 0, 0, 0, [])
  | 14 => (.iload_n 2, 15, 2, 0, 0, [])
  | 15 => (.tableswitch 55 0 2 #[25, 35, 45], 40, 70, 0, 0, [40, 50, 60])
  | 40 => (.aload_n 0, 41, 0, 0, 0, [])
  | 41 => (.getfield 30, 44, 6, 1, 3, [])
  | 44 => (.getfield 212, 47, 5, 1, 4, [])
  | 47 => (.iload_n 1, 48, 1, 0, 0, [])
  | 48 => (.iaload, 49, 0, 0, 0, [])
  | 49 => (.ireturn, 50, 0, 0, 0, [])
  | 50 => (.aload_n 0, 51, 0, 0, 0, [])
  | 51 => (.getfield 30, 54, 6, 1, 3, [])
  | 54 => (.getfield 194, 57, 5, 1, 5, [])
  | 57 => (.iload_n 1, 58, 1, 0, 0, [])
  | 58 => (.iaload, 59, 0, 0, 0, [])
  | 59 => (.ireturn, 60, 0, 0, 0, [])
  | 60 => (.aload_n 0, 61, 0, 0, 0, [])
  | 61 => (.getfield 30, 64, 6, 1, 3, [])
  | 64 => (.getfield 191, 67, 5, 1, 6, [])
  | 67 => (.iload_n 1, 68, 1, 0, 0, [])
  | 68 => (.iaload, 69, 0, 0, 0, [])
  | 69 => (.ireturn, 70, 0, 0, 0, [])
  | 70 => (.ldc 79, 72, 0, 0, (-1000001), [])
  | 72 => (.ireturn, 73, 0, 0, 0, [])
  | _ => (.nop, 1, 0, 0, 0, [])
def kt_X_hat : Nat → kx_E
  | 0 => (.aload_n 0, 1, 0, 0, 0, [])
  | 1 => (.invokevirtual 152, 4, 109, 1, 0, [6])
  | 4 => (.ifCond .eq 6, 7, 10, 0, 0, [])
  | 7 => (.ldc 155, 9, 0, 0, (-1000002), [])
  | 9 => (.ireturn, 10, 0, 0, 0, [])
  | 10 => (.iload_n 1, 11, 1, 0, 0, [])
  | 11 => (.tableswitch 61 0 3 #[29, 37, 45, 53], 40, 72, 0, 0, [40, 48, 56, 64])
  | 40 => (.aload_n 0, 41, 0, 0, 0, [])
  | 41 => (.getfield 30, 44, 6, 1, 3, [])
  | 44 => (.getfield 159, 47, 5, 0, 11, [])
  | 47 => (.ireturn, 48, 0, 0, 0, [])
  | 48 => (.aload_n 0, 49, 0, 0, 0, [])
  | 49 => (.getfield 30, 52, 6, 1, 3, [])
  | 52 => (.getfield 162, 55, 5, 0, 12, [])
  | 55 => (.ireturn, 56, 0, 0, 0, [])
  | 56 => (.aload_n 0, 57, 0, 0, 0, [])
  | 57 => (.getfield 30, 60, 6, 1, 3, [])
  | 60 => (.getfield 172, 63, 5, 0, 10, [])
  | 63 => (.ireturn, 64, 0, 0, 0, [])
  | 64 => (.aload_n 0, 65, 0, 0, 0, [])
  | 65 => (.getfield 30, 68, 6, 1, 3, [])
  | 68 => (.getfield 156, 71, 5, 0, 13, [])
  | 71 => (.ireturn, 72, 0, 0, 0, [])
  | 72 => (.ldc 79, 74, 0, 0, (-1000001), [])
  | 74 => (.ireturn, 75, 0, 0, 0, [])
  | _ => (.nop, 1, 0, 0, 0, [])
def kt_X_who : Nat → kx_E
  | 0 => (.aload_n 0, 1, 0, 0, 0, [])
  | 1 => (.invokevirtual 152, 4, 109, 1, 0, [6])
  | 4 => (.ifCond .eq 6, 7, 10, 0, 0, [])
  | 7 => (.ldc 155, 9, 0, 0, (-1000002), [])
  | 9 => (.ireturn, 10, 0, 0, 0, [])
  | 10 => (.iload_n 1, 11, 1, 0, 0, [])
  | 11 => (.invokestatic 215, 14, 112, 1, 0, [])
  | 14 => (.ifCond .eq 14, 17, 28, 0, 0, [])
  | 17 => (.aload_n 0, 18, 0, 0, 0, [])
  | 18 => (.getfield 45, 21, 6, 1, 5, [])
  | 21 => (.iload_n 1, 22, 1, 0, 0, [])
  | 22 => (.invokevirtual 218, 25, 11, 2, 0, [2])
  | 25 => (.goto 5, 28, 30, 0, 0, [])
  | 28 => (.ldc 79, 30, 0, 0, (-1000001), [])
  | 30 => (.ireturn, 31, 0, 0, 0, [])
  | _ => (.nop, 1, 0, 0, 0, [])
def kt_X_gets : Nat → kx_E
  | 0 => (.aload_n 0, 1, 0, 0, 0, [])
  | 1 => (.getfield 30, 4, 6, 1, 3, [])
  | 4 => (.iload_n 1, 5, 1, 0, 0, [])
  | 5 => (.invokevirtual 175, 8, 57, 2, 0, [5])
  | 8 => (.ifCond .eq 14, 11, 22, 0, 0, [])
  | 11 => (.aload_n 0, 12, 0, 0, 0, [])
  | 12 => (.getfield 45, 15, 6, 1, 5, [])
  | 15 => (.iload_n 1, 16, 1, 0, 0, [])
  | 16 => (.invokevirtual 221, 19, 12, 2, 0, [2])
  | 19 => (.goto 5, 22, 24, 0, 0, [])
  | 22 => (.ldc 79, 24, 0, 0, (-1000001), [])
  | 24 => (.ireturn, 25, 0, 0, 0, [])
  | _ => (.nop, 1, 0, 0, 0, [])
def kt_X_ever : Nat → kx_E
  | 0 => (.aload_n 0, 1, 0, 0, 0, [])
  | 1 => (.invokevirtual 152, 4, 109, 1, 0, [6])
  | 4 => (.ifCond .eq 6, 7, 10, 0, 0, [])
  | 7 => (.ldc 155, 9, 0, 0, (-1000002), [])
  | 9 => (.ireturn, 10, 0, 0, 0, [])
  | 10 => (.iload_n 1, 11, 1, 0, 0, [])
  | 11 => (.invokestatic 215, 14, 112, 1, 0, [])
  | 14 => (.ifCond .eq 14, 17, 28, 0, 0, [])
  | 17 => (.aload_n 0, 18, 0, 0, 0, [])
  | 18 => (.getfield 45, 21, 6, 1, 5, [])
  | 21 => (.iload_n 1, 22, 1, 0, 0, [])
  | 22 => (.invokevirtual 224, 25, 13, 2, 0, [2])
  | 25 => (.goto 5, 28, 30, 0, 0, [])
  | 28 => (.ldc 79, 30, 0, 0, (-1000001), [])
  | 30 => (.ireturn, 31, 0, 0, 0, [])
  | _ => (.nop, 1, 0, 0, 0, [])
def kt_X_round : Nat → kx_E
  | 0 => (.aload_n 0, 1, 0, 0, 0, [])
  | 1 => (.invokevirtual 152, 4, 109, 1, 0, [6])
  | 4 => (.ifCond .eq 6, 7, 10, 0, 0, [])
  | 7 => (.ldc 155, 9, 0, 0, (-1000002), [])
  | 9 => (.ireturn, 10, 0, 0, 0, [])
  | 10 => (.iload_n 1, 11, 1, 0, 0, [])
  | 11 => (.iconst 0, 12, 0, 0, 0, [])
  | 12 => (.iconst 1, 13, 0, 0, 1, [])
  | 13 => (.invokestatic 75, 16, 113, 3, 0, [])
  | 16 => (.ifCond .eq 14, 19, 30, 0, 0, [])
  | 19 => (.aload_n 0, 20, 0, 0, 0, [])
  | 20 => (.getfield 45, 23, 6, 1, 5, [])
  | 23 => (.iload_n 1, 24, 1, 0, 0, [])
  | 24 => (.invokevirtual 227, 27, 14, 2, 0, [2])
  | 27 => (.goto 5, 30, 32, 0, 0, [])
  | 30 => (.ldc 79, 32, 0, 0, (-1000001), [])
  | 32 => (.ireturn, 33, 0, 0, 0, [])
  | _ => (.nop, 1, 0, 0, 0, [])
def kt_X_done : Nat → kx_E
  | 0 => (.aload_n 0, 1, 0, 0, 0, [])
  | 1 => (.getfield 30, 4, 6, 1, 3, [])
  | 4 => (.iload_n 1, 5, 1, 0, 0, [])
  | 5 => (.invokevirtual 188, 8, 58, 2, 0, [5])
  | 8 => (.ifCond .eq 14, 11, 22, 0, 0, [])
  | 11 => (.aload_n 0, 12, 0, 0, 0, [])
  | 12 => (.getfield 45, 15, 6, 1, 5, [])
  | 15 => (.iload_n 1, 16, 1, 0, 0, [])
  | 16 => (.invokevirtual 230, 19, 15, 2, 0, [2])
  | 19 => (.goto 5, 22, 24, 0, 0, [])
  | 22 => (.ldc 79, 24, 0, 0, (-1000001), [])
  | 24 => (.ireturn, 25, 0, 0, 0, [])
  | _ => (.nop, 1, 0, 0, 0, [])
def kt_X_first : Nat → kx_E
  | 0 => (.aload_n 0, 1, 0, 0, 0, [])
  | 1 => (.invokevirtual 152, 4, 109, 1, 0, [6])
  | 4 => (.ifCond .eq 8, 7, 12, 0, 0, [])
  | 7 => (.ldc 155, 9, 0, 0, (-1000002), [])
  | 9 => (.goto 10, 12, 19, 0, 0, [])
  | 12 => (.aload_n 0, 13, 0, 0, 0, [])
  | 13 => (.getfield 45, 16, 6, 1, 5, [])
  | 16 => (.invokevirtual 233, 19, 16, 1, 0, [2])
  | 19 => (.ireturn, 20, 0, 0, 0, [])
  | _ => (.nop, 1, 0, 0, 0, [])
def kt_X_by : Nat → kx_E
  | 0 => (.aload_n 0, 1, 0, 0, 0, [])
  | 1 => (.getfield 30, 4, 6, 1, 3, [])
  | 4 => (.iload_n 1, 5, 1, 0, 0, [])
  | 5 => (.invokevirtual 175, 8, 57, 2, 0, [5])
  | 8 => (.ifCond .eq 10, 11, 18, 0, 0, [])
  | 11 => (.iload_n 2, 12, 2, 0, 0, [])
  | 12 => (.invokestatic 215, 15, 112, 1, 0, [])
  | 15 => (.ifCond .ne 6, 18, 21, 0, 0, [])
  | 18 => (.ldc 79, 20, 0, 0, (-1000001), [])
  | 20 => (.ireturn, 21, 0, 0, 0, [])
  | 21 => (.aload_n 0, 22, 0, 0, 0, [])
  | 22 => (.getfield 45, 25, 6, 1, 5, [])
  | 25 => (.iload_n 1, 26, 1, 0, 0, [])
  | 26 => (.iload_n 2, 27, 2, 0, 0, [])
  | 27 => (.invokevirtual 236, 30, 17, 3, 0, [2])
  | 30 => (.ireturn, 31, 0, 0, 0, [])
  | _ => (.nop, 1, 0, 0, 0, [])
def kt_X_toGive : Nat → kx_E
  | 0 => (.aload_n 0, 1, 0, 0, 0, [])
  | 1 => (.getfield 30, 4, 6, 1, 3, [])
  | 4 => (.iload_n 1, 5, 1, 0, 0, [])
  | 5 => (.invokevirtual 188, 8, 58, 2, 0, [5])
  | 8 => (.ifCond .eq 12, 11, 20, 0, 0, [])
  | 11 => (.iload_n 2, 12, 2, 0, 0, [])
  | 12 => (.iconst 0, 13, 0, 0, 0, [])
  | 13 => (.iconst 1, 14, 0, 0, 1, [])
  | 14 => (.invokestatic 75, 17, 113, 3, 0, [])
  | 17 => (.ifCond .ne 6, 20, 23, 0, 0, [])
  | 20 => (.ldc 79, 22, 0, 0, (-1000001), [])
  | 22 => (.ireturn, 23, 0, 0, 0, [])
  | 23 => (.aload_n 0, 24, 0, 0, 0, [])
  | 24 => (.getfield 30, 27, 6, 1, 3, [])
  | 27 => (.getfield 191, 30, 5, 1, 6, [])
  | 30 => (.iload_n 1, 31, 1, 0, 0, [])
  | 31 => (.iaload, 32, 0, 0, 0, [])
  | 32 => (.ifCond .eq 6, 35, 38, 0, 0, [])
  | 35 => (.ldc 155, 37, 0, 0, (-1000002), [])
  | 37 => (.ireturn, 38, 0, 0, 0, [])
  | 38 => (.aload_n 0, 39, 0, 0, 0, [])
  | 39 => (.getfield 45, 42, 6, 1, 5, [])
  | 42 => (.iload_n 1, 43, 1, 0, 0, [])
  | 43 => (.iload_n 2, 44, 2, 0, 0, [])
  | 44 => (.invokevirtual 239, 47, 18, 3, 0, [2])
  | 47 => (.ireturn, 48, 0, 0, 0, [])
  | _ => (.nop, 1, 0, 0, 0, [])
def kt_X_winds : Nat → kx_E
  | 0 => (.aload_n 0, 1, 0, 0, 0, [])
  | 1 => (.getfield 30, 4, 6, 1, 3, [])
  | 4 => (.iload_n 1, 5, 1, 0, 0, [])
  | 5 => (.invokevirtual 175, 8, 57, 2, 0, [5])
  | 8 => (.ifCond .eq 10, 11, 18, 0, 0, [])
  | 11 => (.iload_n 2, 12, 2, 0, 0, [])
  | 12 => (.invokestatic 215, 15, 112, 1, 0, [])
  | 15 => (.ifCond .ne 6, 18, 21, 0, 0, [])
  | 18 => (.ldc 79, 20, 0, 0, (-1000001), [])
  | 20 => (.ireturn, 21, 0, 0, 0, [])
  | 21 => (.aload_n 0, 22, 0, 0, 0, [])
  | 22 => (.getfield 45, 25, 6, 1, 5, [])
  | 25 => (.iload_n 1, 26, 1, 0, 0, [])
  | 26 => (.iload_n 2, 27, 2, 0, 0, [])
  | 27 => (.invokevirtual 242, 30, 19, 3, 0, [2])
  | 30 => (.ireturn, 31, 0, 0, 0, [])
  | _ => (.nop, 1, 0, 0, 0, [])
def kt_X_lot : Nat → kx_E
  | 0 => (.aload_n 0, 1, 0, 0, 0, [])
  | 1 => (.getfield 30, 4, 6, 1, 3, [])
  | 4 => (.iload_n 1, 5, 1, 0, 0, [])
  | 5 => (.invokevirtual 175, 8, 57, 2, 0, [5])
  | 8 => (.ifCond .eq 19, 11, 27, 0, 0, [])
  | 11 => (.iload_n 2, 12, 2, 0, 0, [])
  | 12 => (.invokestatic 215, 15, 112, 1, 0, [])
  | 15 => (.ifCond .eq 12, 18, 27, 0, 0, [])
  | 18 => (.iload_n 3, 19, 3, 0, 0, [])
  | 19 => (.iconst 0, 20, 0, 0, 0, [])
  | 20 => (.iconst 1, 21, 0, 0, 1, [])
  | 21 => (.invokestatic 75, 24, 113, 3, 0, [])
  | 24 => (.ifCond .ne 6, 27, 30, 0, 0, [])
  | 27 => (.ldc 79, 29, 0, 0, (-1000001), [])
  | 29 => (.ireturn, 30, 0, 0, 0, [])
  | 30 => (.aload_n 0, 31, 0, 0, 0, [])
  | 31 => (.getfield 45, 34, 6, 1, 5, [])
  | 34 => (.iload_n 1, 35, 1, 0, 0, [])
  | 35 => (.iload_n 2, 36, 2, 0, 0, [])
  | 36 => (.invokevirtual 242, 39, 19, 3, 0, [2])
  | 39 => (.invokestatic 245, 42, 191, 1, 0, [])
  | 42 => (.istore 4, 44, 4, 0, 0, [])
  | 44 => (.bipush 6, 46, 0, 0, 6, [])
  | 46 => (.istore 5, 48, 5, 0, 0, [])
  | 48 => (.iload_n 3, 49, 3, 0, 0, [])
  | 49 => (.ifCond .ne 15, 52, 64, 0, 0, [])
  | 52 => (.iload 4, 54, 4, 0, 0, [])
  | 54 => (.iload 4, 56, 4, 0, 0, [])
  | 56 => (.iload 5, 58, 5, 0, 0, [])
  | 58 => (.invokestatic 250, 61, 114, 3, 0, [])
  | 61 => (.goto 12, 64, 73, 0, 0, [])
  | 64 => (.iload 5, 66, 5, 0, 0, [])
  | 66 => (.iload 4, 68, 4, 0, 0, [])
  | 68 => (.iload 5, 70, 5, 0, 0, [])
  | 70 => (.invokestatic 250, 73, 114, 3, 0, [])
  | 73 => (.ireturn, 74, 0, 0, 0, [])
  | _ => (.nop, 1, 0, 0, 0, [])
def kt_X_seen : Nat → kx_E
  | 0 => (.aload_n 0, 1, 0, 0, 0, [])
  | 1 => (.invokevirtual 152, 4, 109, 1, 0, [6])
  | 4 => (.ifCond .eq 6, 7, 10, 0, 0, [])
  | 7 => (.ldc 155, 9, 0, 0, (-1000002), [])
  | 9 => (.ireturn, 10, 0, 0, 0, [])
  | 10 => (.iload_n 1, 11, 1, 0, 0, [])
  | 11 => (.invokestatic 71, 14, 110, 1, 0, [])
  | 14 => (.ifCond .eq 23, 17, 37, 0, 0, [])
  | 17 => (.iload_n 3, 18, 3, 0, 0, [])
  | 18 => (.iconst 1, 19, 0, 0, 1, [])
  | 19 => (.bipush 16, 21, 0, 0, 16, [])
  | 21 => (.invokestatic 75, 24, 113, 3, 0, [])
  | 24 => (.ifCond .eq 13, 27, 37, 0, 0, [])
  | 27 => (.iload 4, 29, 4, 0, 0, [])
  | 29 => (.iconst 0, 30, 0, 0, 0, [])
  | 30 => (.iconst 1, 31, 0, 0, 1, [])
  | 31 => (.invokestatic 75, 34, 113, 3, 0, [])
  | 34 => (.ifCond .ne 6, 37, 40, 0, 0, [])
  | 37 => (.ldc 79, 39, 0, 0, (-1000001), [])
  | 39 => (.ireturn, 40, 0, 0, 0, [])
  | 40 => (.aload_n 0, 41, 0, 0, 0, [])
  | 41 => (.iload_n 1, 42, 1, 0, 0, [])
  | 42 => (.iload_n 2, 43, 2, 0, 0, [])
  | 43 => (.iload_n 3, 44, 3, 0, 0, [])
  | 44 => (.invokevirtual 91, 47, 107, 4, 0, [6])
  | 47 => (.istore 5, 49, 5, 0, 0, [])
  | 49 => (.iload 5, 51, 5, 0, 0, [])
  | 51 => (.ifCond .eq 10, 54, 61, 0, 0, [])
  | 54 => (.aload_n 0, 55, 0, 0, 0, [])
  | 55 => (.iload 5, 57, 5, 0, 0, [])
  | 57 => (.invokevirtual 80, 60, 105, 2, 0, [6])
  | 60 => (.ireturn, 61, 0, 0, 0, [])
  | 61 => (.aload_n 0, 62, 0, 0, 0, [])
  | 62 => (.aload_n 0, 63, 0, 0, 0, [])
  | 63 => (.getfield 45, 66, 6, 1, 5, [])
  | 66 => (.aload_n 0, 67, 0, 0, 0, [])
  | 67 => (.getfield 11, 70, 6, 1, 0, [])
  | 70 => (.iload_n 1, 71, 1, 0, 0, [])
  | 71 => (.aaload, 72, 0, 0, 0, [])
  | 72 => (.iload_n 2, 73, 2, 0, 0, [])
  | 73 => (.iload_n 3, 74, 3, 0, 0, [])
  | 74 => (.iload 4, 76, 4, 0, 0, [])
  | 76 => (.invokevirtual 253, 79, 20, 5, 0, [2])
  | 79 => (.invokevirtual 88, 82, 106, 2, 0, [6])
  | 82 => (.ireturn, 83, 0, 0, 0, [])
  | _ => (.nop, 1, 0, 0, 0, [])
def kt_X_keeps : Nat → kx_E
  | 0 => (.aload_n 0, 1, 0, 0, 0, [])
  | 1 => (.getfield 30, 4, 6, 1, 3, [])
  | 4 => (.iload_n 1, 5, 1, 0, 0, [])
  | 5 => (.invokevirtual 175, 8, 57, 2, 0, [5])
  | 8 => (.ifCond .eq 21, 11, 29, 0, 0, [])
  | 11 => (.iload_n 2, 12, 2, 0, 0, [])
  | 12 => (.invokestatic 71, 15, 110, 1, 0, [])
  | 15 => (.ifCond .eq 14, 18, 29, 0, 0, [])
  | 18 => (.iload 4, 20, 4, 0, 0, [])
  | 20 => (.iconst 1, 21, 0, 0, 1, [])
  | 21 => (.bipush 16, 23, 0, 0, 16, [])
  | 23 => (.invokestatic 75, 26, 113, 3, 0, [])
  | 26 => (.ifCond .ne 6, 29, 32, 0, 0, [])
  | 29 => (.ldc 79, 31, 0, 0, (-1000001), [])
  | 31 => (.ireturn, 32, 0, 0, 0, [])
  | 32 => (.aload_n 0, 33, 0, 0, 0, [])
  | 33 => (.iload_n 2, 34, 2, 0, 0, [])
  | 34 => (.iload_n 3, 35, 3, 0, 0, [])
  | 35 => (.iload 4, 37, 4, 0, 0, [])
  | 37 => (.invokevirtual 91, 40, 107, 4, 0, [6])
  | 40 => (.istore 5, 42, 5, 0, 0, [])
  | 42 => (.iload 5, 44, 5, 0, 0, [])
  | 44 => (.ifCond .eq 10, 47, 54, 0, 0, [])
  | 47 => (.aload_n 0, 48, 0, 0, 0, [])
  | 48 => (.iload 5, 50, 5, 0, 0, [])
  | 50 => (.invokevirtual 80, 53, 105, 2, 0, [6])
  | 53 => (.ireturn, 54, 0, 0, 0, [])
  | 54 => (.aload_n 0, 55, 0, 0, 0, [])
  | 55 => (.aload_n 0, 56, 0, 0, 0, [])
  | 56 => (.getfield 45, 59, 6, 1, 5, [])
  | 59 => (.iload_n 1, 60, 1, 0, 0, [])
  | 60 => (.aload_n 0, 61, 0, 0, 0, [])
  | 61 => (.getfield 11, 64, 6, 1, 0, [])
  | 64 => (.iload_n 2, 65, 2, 0, 0, [])
  | 65 => (.aaload, 66, 0, 0, 0, [])
  | 66 => (.iload_n 3, 67, 3, 0, 0, [])
  | 67 => (.iload 4, 69, 4, 0, 0, [])
  | 69 => (.invokevirtual 257, 72, 21, 5, 0, [2])
  | 72 => (.invokevirtual 88, 75, 106, 2, 0, [6])
  | 75 => (.ireturn, 76, 0, 0, 0, [])
  | _ => (.nop, 1, 0, 0, 0, [])
def kt_X_image : Nat → kx_E
  | 0 => (.iload_n 1, 1, 1, 0, 0, [])
  | 1 => (.invokestatic 261, 4, 111, 1, 0, [])
  | 4 => (.ifCond .ne 6, 7, 10, 0, 0, [])
  | 7 => (.ldc 79, 9, 0, 0, (-1000001), [])
  | 9 => (.ireturn, 10, 0, 0, 0, [])
  | 10 => (.aload_n 0, 11, 0, 0, 0, [])
  | 11 => (.invokevirtual 152, 14, 109, 1, 0, [6])
  | 14 => (.ifCond .eq 6, 17, 20, 0, 0, [])
  | 17 => (.ldc 155, 19, 0, 0, (-1000002), [])
  | 19 => (.ireturn, 20, 0, 0, 0, [])
  | 20 => (.aload_n 0, 21, 0, 0, 0, [])
  | 21 => (.getfield 56, 24, 6, 1, 7, [])
  | 24 => (.iload_n 1, 25, 1, 0, 0, [])
  | 25 => (.aaload, 26, 0, 0, 0, [])
  | 26 => (.aload_n 0, 27, 0, 0, 0, [])
  | 27 => (.getfield 30, 30, 6, 1, 3, [])
  | 30 => (.invokevirtual 143, 33, 54, 2, 0, [5])
  | 33 => (.aload_n 0, 34, 0, 0, 0, [])
  | 34 => (.getfield 60, 37, 6, 1, 8, [])
  | 37 => (.iload_n 1, 38, 1, 0, 0, [])
  | 38 => (.iconst 1, 39, 0, 0, 1, [])
  | 39 => (.bastore, 40, 0, 0, 0, [])
  | 40 => (.iconst 1, 41, 0, 0, 1, [])
  | 41 => (.ireturn, 42, 0, 0, 0, [])
  | _ => (.nop, 1, 0, 0, 0, [])
def kt_X_restore : Nat → kx_E
  | 0 => (.iload_n 1, 1, 1, 0, 0, [])
  | 1 => (.invokestatic 261, 4, 111, 1, 0, [])
  | 4 => (.ifCond .ne 6, 7, 10, 0, 0, [])
  | 7 => (.ldc 79, 9, 0, 0, (-1000001), [])
  | 9 => (.ireturn, 10, 0, 0, 0, [])
  | 10 => (.aload_n 0, 11, 0, 0, 0, [])
  | 11 => (.getfield 60, 14, 6, 1, 8, [])
  | 14 => (.iload_n 1, 15, 1, 0, 0, [])
  | 15 => (.baload, 16, 0, 0, 0, [])
  | 16 => (.ifCond .ne 6, 19, 22, 0, 0, [])
  | 19 => (.ldc 155, 21, 0, 0, (-1000002), [])
  | 21 => (.ireturn, 22, 0, 0, 0, [])
  | 22 => (.aload_n 0, 23, 0, 0, 0, [])
  | 23 => (.getfield 30, 26, 6, 1, 3, [])
  | 26 => (.aload_n 0, 27, 0, 0, 0, [])
  | 27 => (.getfield 56, 30, 6, 1, 7, [])
  | 30 => (.iload_n 1, 31, 1, 0, 0, [])
  | 31 => (.aaload, 32, 0, 0, 0, [])
  | 32 => (.invokevirtual 143, 35, 54, 2, 0, [5])
  | 35 => (.aload_n 0, 36, 0, 0, 0, [])
  | 36 => (.getfield 36, 39, 6, 1, 4, [])
  | 39 => (.invokevirtual 146, 42, 1, 1, 0, [0])
  | 42 => (.iconst 1, 43, 0, 0, 1, [])
  | 43 => (.ireturn, 44, 0, 0, 0, [])
  | _ => (.nop, 1, 0, 0, 0, [])
def kt_X_kind : Nat → kx_E
  | 0 => (.aload_n 0, 1, 0, 0, 0, [])
  | 1 => (.getfield 30, 4, 6, 1, 3, [])
  | 4 => (.iload_n 1, 5, 1, 0, 0, [])
  | 5 => (.invokevirtual 175, 8, 57, 2, 0, [5])
  | 8 => (.ifCond .eq 15, 11, 23, 0, 0, [])
  | 11 => (.aload_n 0, 12, 0, 0, 0, [])
  | 12 => (.getfield 30, 15, 6, 1, 3, [])
  | 15 => (.getfield 264, 18, 5, 1, 0, [])
  | 18 => (.iload_n 1, 19, 1, 0, 0, [])
  | 19 => (.iaload, 20, 0, 0, 0, [])
  | 20 => (.goto 5, 23, 25, 0, 0, [])
  | 23 => (.ldc 79, 25, 0, 0, (-1000001), [])
  | 25 => (.ireturn, 26, 0, 0, 0, [])
  | _ => (.nop, 1, 0, 0, 0, [])
def kt_X_as : Nat → kx_E
  | 0 => (.aload_n 0, 1, 0, 0, 0, [])
  | 1 => (.getfield 30, 4, 6, 1, 3, [])
  | 4 => (.iload_n 1, 5, 1, 0, 0, [])
  | 5 => (.invokevirtual 175, 8, 57, 2, 0, [5])
  | 8 => (.ifCond .eq 12, 11, 20, 0, 0, [])
  | 11 => (.iload_n 2, 12, 2, 0, 0, [])
  | 12 => (.iconst 0, 13, 0, 0, 0, [])
  | 13 => (.iconst 5, 14, 0, 0, 5, [])
  | 14 => (.invokestatic 75, 17, 113, 3, 0, [])
  | 17 => (.ifCond .ne 6, 20, 23, 0, 0, [])
  | 20 => (.ldc 79, 22, 0, 0, (-1000001), [])
  | 22 => (.ireturn, 23, 0, 0, 0, [])
  | 23 => (.aload_n 0, 24, 0, 0, 0, [])
  | 24 => (.getfield 30, 27, 6, 1, 3, [])
  | 27 => (.getfield 264, 30, 5, 1, 0, [])
  | 30 => (.iload_n 1, 31, 1, 0, 0, [])
  | 31 => (.iaload, 32, 0, 0, 0, [])
  | 32 => (.iload_n 2, 33, 2, 0, 0, [])
  | 33 => (.invokestatic 269, 36, 28, 2, 0, [])
  | 36 => (.ifCond .ne 9, 39, 45, 0, 0, [])
  | 39 => (.aload_n 0, 40, 0, 0, 0, [])
  | 40 => (.iconst 3, 41, 0, 0, 3, [])
  | 41 => (.invokevirtual 80, 44, 105, 2, 0, [6])
  | 44 => (.ireturn, 45, 0, 0, 0, [])
  | 45 => (.aload_n 0, 46, 0, 0, 0, [])
  | 46 => (.iload_n 1, 47, 1, 0, 0, [])
  | 47 => (.invokevirtual 88, 50, 106, 2, 0, [6])
  | 50 => (.ireturn, 51, 0, 0, 0, [])
  | _ => (.nop, 1, 0, 0, 0, [])
def kt_X_ask : Nat → kx_E
  | 0 => (.aload_n 0, 1, 0, 0, 0, [])
  | 1 => (.getfield 30, 4, 6, 1, 3, [])
  | 4 => (.iload_n 1, 5, 1, 0, 0, [])
  | 5 => (.invokevirtual 175, 8, 57, 2, 0, [5])
  | 8 => (.ifCond .eq 12, 11, 20, 0, 0, [])
  | 11 => (.iload_n 2, 12, 2, 0, 0, [])
  | 12 => (.iconst 0, 13, 0, 0, 0, [])
  | 13 => (.iconst 1, 14, 0, 0, 1, [])
  | 14 => (.invokestatic 75, 17, 113, 3, 0, [])
  | 17 => (.ifCond .ne 6, 20, 23, 0, 0, [])
  | 20 => (.ldc 79, 22, 0, 0, (-1000001), [])
  | 22 => (.ireturn, 23, 0, 0, 0, [])
  | 23 => (.aload_n 0, 24, 0, 0, 0, [])
  | 24 => (.getfield 52, 27, 6, 1, 6, [])
  | 27 => (.aload_n 0, 28, 0, 0, 0, [])
  | 28 => (.getfield 30, 31, 6, 1, 3, [])
  | 31 => (.iload_n 1, 32, 1, 0, 0, [])
  | 32 => (.iload_n 2, 33, 2, 0, 0, [])
  | 33 => (.invokevirtual 272, 36, 6, 4, 0, [1])
  | 36 => (.ireturn, 37, 0, 0, 0, [])
  | _ => (.nop, 1, 0, 0, 0, [])
def kt_X_trace : Nat → kx_E
  | 0 => (.aload_n 0, 1, 0, 0, 0, [])
  | 1 => (.getfield 52, 4, 6, 1, 6, [])
  | 4 => (.iload_n 1, 5, 1, 0, 0, [])
  | 5 => (.invokevirtual 276, 8, 5, 2, 0, [1])
  | 8 => (.ireturn, 9, 0, 0, 0, [])
  | _ => (.nop, 1, 0, 0, 0, [])
def kt_X_count : Nat → kx_E
  | 0 => (.iload_n 1, 1, 1, 0, 0, [])
  | 1 => (.tableswitch 110 0 7 #[47, 52, 60, 68, 77, 86, 94, 102], 48, 111, 0, 0, [48, 53, 61, 69, 78, 87, 95, 103])
  | 48 => (.aload_n 0, 49, 0, 0, 0, [])
  | 49 => (.invokevirtual 279, 52, 108, 1, 0, [6])
  | 52 => (.ireturn, 53, 0, 0, 0, [])
  | 53 => (.aload_n 0, 54, 0, 0, 0, [])
  | 54 => (.getfield 30, 57, 6, 1, 3, [])
  | 57 => (.getfield 149, 60, 5, 0, 8, [])
  | 60 => (.ireturn, 61, 0, 0, 0, [])
  | 61 => (.aload_n 0, 62, 0, 0, 0, [])
  | 62 => (.getfield 30, 65, 6, 1, 3, [])
  | 65 => (.getfield 182, 68, 5, 0, 9, [])
  | 68 => (.ireturn, 69, 0, 0, 0, [])
  | 69 => (.aload_n 0, 70, 0, 0, 0, [])
  | 70 => (.getfield 30, 73, 6, 1, 3, [])
  | 73 => (.iconst 0, 74, 0, 0, 0, [])
  | 74 => (.invokevirtual 282, 77, 59, 2, 0, [5])
  | 77 => (.ireturn, 78, 0, 0, 0, [])
  | 78 => (.aload_n 0, 79, 0, 0, 0, [])
  | 79 => (.getfield 30, 82, 6, 1, 3, [])
  | 82 => (.iconst 1, 83, 0, 0, 1, [])
  | 83 => (.invokevirtual 282, 86, 59, 2, 0, [5])
  | 86 => (.ireturn, 87, 0, 0, 0, [])
  | 87 => (.aload_n 0, 88, 0, 0, 0, [])
  | 88 => (.getfield 30, 91, 6, 1, 3, [])
  | 91 => (.getfield 156, 94, 5, 0, 13, [])
  | 94 => (.ireturn, 95, 0, 0, 0, [])
  | 95 => (.aload_n 0, 96, 0, 0, 0, [])
  | 96 => (.getfield 36, 99, 6, 1, 4, [])
  | 99 => (.getfield 197, 102, 0, 0, 5, [])
  | 102 => (.ireturn, 103, 0, 0, 0, [])
  | 103 => (.aload_n 0, 104, 0, 0, 0, [])
  | 104 => (.getfield 19, 107, 6, 1, 1, [])
  | 107 => (.getfield 285, 110, 4, 0, 1, [])
  | 110 => (.ireturn, 111, 0, 0, 0, [])
  | 111 => (.ldc 79, 113, 0, 0, (-1000001), [])
  | 113 => (.ireturn, 114, 0, 0, 0, [])
  | _ => (.nop, 1, 0, 0, 0, [])
def kt_X_status : Nat → kx_E
  | 0 => (.aload_n 0, 1, 0, 0, 0, [])
  | 1 => (.getfield 68, 4, 6, 0, 10, [])
  | 4 => (.ireturn, 5, 0, 0, 0, [])
  | _ => (.nop, 1, 0, 0, 0, [])
def kt_X_finding : Nat → kx_E
  | 0 => (.aload_n 0, 1, 0, 0, 0, [])
  | 1 => (.iload_n 1, 2, 1, 0, 0, [])
  | 2 => (.putfield 68, 5, 6, 0, 10, [])
  | 5 => (.ldc_w 288, 8, 0, 0, (-1000010), [])
  | 8 => (.iload_n 1, 9, 1, 0, 0, [])
  | 9 => (.isub, 10, 0, 0, 0, [])
  | 10 => (.ireturn, 11, 0, 0, 0, [])
  | _ => (.nop, 1, 0, 0, 0, [])
def kt_X_noFinding : Nat → kx_E
  | 0 => (.aload_n 0, 1, 0, 0, 0, [])
  | 1 => (.iconst 0, 2, 0, 0, 0, [])
  | 2 => (.putfield 68, 5, 6, 0, 10, [])
  | 5 => (.iload_n 1, 6, 1, 0, 0, [])
  | 6 => (.ireturn, 7, 0, 0, 0, [])
  | _ => (.nop, 1, 0, 0, 0, [])
def kt_X_findingOf : Nat → kx_E
  | 0 => (.aload_n 0, 1, 0, 0, 0, [])
  | 1 => (.getfield 11, 4, 6, 1, 0, [])
  | 4 => (.iload_n 1, 5, 1, 0, 0, [])
  | 5 => (.aaload, 6, 0, 0, 0, [])
  | 6 => (.invokevirtual 99, 9, 31, 1, 0, [3])
  | 9 => (.ifCond .eq 5, 12, 14, 0, 0, [])
  | 12 => (.iconst 1, 13, 0, 0, 1, [])
  | 13 => (.ireturn, 14, 0, 0, 0, [])
  | 14 => (.aload_n 0, 15, 0, 0, 0, [])
  | 15 => (.getfield 11, 18, 6, 1, 0, [])
  | 18 => (.iload_n 1, 19, 1, 0, 0, [])
  | 19 => (.aaload, 20, 0, 0, 0, [])
  | 20 => (.iload_n 2, 21, 2, 0, 0, [])
  | 21 => (.iload_n 3, 22, 3, 0, 0, [])
  | 22 => (.invokevirtual 106, 25, 34, 3, 0, [3])
  | 25 => (.ifCond .eq 7, 28, 32, 0, 0, [])
  | 28 => (.iconst 0, 29, 0, 0, 0, [])
  | 29 => (.goto 4, 32, 33, 0, 0, [])
  | 32 => (.iconst 2, 33, 0, 0, 2, [])
  | 33 => (.ireturn, 34, 0, 0, 0, [])
  | _ => (.nop, 1, 0, 0, 0, [])
def kt_X_rowsThere : Nat → kx_E
  | 0 => (.iconst 0, 1, 0, 0, 0, [])
  | 1 => (.istore_n 1, 2, 1, 0, 0, [])
  | 2 => (.iconst 0, 3, 0, 0, 0, [])
  | 3 => (.istore_n 2, 4, 2, 0, 0, [])
  | 4 => (.iload_n 2, 5, 2, 0, 0, [])
  | 5 => (.bipush 8, 7, 0, 0, 8, [])
  | 7 => (.if_icmp .ge 24, 10, 31, 0, 0, [])
  | 10 => (.aload_n 0, 11, 0, 0, 0, [])
  | 11 => (.getfield 11, 14, 6, 1, 0, [])
  | 14 => (.iload_n 2, 15, 2, 0, 0, [])
  | 15 => (.aaload, 16, 0, 0, 0, [])
  | 16 => (.invokevirtual 99, 19, 31, 1, 0, [3])
  | 19 => (.ifCond .ne 6, 22, 25, 0, 0, [])
  | 22 => (.iinc 1 1, 25, 1, 0, 1, [])
  | 25 => (.iinc 2 1, 28, 2, 0, 1, [])
  | 28 => (.goto (-24), 31, 4, 0, 0, [])
  | 31 => (.iload_n 1, 32, 1, 0, 0, [])
  | 32 => (.ireturn, 33, 0, 0, 0, [])
  | _ => (.nop, 1, 0, 0, 0, [])
def kt_X_isNoTown : Nat → kx_E
  | 0 => (.aload_n 0, 1, 0, 0, 0, [])
  | 1 => (.getfield 30, 4, 6, 1, 3, [])
  | 4 => (.getfield 149, 7, 5, 0, 8, [])
  | 7 => (.ifCond .ne 7, 10, 14, 0, 0, [])
  | 10 => (.iconst 1, 11, 0, 0, 1, [])
  | 11 => (.goto 4, 14, 15, 0, 0, [])
  | 14 => (.iconst 0, 15, 0, 0, 0, [])
  | 15 => (.ireturn, 16, 1, 0, 0, [])
  | _ => (.nop, 1, 0, 0, 0, [])
def kt_X_isRow : Nat → kx_E
  | 0 => (.iload_n 0, 1, 0, 0, 0, [])
  | 1 => (.iconst 0, 2, 0, 0, 0, [])
  | 2 => (.bipush 7, 4, 0, 0, 7, [])
  | 4 => (.invokestatic 75, 7, 113, 3, 0, [])
  | 7 => (.ireturn, 8, 1, 0, 0, [])
  | _ => (.nop, 1, 0, 0, 0, [])
def kt_X_isImage : Nat → kx_E
  | 0 => (.iload_n 0, 1, 0, 0, 0, [])
  | 1 => (.iconst 0, 2, 0, 0, 0, [])
  | 2 => (.iconst 1, 3, 0, 0, 1, [])
  | 3 => (.invokestatic 75, 6, 113, 3, 0, [])
  | 6 => (.ireturn, 7, 1, 0, 0, [])
  | _ => (.nop, 1, 0, 0, 0, [])
def kt_X_isSpan : Nat → kx_E
  | 0 => (.iload_n 0, 1, 0, 0, 0, [])
  | 1 => (.iconst 0, 2, 0, 0, 0, [])
  | 2 => (.bipush 60, 4, 0, 0, 60, [])
  | 4 => (.invokestatic 75, 7, 113, 3, 0, [])
  | 7 => (.ireturn, 8, 1, 0, 0, [])
  | _ => (.nop, 1, 0, 0, 0, [])
def kt_X_isBetween : Nat → kx_E
  | 0 => (.iload_n 1, 1, 1, 0, 0, [])
  | 1 => (.iload_n 0, 2, 0, 0, 0, [])
  | 2 => (.if_icmp .gt 12, 5, 14, 0, 0, [])
  | 5 => (.iload_n 0, 6, 0, 0, 0, [])
  | 6 => (.iload_n 2, 7, 2, 0, 0, [])
  | 7 => (.if_icmp .gt 7, 10, 14, 0, 0, [])
  | 10 => (.iconst 1, 11, 0, 0, 1, [])
  | 11 => (.goto 4, 14, 15, 0, 0, [])
  | 14 => (.iconst 0, 15, 0, 0, 0, [])
  | 15 => (.ireturn, 16, 1, 0, 0, [])
  | _ => (.nop, 1, 0, 0, 0, [])
def kt_X_inLowestTerms : Nat → kx_E
  | 0 => (.iload_n 2, 1, 2, 0, 0, [])
  | 1 => (.istore_n 3, 2, 3, 0, 0, [])
  | 2 => (.iload_n 3, 3, 3, 0, 0, [])
  | 3 => (.iconst 1, 4, 0, 0, 1, [])
  | 4 => (.if_icmp .le 25, 7, 29, 0, 0, [])
  | 7 => (.iload_n 1, 8, 1, 0, 0, [])
  | 8 => (.iload_n 3, 9, 3, 0, 0, [])
  | 9 => (.irem, 10, 0, 0, 0, [])
  | 10 => (.ifCond .ne 13, 13, 23, 0, 0, [])
  | 13 => (.iload_n 2, 14, 2, 0, 0, [])
  | 14 => (.iload_n 3, 15, 3, 0, 0, [])
  | 15 => (.irem, 16, 0, 0, 0, [])
  | 16 => (.ifCond .ne 7, 19, 23, 0, 0, [])
  | 19 => (.iload_n 0, 20, 0, 0, 0, [])
  | 20 => (.iload_n 3, 21, 3, 0, 0, [])
  | 21 => (.idiv, 22, 0, 0, 0, [])
  | 22 => (.ireturn, 23, 0, 0, 0, [])
  | 23 => (.iinc 3 (-1), 26, 3, 0, (-1), [])
  | 26 => (.goto (-24), 29, 2, 0, 0, [])
  | 29 => (.iload_n 0, 30, 0, 0, 0, [])
  | 30 => (.ireturn, 31, 0, 0, 0, [])
  | _ => (.nop, 1, 0, 0, 0, [])
end
section
def kt_M_init : Nat → kx_E
  | 0 => (.aload_n 0, 1, 0, 0, 0, [])
  | 1 => (.invokespecial 1, 4, 0, 0, 1, [])
  | 4 => (.aload_n 0, 5, 0, 0, 0, [])
  | 5 => (.bipush 8, 7, 0, 0, 8, [])
  | 7 => (.newarray .int, 9, 2, 0, 0, [])
  | 9 => (.putfield 7, 12, 7, 1, 0, [])
  | 12 => (.aload_n 0, 13, 0, 0, 0, [])
  | 13 => (.bipush 8, 15, 0, 0, 8, [])
  | 15 => (.newarray .int, 17, 2, 0, 0, [])
  | 17 => (.putfield 13, 20, 7, 1, 1, [])
  | 20 => (.aload_n 0, 21, 0, 0, 0, [])
  | 21 => (.sipush 320, 24, 0, 0, 320, [])
  | 24 => (.newarray .int, 26, 2, 0, 0, [])
  | 26 => (.putfield 16, 29, 7, 1, 2, [])
  | 29 => (.aload_n 0, 30, 0, 0, 0, [])
  | 30 => (.bipush 46, 32, 0, 0, 46, [])
  | 32 => (.newarray .int, 34, 2, 0, 0, [])
  | 34 => (.putfield 19, 37, 7, 1, 5, [])
  | 37 => (.aload_n 0, 38, 0, 0, 0, [])
  | 38 => (.bipush 40, 40, 0, 0, 40, [])
  | 40 => (.newarray .int, 42, 2, 0, 0, [])
  | 42 => (.putfield 22, 45, 7, 1, 6, [])
  | 45 => (.aload_n 0, 46, 0, 0, 0, [])
  | 46 => (.bipush 120, 48, 0, 0, 120, [])
  | 48 => (.newarray .int, 50, 2, 0, 0, [])
  | 50 => (.putfield 25, 53, 7, 1, 7, [])
  | 53 => (.aload_n 0, 54, 0, 0, 0, [])
  | 54 => (.bipush 46, 56, 0, 0, 46, [])
  | 56 => (.newarray .int, 58, 2, 0, 0, [])
  | 58 => (.putfield 28, 61, 7, 1, 15, [])
  | 61 => (.aload_n 0, 62, 0, 0, 0, [])
  | 62 => (.sipush 1104, 65, 0, 0, 1104, [])
  | 65 => (.newarray .int, 67, 2, 0, 0, [])
  | 67 => (.putfield 31, 70, 7, 1, 16, [])
  | 70 => (.aload_n 0, 71, 0, 0, 0, [])
  | 71 => (.bipush 46, 73, 0, 0, 46, [])
  | 73 => (.newarray .int, 75, 2, 0, 0, [])
  | 75 => (.putfield 34, 78, 7, 1, 18, [])
  | 78 => (.aload_n 0, 79, 0, 0, 0, [])
  | 79 => (.sipush 366, 82, 0, 0, 366, [])
  | 82 => (.newarray .int, 84, 2, 0, 0, [])
  | 84 => (.putfield 37, 87, 7, 1, 19, [])
  | 87 => (.aload_n 0, 88, 0, 0, 0, [])
  | 88 => (.iconst 2, 89, 0, 0, 2, [])
  | 89 => (.newarray .boolean, 91, 4, 0, 0, [])
  | 91 => (.putfield 40, 94, 7, 1, 20, [])
  | 94 => (.aload_n 0, 95, 0, 0, 0, [])
  | 95 => (.bipush 92, 97, 0, 0, 92, [])
  | 97 => (.newarray .int, 99, 2, 0, 0, [])
  | 99 => (.putfield 44, 102, 7, 1, 21, [])
  | 102 => (.aload_n 0, 103, 0, 0, 0, [])
  | 103 => (.bipush 16, 105, 0, 0, 16, [])
  | 105 => (.newarray .int, 107, 2, 0, 0, [])
  | 107 => (.putfield 47, 110, 7, 1, 22, [])
  | 110 => (.iconst 0, 111, 0, 0, 0, [])
  | 111 => (.istore_n 1, 112, 1, 0, 0, [])
  | 112 => (.iload_n 1, 113, 1, 0, 0, [])
  | 113 => (.bipush 8, 115, 0, 0, 8, [])
  | 115 => (.if_icmp .ge 16, 118, 131, 0, 0, [])
  | 118 => (.aload_n 0, 119, 0, 0, 0, [])
  | 119 => (.getfield 13, 122, 7, 1, 1, [])
  | 122 => (.iload_n 1, 123, 1, 0, 0, [])
  | 123 => (.iconst (-1), 124, 0, 0, (-1), [])
  | 124 => (.iastore, 125, 0, 0, 0, [])
  | 125 => (.iinc 1 1, 128, 1, 0, 1, [])
  | 128 => (.goto (-16), 131, 112, 0, 0, [])
  | 131 => (.return_, 132, 0, 0, 0, [])
  | _ => (.nop, 1, 0, 0, 0, [])
def kt_M_in : Nat → kx_E
  | 0 => (.lload_n 0, 1, 0, 0, 0, [])
  | 1 => (.lload_n 2, 2, 2, 0, 0, [])
  | 2 => (.lcmp, 3, 0, 0, 0, [])
  | 3 => (.ifCond .lt 14, 6, 17, 0, 0, [])
  | 6 => (.lload_n 0, 7, 0, 0, 0, [])
  | 7 => (.lload 4, 9, 4, 0, 0, [])
  | 9 => (.lcmp, 10, 0, 0, 0, [])
  | 10 => (.ifCond .gt 7, 13, 17, 0, 0, [])
  | 13 => (.iconst 1, 14, 0, 0, 1, [])
  | 14 => (.goto 4, 17, 18, 0, 0, [])
  | 17 => (.iconst 0, 18, 0, 0, 0, [])
  | 18 => (.ireturn, 19, 1, 0, 0, [])
  | _ => (.nop, 1, 0, 0, 0, [])
def kt_M_has : Nat → kx_E
  | 0 => (.iload_n 0, 1, 0, 0, 0, [])
  | 1 => (.iload_n 1, 2, 1, 0, 0, [])
  | 2 => (.ishr, 3, 0, 0, 0, [])
  | 3 => (.iconst 1, 4, 0, 0, 1, [])
  | 4 => (.iand, 5, 0, 0, 0, [])
  | 5 => (.iconst 1, 6, 0, 0, 1, [])
  | 6 => (.if_icmp .ne 7, 9, 13, 0, 0, [])
  | 9 => (.iconst 1, 10, 0, 0, 1, [])
  | 10 => (.goto 4, 13, 14, 0, 0, [])
  | 13 => (.iconst 0, 14, 0, 0, 0, [])
  | 14 => (.ireturn, 15, 1, 0, 0, [])
  | _ => (.nop, 1, 0, 0, 0, [])
def kt_M_find : Nat → kx_E
  | 0 => (.aload_n 0, 1, 0, 0, 0, [])
  | 1 => (.iload_n 1, 2, 1, 0, 0, [])
  | 2 => (.putfield 50, 5, 7, 0, 3, [])
  | 5 => (.ldc 54, 7, 0, 0, (-1000010), [])
  | 7 => (.iload_n 1, 8, 1, 0, 0, [])
  | 8 => (.isub, 9, 0, 0, 0, [])
  | 9 => (.ireturn, 10, 0, 0, 0, [])
  | _ => (.nop, 1, 0, 0, 0, [])
def kt_M_well : Nat → kx_E
  | 0 => (.aload_n 0, 1, 0, 0, 0, [])
  | 1 => (.iconst 0, 2, 0, 0, 0, [])
  | 2 => (.putfield 50, 5, 7, 0, 3, [])
  | 5 => (.iload_n 1, 6, 1, 0, 0, [])
  | 6 => (.ireturn, 7, 0, 0, 0, [])
  | _ => (.nop, 1, 0, 0, 0, [])
def kt_M_isRow : Nat → kx_E
  | 0 => (.iload_n 0, 1, 0, 0, 0, [])
  | 1 => (.i2l, 2, 0, 0, 0, [])
  | 2 => (.lconst 0, 3, 0, 0, 0, [])
  | 3 => (.ldc2_w 55, 6, 0, 0, 7, [])
  | 6 => (.invokestatic 57, 9, 116, 3, 0, [])
  | 9 => (.ireturn, 10, 1, 0, 0, [])
  | _ => (.nop, 1, 0, 0, 0, [])
def kt_M_row : Nat → kx_E
  | 0 => (.iload_n 1, 1, 1, 0, 0, [])
  | 1 => (.invokestatic 61, 4, 120, 1, 0, [])
  | 4 => (.ifCond .eq 21, 7, 25, 0, 0, [])
  | 7 => (.iload_n 2, 8, 2, 0, 0, [])
  | 8 => (.i2l, 9, 0, 0, 0, [])
  | 9 => (.lconst 0, 10, 0, 0, 0, [])
  | 10 => (.ldc2_w 65, 13, 0, 0, 2, [])
  | 13 => (.invokestatic 57, 16, 116, 3, 0, [])
  | 16 => (.ifCond .eq 9, 19, 25, 0, 0, [])
  | 19 => (.iload_n 3, 20, 3, 0, 0, [])
  | 20 => (.bipush 40, 22, 0, 0, 40, [])
  | 22 => (.if_icmp .le 6, 25, 28, 0, 0, [])
  | 25 => (.ldc 67, 27, 0, 0, (-1000001), [])
  | 27 => (.ireturn, 28, 0, 0, 0, [])
  | 28 => (.iload_n 3, 29, 3, 0, 0, [])
  | 29 => (.ifCond .ge 9, 32, 38, 0, 0, [])
  | 32 => (.aload_n 0, 33, 0, 0, 0, [])
  | 33 => (.iconst 4, 34, 0, 0, 4, [])
  | 34 => (.invokevirtual 68, 37, 118, 2, 0, [7])
  | 37 => (.ireturn, 38, 0, 0, 0, [])
  | 38 => (.aload_n 0, 39, 0, 0, 0, [])
  | 39 => (.getfield 7, 42, 7, 1, 0, [])
  | 42 => (.iload_n 1, 43, 1, 0, 0, [])
  | 43 => (.iload_n 2, 44, 2, 0, 0, [])
  | 44 => (.iastore, 45, 0, 0, 0, [])
  | 45 => (.aload_n 0, 46, 0, 0, 0, [])
  | 46 => (.getfield 13, 49, 7, 1, 1, [])
  | 49 => (.iload_n 1, 50, 1, 0, 0, [])
  | 50 => (.iload_n 3, 51, 3, 0, 0, [])
  | 51 => (.iastore, 52, 0, 0, 0, [])
  | 52 => (.iconst 0, 53, 0, 0, 0, [])
  | 53 => (.istore 4, 55, 4, 0, 0, [])
  | 55 => (.iload 4, 57, 4, 0, 0, [])
  | 57 => (.bipush 40, 59, 0, 0, 40, [])
  | 59 => (.if_icmp .ge 22, 62, 81, 0, 0, [])
  | 62 => (.aload_n 0, 63, 0, 0, 0, [])
  | 63 => (.getfield 16, 66, 7, 1, 2, [])
  | 66 => (.bipush 40, 68, 0, 0, 40, [])
  | 68 => (.iload_n 1, 69, 1, 0, 0, [])
  | 69 => (.imul, 70, 0, 0, 0, [])
  | 70 => (.iload 4, 72, 4, 0, 0, [])
  | 72 => (.iadd, 73, 0, 0, 0, [])
  | 73 => (.iconst 0, 74, 0, 0, 0, [])
  | 74 => (.iastore, 75, 0, 0, 0, [])
  | 75 => (.iinc 4 1, 78, 4, 0, 1, [])
  | 78 => (.goto (-23), 81, 55, 0, 0, [])
  | 81 => (.aload_n 0, 82, 0, 0, 0, [])
  | 82 => (.iload_n 3, 83, 3, 0, 0, [])
  | 83 => (.invokevirtual 72, 86, 119, 2, 0, [7])
  | 86 => (.ireturn, 87, 0, 0, 0, [])
  | _ => (.nop, 1, 0, 0, 0, [])
def kt_M_asLane : Nat → kx_E
  | 0 => (.iload_n 0, 1, 0, 0, 0, [])
  | 1 => (.ifCond .ne 13, 4, 14, 0, 0, [])
  | 4 => (.iload_n 1, 5, 1, 0, 0, [])
  | 5 => (.bipush 24, 7, 0, 0, 24, [])
  | 7 => (.ishl, 8, 0, 0, 0, [])
  | 8 => (.bipush 24, 10, 0, 0, 24, [])
  | 10 => (.ishr, 11, 0, 0, 0, [])
  | 11 => (.goto 19, 14, 30, 0, 0, [])
  | 14 => (.iload_n 0, 15, 0, 0, 0, [])
  | 15 => (.iconst 1, 16, 0, 0, 1, [])
  | 16 => (.if_icmp .ne 13, 19, 29, 0, 0, [])
  | 19 => (.iload_n 1, 20, 1, 0, 0, [])
  | 20 => (.bipush 16, 22, 0, 0, 16, [])
  | 22 => (.ishl, 23, 0, 0, 0, [])
  | 23 => (.bipush 16, 25, 0, 0, 16, [])
  | 25 => (.ishr, 26, 0, 0, 0, [])
  | 26 => (.goto 4, 29, 30, 0, 0, [])
  | 29 => (.iload_n 1, 30, 1, 0, 0, [])
  | 30 => (.ireturn, 31, 0, 0, 0, [])
  | _ => (.nop, 1, 0, 0, 0, [])
def kt_M_set : Nat → kx_E
  | 0 => (.iload_n 1, 1, 1, 0, 0, [])
  | 1 => (.invokestatic 61, 4, 120, 1, 0, [])
  | 4 => (.ifCond .ne 6, 7, 10, 0, 0, [])
  | 7 => (.ldc 67, 9, 0, 0, (-1000001), [])
  | 9 => (.ireturn, 10, 0, 0, 0, [])
  | 10 => (.aload_n 0, 11, 0, 0, 0, [])
  | 11 => (.getfield 13, 14, 7, 1, 1, [])
  | 14 => (.iload_n 1, 15, 1, 0, 0, [])
  | 15 => (.iaload, 16, 0, 0, 0, [])
  | 16 => (.ifCond .ge 9, 19, 25, 0, 0, [])
  | 19 => (.aload_n 0, 20, 0, 0, 0, [])
  | 20 => (.iconst 1, 21, 0, 0, 1, [])
  | 21 => (.invokevirtual 68, 24, 118, 2, 0, [7])
  | 24 => (.ireturn, 25, 0, 0, 0, [])
  | 25 => (.iload_n 2, 26, 2, 0, 0, [])
  | 26 => (.i2l, 27, 0, 0, 0, [])
  | 27 => (.lconst 0, 28, 0, 0, 0, [])
  | 28 => (.aload_n 0, 29, 0, 0, 0, [])
  | 29 => (.getfield 13, 32, 7, 1, 1, [])
  | 32 => (.iload_n 1, 33, 1, 0, 0, [])
  | 33 => (.iaload, 34, 0, 0, 0, [])
  | 34 => (.iconst 1, 35, 0, 0, 1, [])
  | 35 => (.isub, 36, 0, 0, 0, [])
  | 36 => (.i2l, 37, 0, 0, 0, [])
  | 37 => (.invokestatic 57, 40, 116, 3, 0, [])
  | 40 => (.ifCond .ne 9, 43, 49, 0, 0, [])
  | 43 => (.aload_n 0, 44, 0, 0, 0, [])
  | 44 => (.iconst 2, 45, 0, 0, 2, [])
  | 45 => (.invokevirtual 68, 48, 118, 2, 0, [7])
  | 48 => (.ireturn, 49, 0, 0, 0, [])
  | 49 => (.aload_n 0, 50, 0, 0, 0, [])
  | 50 => (.getfield 16, 53, 7, 1, 2, [])
  | 53 => (.bipush 40, 55, 0, 0, 40, [])
  | 55 => (.iload_n 1, 56, 1, 0, 0, [])
  | 56 => (.imul, 57, 0, 0, 0, [])
  | 57 => (.iload_n 2, 58, 2, 0, 0, [])
  | 58 => (.iadd, 59, 0, 0, 0, [])
  | 59 => (.aload_n 0, 60, 0, 0, 0, [])
  | 60 => (.getfield 7, 63, 7, 1, 0, [])
  | 63 => (.iload_n 1, 64, 1, 0, 0, [])
  | 64 => (.iaload, 65, 0, 0, 0, [])
  | 65 => (.iload_n 3, 66, 3, 0, 0, [])
  | 66 => (.invokestatic 75, 69, 122, 2, 0, [])
  | 69 => (.iastore, 70, 0, 0, 0, [])
  | 70 => (.aload_n 0, 71, 0, 0, 0, [])
  | 71 => (.aload_n 0, 72, 0, 0, 0, [])
  | 72 => (.getfield 16, 75, 7, 1, 2, [])
  | 75 => (.bipush 40, 77, 0, 0, 40, [])
  | 77 => (.iload_n 1, 78, 1, 0, 0, [])
  | 78 => (.imul, 79, 0, 0, 0, [])
  | 79 => (.iload_n 2, 80, 2, 0, 0, [])
  | 80 => (.iadd, 81, 0, 0, 0, [])
  | 81 => (.iaload, 82, 0, 0, 0, [])
  | 82 => (.invokevirtual 72, 85, 119, 2, 0, [7])
  | 85 => (.ireturn, 86, 0, 0, 0, [])
  | _ => (.nop, 1, 0, 0, 0, [])
def kt_M_copy : Nat → kx_E
  | 0 => (.iload_n 1, 1, 1, 0, 0, [])
  | 1 => (.invokestatic 61, 4, 120, 1, 0, [])
  | 4 => (.ifCond .eq 10, 7, 14, 0, 0, [])
  | 7 => (.iload_n 3, 8, 3, 0, 0, [])
  | 8 => (.invokestatic 61, 11, 120, 1, 0, [])
  | 11 => (.ifCond .ne 6, 14, 17, 0, 0, [])
  | 14 => (.ldc 67, 16, 0, 0, (-1000001), [])
  | 16 => (.ireturn, 17, 0, 0, 0, [])
  | 17 => (.aload_n 0, 18, 0, 0, 0, [])
  | 18 => (.getfield 13, 21, 7, 1, 1, [])
  | 21 => (.iload_n 1, 22, 1, 0, 0, [])
  | 22 => (.iaload, 23, 0, 0, 0, [])
  | 23 => (.ifCond .lt 12, 26, 35, 0, 0, [])
  | 26 => (.aload_n 0, 27, 0, 0, 0, [])
  | 27 => (.getfield 13, 30, 7, 1, 1, [])
  | 30 => (.iload_n 3, 31, 3, 0, 0, [])
  | 31 => (.iaload, 32, 0, 0, 0, [])
  | 32 => (.ifCond .ge 9, 35, 41, 0, 0, [])
  | 35 => (.aload_n 0, 36, 0, 0, 0, [])
  | 36 => (.iconst 1, 37, 0, 0, 1, [])
  | 37 => (.invokevirtual 68, 40, 118, 2, 0, [7])
  | 40 => (.ireturn, 41, 0, 0, 0, [])
  | 41 => (.aload_n 0, 42, 0, 0, 0, [])
  | 42 => (.getfield 7, 45, 7, 1, 0, [])
  | 45 => (.iload_n 1, 46, 1, 0, 0, [])
  | 46 => (.iaload, 47, 0, 0, 0, [])
  | 47 => (.aload_n 0, 48, 0, 0, 0, [])
  | 48 => (.getfield 7, 51, 7, 1, 0, [])
  | 51 => (.iload_n 3, 52, 3, 0, 0, [])
  | 52 => (.iaload, 53, 0, 0, 0, [])
  | 53 => (.if_icmp .eq 9, 56, 62, 0, 0, [])
  | 56 => (.aload_n 0, 57, 0, 0, 0, [])
  | 57 => (.iconst 5, 58, 0, 0, 5, [])
  | 58 => (.invokevirtual 68, 61, 118, 2, 0, [7])
  | 61 => (.ireturn, 62, 0, 0, 0, [])
  | 62 => (.iload 5, 64, 5, 0, 0, [])
  | 64 => (.ifCond .lt 44, 67, 108, 0, 0, [])
  | 67 => (.iload_n 2, 68, 2, 0, 0, [])
  | 68 => (.i2l, 69, 0, 0, 0, [])
  | 69 => (.lconst 0, 70, 0, 0, 0, [])
  | 70 => (.aload_n 0, 71, 0, 0, 0, [])
  | 71 => (.getfield 13, 74, 7, 1, 1, [])
  | 74 => (.iload_n 1, 75, 1, 0, 0, [])
  | 75 => (.iaload, 76, 0, 0, 0, [])
  | 76 => (.i2l, 77, 0, 0, 0, [])
  | 77 => (.iload 5, 79, 5, 0, 0, [])
  | 79 => (.i2l, 80, 0, 0, 0, [])
  | 80 => (.lsub, 81, 0, 0, 0, [])
  | 81 => (.invokestatic 57, 84, 116, 3, 0, [])
  | 84 => (.ifCond .eq 24, 87, 108, 0, 0, [])
  | 87 => (.iload 4, 89, 4, 0, 0, [])
  | 89 => (.i2l, 90, 0, 0, 0, [])
  | 90 => (.lconst 0, 91, 0, 0, 0, [])
  | 91 => (.aload_n 0, 92, 0, 0, 0, [])
  | 92 => (.getfield 13, 95, 7, 1, 1, [])
  | 95 => (.iload_n 3, 96, 3, 0, 0, [])
  | 96 => (.iaload, 97, 0, 0, 0, [])
  | 97 => (.i2l, 98, 0, 0, 0, [])
  | 98 => (.iload 5, 100, 5, 0, 0, [])
  | 100 => (.i2l, 101, 0, 0, 0, [])
  | 101 => (.lsub, 102, 0, 0, 0, [])
  | 102 => (.invokestatic 57, 105, 116, 3, 0, [])
  | 105 => (.ifCond .ne 9, 108, 114, 0, 0, [])
  | 108 => (.aload_n 0, 109, 0, 0, 0, [])
  | 109 => (.iconst 2, 110, 0, 0, 2, [])
  | 110 => (.invokevirtual 68, 113, 118, 2, 0, [7])
  | 113 => (.ireturn, 114, 0, 0, 0, [])
  | 114 => (.iconst 0, 115, 0, 0, 0, [])
  | 115 => (.istore 6, 117, 6, 0, 0, [])
  | 117 => (.iload 6, 119, 6, 0, 0, [])
  | 119 => (.iload 5, 121, 5, 0, 0, [])
  | 121 => (.if_icmp .ge 30, 124, 151, 0, 0, [])
  | 124 => (.aload_n 0, 125, 0, 0, 0, [])
  | 125 => (.getfield 22, 128, 7, 1, 6, [])
  | 128 => (.iload 6, 130, 6, 0, 0, [])
  | 130 => (.aload_n 0, 131, 0, 0, 0, [])
  | 131 => (.getfield 16, 134, 7, 1, 2, [])
  | 134 => (.bipush 40, 136, 0, 0, 40, [])
  | 136 => (.iload_n 1, 137, 1, 0, 0, [])
  | 137 => (.imul, 138, 0, 0, 0, [])
  | 138 => (.iload_n 2, 139, 2, 0, 0, [])
  | 139 => (.iadd, 140, 0, 0, 0, [])
  | 140 => (.iload 6, 142, 6, 0, 0, [])
  | 142 => (.iadd, 143, 0, 0, 0, [])
  | 143 => (.iaload, 144, 0, 0, 0, [])
  | 144 => (.iastore, 145, 0, 0, 0, [])
  | 145 => (.iinc 6 1, 148, 6, 0, 1, [])
  | 148 => (.goto (-31), 151, 117, 0, 0, [])
  | 151 => (.iconst 0, 152, 0, 0, 0, [])
  | 152 => (.istore 6, 154, 6, 0, 0, [])
  | 154 => (.iload 6, 156, 6, 0, 0, [])
  | 156 => (.iload 5, 158, 5, 0, 0, [])
  | 158 => (.if_icmp .ge 31, 161, 189, 0, 0, [])
  | 161 => (.aload_n 0, 162, 0, 0, 0, [])
  | 162 => (.getfield 16, 165, 7, 1, 2, [])
  | 165 => (.bipush 40, 167, 0, 0, 40, [])
  | 167 => (.iload_n 3, 168, 3, 0, 0, [])
  | 168 => (.imul, 169, 0, 0, 0, [])
  | 169 => (.iload 4, 171, 4, 0, 0, [])
  | 171 => (.iadd, 172, 0, 0, 0, [])
  | 172 => (.iload 6, 174, 6, 0, 0, [])
  | 174 => (.iadd, 175, 0, 0, 0, [])
  | 175 => (.aload_n 0, 176, 0, 0, 0, [])
  | 176 => (.getfield 22, 179, 7, 1, 6, [])
  | 179 => (.iload 6, 181, 6, 0, 0, [])
  | 181 => (.iaload, 182, 0, 0, 0, [])
  | 182 => (.iastore, 183, 0, 0, 0, [])
  | 183 => (.iinc 6 1, 186, 6, 0, 1, [])
  | 186 => (.goto (-32), 189, 154, 0, 0, [])
  | 189 => (.aload_n 0, 190, 0, 0, 0, [])
  | 190 => (.iload 5, 192, 5, 0, 0, [])
  | 192 => (.invokevirtual 72, 195, 119, 2, 0, [7])
  | 195 => (.ireturn, 196, 0, 0, 0, [])
  | _ => (.nop, 1, 0, 0, 0, [])
def kt_M_drop : Nat → kx_E
  | 0 => (.iload_n 1, 1, 1, 0, 0, [])
  | 1 => (.invokestatic 61, 4, 120, 1, 0, [])
  | 4 => (.ifCond .ne 6, 7, 10, 0, 0, [])
  | 7 => (.ldc 67, 9, 0, 0, (-1000001), [])
  | 9 => (.ireturn, 10, 0, 0, 0, [])
  | 10 => (.aload_n 0, 11, 0, 0, 0, [])
  | 11 => (.getfield 13, 14, 7, 1, 1, [])
  | 14 => (.iload_n 1, 15, 1, 0, 0, [])
  | 15 => (.iaload, 16, 0, 0, 0, [])
  | 16 => (.ifCond .ge 9, 19, 25, 0, 0, [])
  | 19 => (.aload_n 0, 20, 0, 0, 0, [])
  | 20 => (.iconst 1, 21, 0, 0, 1, [])
  | 21 => (.invokevirtual 68, 24, 118, 2, 0, [7])
  | 24 => (.ireturn, 25, 0, 0, 0, [])
  | 25 => (.aload_n 0, 26, 0, 0, 0, [])
  | 26 => (.getfield 13, 29, 7, 1, 1, [])
  | 29 => (.iload_n 1, 30, 1, 0, 0, [])
  | 30 => (.iaload, 31, 0, 0, 0, [])
  | 31 => (.istore_n 2, 32, 2, 0, 0, [])
  | 32 => (.aload_n 0, 33, 0, 0, 0, [])
  | 33 => (.getfield 13, 36, 7, 1, 1, [])
  | 36 => (.iload_n 1, 37, 1, 0, 0, [])
  | 37 => (.iconst (-1), 38, 0, 0, (-1), [])
  | 38 => (.iastore, 39, 0, 0, 0, [])
  | 39 => (.aload_n 0, 40, 0, 0, 0, [])
  | 40 => (.iload_n 2, 41, 2, 0, 0, [])
  | 41 => (.invokevirtual 72, 44, 119, 2, 0, [7])
  | 44 => (.ireturn, 45, 0, 0, 0, [])
  | _ => (.nop, 1, 0, 0, 0, [])
def kt_M_feed : Nat → kx_E
  | 0 => (.iload_n 1, 1, 1, 0, 0, [])
  | 1 => (.i2l, 2, 0, 0, 0, [])
  | 2 => (.lconst 0, 3, 0, 0, 0, [])
  | 3 => (.ldc2_w 79, 6, 0, 0, 255, [])
  | 6 => (.invokestatic 57, 9, 116, 3, 0, [])
  | 9 => (.ifCond .ne 6, 12, 15, 0, 0, [])
  | 12 => (.ldc 67, 14, 0, 0, (-1000001), [])
  | 14 => (.ireturn, 15, 0, 0, 0, [])
  | 15 => (.aload_n 0, 16, 0, 0, 0, [])
  | 16 => (.getfield 81, 19, 7, 0, 8, [])
  | 19 => (.bipush 120, 21, 0, 0, 120, [])
  | 21 => (.if_icmp .ne 6, 24, 27, 0, 0, [])
  | 24 => (.ldc 84, 26, 0, 0, (-1000003), [])
  | 26 => (.ireturn, 27, 0, 0, 0, [])
  | 27 => (.aload_n 0, 28, 0, 0, 0, [])
  | 28 => (.getfield 25, 31, 7, 1, 7, [])
  | 31 => (.aload_n 0, 32, 0, 0, 0, [])
  | 32 => (.getfield 81, 35, 7, 0, 8, [])
  | 35 => (.iload_n 1, 36, 1, 0, 0, [])
  | 36 => (.iastore, 37, 0, 0, 0, [])
  | 37 => (.aload_n 0, 38, 0, 0, 0, [])
  | 38 => (.dup, 39, 0, 0, 0, [])
  | 39 => (.getfield 81, 42, 7, 0, 8, [])
  | 42 => (.iconst 1, 43, 0, 0, 1, [])
  | 43 => (.iadd, 44, 0, 0, 0, [])
  | 44 => (.putfield 81, 47, 7, 0, 8, [])
  | 47 => (.aload_n 0, 48, 0, 0, 0, [])
  | 48 => (.getfield 81, 51, 7, 0, 8, [])
  | 51 => (.ireturn, 52, 0, 0, 0, [])
  | _ => (.nop, 1, 0, 0, 0, [])
def kt_M_nextToken : Nat → kx_E
  | 0 => (.aload_n 0, 1, 0, 0, 0, [])
  | 1 => (.aload_n 0, 2, 0, 0, 0, [])
  | 2 => (.getfield 85, 5, 7, 0, 10, [])
  | 5 => (.putfield 88, 8, 7, 0, 13, [])
  | 8 => (.aload_n 0, 9, 0, 0, 0, [])
  | 9 => (.aload_n 0, 10, 0, 0, 0, [])
  | 10 => (.getfield 85, 13, 7, 0, 10, [])
  | 13 => (.aload_n 0, 14, 0, 0, 0, [])
  | 14 => (.getfield 81, 17, 7, 0, 8, [])
  | 17 => (.if_icmp .ne 7, 20, 24, 0, 0, [])
  | 20 => (.iconst 3, 21, 0, 0, 3, [])
  | 21 => (.goto 4, 24, 25, 0, 0, [])
  | 24 => (.iconst 0, 25, 0, 0, 0, [])
  | 25 => (.putfield 91, 28, 7, 0, 11, [])
  | 28 => (.aload_n 0, 29, 0, 0, 0, [])
  | 29 => (.iconst 0, 30, 0, 0, 0, [])
  | 30 => (.putfield 94, 33, 7, 0, 12, [])
  | 33 => (.aload_n 0, 34, 0, 0, 0, [])
  | 34 => (.getfield 85, 37, 7, 0, 10, [])
  | 37 => (.aload_n 0, 38, 0, 0, 0, [])
  | 38 => (.getfield 81, 41, 7, 0, 8, [])
  | 41 => (.if_icmp .ge 78, 44, 119, 0, 0, [])
  | 44 => (.aload_n 0, 45, 0, 0, 0, [])
  | 45 => (.getfield 25, 48, 7, 1, 7, [])
  | 48 => (.aload_n 0, 49, 0, 0, 0, [])
  | 49 => (.getfield 85, 52, 7, 0, 10, [])
  | 52 => (.iaload, 53, 0, 0, 0, [])
  | 53 => (.i2l, 54, 0, 0, 0, [])
  | 54 => (.ldc2_w 97, 57, 0, 0, 48, [])
  | 57 => (.ldc2_w 99, 60, 0, 0, 57, [])
  | 60 => (.invokestatic 57, 63, 116, 3, 0, [])
  | 63 => (.ifCond .eq 56, 66, 119, 0, 0, [])
  | 66 => (.aload_n 0, 67, 0, 0, 0, [])
  | 67 => (.aload_n 0, 68, 0, 0, 0, [])
  | 68 => (.getfield 94, 71, 7, 0, 12, [])
  | 71 => (.bipush 99, 73, 0, 0, 99, [])
  | 73 => (.if_icmp .le 10, 76, 83, 0, 0, [])
  | 76 => (.aload_n 0, 77, 0, 0, 0, [])
  | 77 => (.getfield 94, 80, 7, 0, 12, [])
  | 80 => (.goto 23, 83, 103, 0, 0, [])
  | 83 => (.bipush 10, 85, 0, 0, 10, [])
  | 85 => (.aload_n 0, 86, 0, 0, 0, [])
  | 86 => (.getfield 94, 89, 7, 0, 12, [])
  | 89 => (.imul, 90, 0, 0, 0, [])
  | 90 => (.aload_n 0, 91, 0, 0, 0, [])
  | 91 => (.getfield 25, 94, 7, 1, 7, [])
  | 94 => (.aload_n 0, 95, 0, 0, 0, [])
  | 95 => (.getfield 85, 98, 7, 0, 10, [])
  | 98 => (.iaload, 99, 0, 0, 0, [])
  | 99 => (.iadd, 100, 0, 0, 0, [])
  | 100 => (.bipush 48, 102, 0, 0, 48, [])
  | 102 => (.isub, 103, 0, 0, 0, [])
  | 103 => (.putfield 94, 106, 7, 0, 12, [])
  | 106 => (.aload_n 0, 107, 0, 0, 0, [])
  | 107 => (.dup, 108, 0, 0, 0, [])
  | 108 => (.getfield 85, 111, 7, 0, 10, [])
  | 111 => (.iconst 1, 112, 0, 0, 1, [])
  | 112 => (.iadd, 113, 0, 0, 0, [])
  | 113 => (.putfield 85, 116, 7, 0, 10, [])
  | 116 => (.goto (-83), 119, 33, 0, 0, [])
  | 119 => (.aload_n 0, 120, 0, 0, 0, [])
  | 120 => (.getfield 85, 123, 7, 0, 10, [])
  | 123 => (.aload_n 0, 124, 0, 0, 0, [])
  | 124 => (.getfield 88, 127, 7, 0, 13, [])
  | 127 => (.if_icmp .le 28, 130, 155, 0, 0, [])
  | 130 => (.aload_n 0, 131, 0, 0, 0, [])
  | 131 => (.aload_n 0, 132, 0, 0, 0, [])
  | 132 => (.getfield 85, 135, 7, 0, 10, [])
  | 135 => (.aload_n 0, 136, 0, 0, 0, [])
  | 136 => (.getfield 88, 139, 7, 0, 13, [])
  | 139 => (.isub, 140, 0, 0, 0, [])
  | 140 => (.iconst 2, 141, 0, 0, 2, [])
  | 141 => (.if_icmp .le 7, 144, 148, 0, 0, [])
  | 144 => (.iconst 0, 145, 0, 0, 0, [])
  | 145 => (.goto 4, 148, 149, 0, 0, [])
  | 148 => (.iconst 2, 149, 0, 0, 2, [])
  | 149 => (.putfield 91, 152, 7, 0, 11, [])
  | 152 => (.goto 77, 155, 229, 0, 0, [])
  | 155 => (.aload_n 0, 156, 0, 0, 0, [])
  | 156 => (.getfield 91, 159, 7, 0, 11, [])
  | 159 => (.ifCond .ne 70, 162, 229, 0, 0, [])
  | 162 => (.aload_n 0, 163, 0, 0, 0, [])
  | 163 => (.aload_n 0, 164, 0, 0, 0, [])
  | 164 => (.getfield 25, 167, 7, 1, 7, [])
  | 167 => (.aload_n 0, 168, 0, 0, 0, [])
  | 168 => (.getfield 85, 171, 7, 0, 10, [])
  | 171 => (.iaload, 172, 0, 0, 0, [])
  | 172 => (.putfield 94, 175, 7, 0, 12, [])
  | 175 => (.aload_n 0, 176, 0, 0, 0, [])
  | 176 => (.aload_n 0, 177, 0, 0, 0, [])
  | 177 => (.getfield 94, 180, 7, 0, 12, [])
  | 180 => (.i2l, 181, 0, 0, 0, [])
  | 181 => (.ldc2_w 101, 184, 0, 0, 97, [])
  | 184 => (.ldc2_w 103, 187, 0, 0, 122, [])
  | 187 => (.invokestatic 57, 190, 116, 3, 0, [])
  | 190 => (.ifCond .ne 21, 193, 211, 0, 0, [])
  | 193 => (.aload_n 0, 194, 0, 0, 0, [])
  | 194 => (.getfield 94, 197, 7, 0, 12, [])
  | 197 => (.bipush 44, 199, 0, 0, 44, [])
  | 199 => (.if_icmp .eq 12, 202, 211, 0, 0, [])
  | 202 => (.aload_n 0, 203, 0, 0, 0, [])
  | 203 => (.getfield 94, 206, 7, 0, 12, [])
  | 206 => (.bipush 59, 208, 0, 0, 59, [])
  | 208 => (.if_icmp .ne 7, 211, 215, 0, 0, [])
  | 211 => (.iconst 1, 212, 0, 0, 1, [])
  | 212 => (.goto 4, 215, 216, 0, 0, [])
  | 215 => (.iconst 0, 216, 0, 0, 0, [])
  | 216 => (.putfield 91, 219, 7, 0, 11, [])
  | 219 => (.aload_n 0, 220, 0, 0, 0, [])
  | 220 => (.dup, 221, 0, 0, 0, [])
  | 221 => (.getfield 85, 224, 7, 0, 10, [])
  | 224 => (.iconst 1, 225, 0, 0, 1, [])
  | 225 => (.iadd, 226, 0, 0, 0, [])
  | 226 => (.putfield 85, 229, 7, 0, 10, [])
  | 229 => (.return_, 230, 0, 0, 0, [])
  | _ => (.nop, 1, 0, 0, 0, [])
def kt_M_faults : Nat → kx_E
  | 0 => (.aload_n 0, 1, 0, 0, 0, [])
  | 1 => (.iload_n 1, 2, 1, 0, 0, [])
  | 2 => (.putfield 105, 5, 7, 0, 14, [])
  | 5 => (.iconst 0, 6, 0, 0, 0, [])
  | 6 => (.ireturn, 7, 1, 0, 0, [])
  | _ => (.nop, 1, 0, 0, 0, [])
def kt_M_isLetter : Nat → kx_E
  | 0 => (.aload_n 0, 1, 0, 0, 0, [])
  | 1 => (.getfield 91, 4, 7, 0, 11, [])
  | 4 => (.iconst 1, 5, 0, 0, 1, [])
  | 5 => (.if_icmp .ne 15, 8, 20, 0, 0, [])
  | 8 => (.aload_n 0, 9, 0, 0, 0, [])
  | 9 => (.getfield 94, 12, 7, 0, 12, [])
  | 12 => (.iload_n 1, 13, 1, 0, 0, [])
  | 13 => (.if_icmp .ne 7, 16, 20, 0, 0, [])
  | 16 => (.iconst 1, 17, 0, 0, 1, [])
  | 17 => (.goto 4, 20, 21, 0, 0, [])
  | 20 => (.iconst 0, 21, 0, 0, 0, [])
  | 21 => (.ireturn, 22, 1, 0, 0, [])
  | _ => (.nop, 1, 0, 0, 0, [])
def kt_M_takes : Nat → kx_E
  | 0 => (.aload_n 0, 1, 0, 0, 0, [])
  | 1 => (.iload_n 1, 2, 1, 0, 0, [])
  | 2 => (.invokevirtual 108, 5, 129, 2, 0, [7])
  | 5 => (.ifCond .ne 9, 8, 14, 0, 0, [])
  | 8 => (.aload_n 0, 9, 0, 0, 0, [])
  | 9 => (.iconst 1, 10, 0, 0, 1, [])
  | 10 => (.invokevirtual 111, 13, 128, 2, 0, [7])
  | 13 => (.ireturn, 14, 1, 0, 0, [])
  | 14 => (.aload_n 0, 15, 0, 0, 0, [])
  | 15 => (.invokevirtual 114, 18, 127, 1, 0, [7])
  | 18 => (.iconst 1, 19, 0, 0, 1, [])
  | 19 => (.ireturn, 20, 1, 0, 0, [])
  | _ => (.nop, 1, 0, 0, 0, [])
def kt_M_takesNumber : Nat → kx_E
  | 0 => (.aload_n 0, 1, 0, 0, 0, [])
  | 1 => (.getfield 91, 4, 7, 0, 11, [])
  | 4 => (.iconst 2, 5, 0, 0, 2, [])
  | 5 => (.if_icmp .ne 18, 8, 23, 0, 0, [])
  | 8 => (.aload_n 0, 9, 0, 0, 0, [])
  | 9 => (.getfield 94, 12, 7, 0, 12, [])
  | 12 => (.i2l, 13, 0, 0, 0, [])
  | 13 => (.iload_n 1, 14, 1, 0, 0, [])
  | 14 => (.i2l, 15, 0, 0, 0, [])
  | 15 => (.iload_n 2, 16, 2, 0, 0, [])
  | 16 => (.i2l, 17, 0, 0, 0, [])
  | 17 => (.invokestatic 57, 20, 116, 3, 0, [])
  | 20 => (.ifCond .ne 21, 23, 41, 0, 0, [])
  | 23 => (.aload_n 0, 24, 0, 0, 0, [])
  | 24 => (.aload_n 0, 25, 0, 0, 0, [])
  | 25 => (.getfield 91, 28, 7, 0, 11, [])
  | 28 => (.iconst 2, 29, 0, 0, 2, [])
  | 29 => (.if_icmp .ne 7, 32, 36, 0, 0, [])
  | 32 => (.iconst 2, 33, 0, 0, 2, [])
  | 33 => (.goto 4, 36, 37, 0, 0, [])
  | 36 => (.iconst 1, 37, 0, 0, 1, [])
  | 37 => (.invokevirtual 111, 40, 128, 2, 0, [7])
  | 40 => (.ireturn, 41, 1, 0, 0, [])
  | 41 => (.aload_n 0, 42, 0, 0, 0, [])
  | 42 => (.getfield 28, 45, 7, 1, 15, [])
  | 45 => (.iload_n 3, 46, 3, 0, 0, [])
  | 46 => (.aload_n 0, 47, 0, 0, 0, [])
  | 47 => (.getfield 94, 50, 7, 0, 12, [])
  | 50 => (.iastore, 51, 0, 0, 0, [])
  | 51 => (.aload_n 0, 52, 0, 0, 0, [])
  | 52 => (.invokevirtual 114, 55, 127, 1, 0, [7])
  | 55 => (.aload_n 0, 56, 0, 0, 0, [])
  | 56 => (.iload 4, 58, 4, 0, 0, [])
  | 58 => (.invokevirtual 117, 61, 130, 2, 0, [7])
  | 61 => (.ireturn, 62, 1, 0, 0, [])
  | _ => (.nop, 1, 0, 0, 0, [])
def kt_M_readHead : Nat → kx_E
  | 0 => (.aload_n 0, 1, 0, 0, 0, [])
  | 1 => (.getfield 28, 4, 7, 1, 15, [])
  | 4 => (.iconst 1, 5, 0, 0, 1, [])
  | 5 => (.iaload, 6, 0, 0, 0, [])
  | 6 => (.istore_n 2, 7, 2, 0, 0, [])
  | 7 => (.iload_n 2, 8, 2, 0, 0, [])
  | 8 => (.bipush 6, 10, 0, 0, 6, [])
  | 10 => (.if_icmp .eq 12, 13, 22, 0, 0, [])
  | 13 => (.aload_n 0, 14, 0, 0, 0, [])
  | 14 => (.getfield 28, 17, 7, 1, 15, [])
  | 17 => (.iconst 2, 18, 0, 0, 2, [])
  | 18 => (.iaload, 19, 0, 0, 0, [])
  | 19 => (.ifCond .le 22, 22, 41, 0, 0, [])
  | 22 => (.aload_n 0, 23, 0, 0, 0, [])
  | 23 => (.aload_n 0, 24, 0, 0, 0, [])
  | 24 => (.getfield 28, 27, 7, 1, 15, [])
  | 27 => (.iconst 2, 28, 0, 0, 2, [])
  | 28 => (.iaload, 29, 0, 0, 0, [])
  | 29 => (.ifCond .le 7, 32, 36, 0, 0, [])
  | 32 => (.iconst 1, 33, 0, 0, 1, [])
  | 33 => (.goto 4, 36, 37, 0, 0, [])
  | 36 => (.iconst 3, 37, 0, 0, 3, [])
  | 37 => (.invokevirtual 111, 40, 128, 2, 0, [7])
  | 40 => (.ireturn, 41, 1, 0, 0, [])
  | 41 => (.aload_n 0, 42, 0, 0, 0, [])
  | 42 => (.invokevirtual 114, 45, 127, 1, 0, [7])
  | 45 => (.aload_n 0, 46, 0, 0, 0, [])
  | 46 => (.getfield 28, 49, 7, 1, 15, [])
  | 49 => (.bipush 6, 51, 0, 0, 6, [])
  | 51 => (.iload_n 2, 52, 2, 0, 0, [])
  | 52 => (.iadd, 53, 0, 0, 0, [])
  | 53 => (.iload_n 1, 54, 1, 0, 0, [])
  | 54 => (.iastore, 55, 0, 0, 0, [])
  | 55 => (.aload_n 0, 56, 0, 0, 0, [])
  | 56 => (.getfield 28, 59, 7, 1, 15, [])
  | 59 => (.iconst 1, 60, 0, 0, 1, [])
  | 60 => (.dup2, 61, 0, 0, 0, [])
  | 61 => (.iaload, 62, 0, 0, 0, [])
  | 62 => (.iconst 1, 63, 0, 0, 1, [])
  | 63 => (.iadd, 64, 0, 0, 0, [])
  | 64 => (.iastore, 65, 0, 0, 0, [])
  | 65 => (.aload_n 0, 66, 0, 0, 0, [])
  | 66 => (.iconst 1, 67, 0, 0, 1, [])
  | 67 => (.bipush 9, 69, 0, 0, 9, [])
  | 69 => (.bipush 12, 71, 0, 0, 12, [])
  | 71 => (.iload_n 2, 72, 2, 0, 0, [])
  | 72 => (.iadd, 73, 0, 0, 0, [])
  | 73 => (.bipush 44, 75, 0, 0, 44, [])
  | 75 => (.invokevirtual 120, 78, 131, 5, 0, [7])
  | 78 => (.ifCond .eq 23, 81, 101, 0, 0, [])
  | 81 => (.aload_n 0, 82, 0, 0, 0, [])
  | 82 => (.iconst 0, 83, 0, 0, 0, [])
  | 83 => (.bipush 15, 85, 0, 0, 15, [])
  | 85 => (.bipush 18, 87, 0, 0, 18, [])
  | 87 => (.iload_n 2, 88, 2, 0, 0, [])
  | 88 => (.iadd, 89, 0, 0, 0, [])
  | 89 => (.bipush 59, 91, 0, 0, 59, [])
  | 91 => (.invokevirtual 120, 94, 131, 5, 0, [7])
  | 94 => (.ifCond .eq 7, 97, 101, 0, 0, [])
  | 97 => (.iconst 1, 98, 0, 0, 1, [])
  | 98 => (.goto 4, 101, 102, 0, 0, [])
  | 101 => (.iconst 0, 102, 0, 0, 0, [])
  | 102 => (.ireturn, 103, 1, 0, 0, [])
  | _ => (.nop, 1, 0, 0, 0, [])
def kt_M_readOrder : Nat → kx_E
  | 0 => (.aload_n 0, 1, 0, 0, 0, [])
  | 1 => (.getfield 28, 4, 7, 1, 15, [])
  | 4 => (.iconst 2, 5, 0, 0, 2, [])
  | 5 => (.iaload, 6, 0, 0, 0, [])
  | 6 => (.istore_n 1, 7, 1, 0, 0, [])
  | 7 => (.iload_n 1, 8, 1, 0, 0, [])
  | 8 => (.iconst 4, 9, 0, 0, 4, [])
  | 9 => (.if_icmp .ne 9, 12, 18, 0, 0, [])
  | 12 => (.aload_n 0, 13, 0, 0, 0, [])
  | 13 => (.iconst 3, 14, 0, 0, 3, [])
  | 14 => (.invokevirtual 111, 17, 128, 2, 0, [7])
  | 17 => (.ireturn, 18, 1, 0, 0, [])
  | 18 => (.aload_n 0, 19, 0, 0, 0, [])
  | 19 => (.invokevirtual 114, 22, 127, 1, 0, [7])
  | 22 => (.aload_n 0, 23, 0, 0, 0, [])
  | 23 => (.getfield 28, 26, 7, 1, 15, [])
  | 26 => (.iconst 2, 27, 0, 0, 2, [])
  | 27 => (.dup2, 28, 0, 0, 0, [])
  | 28 => (.iaload, 29, 0, 0, 0, [])
  | 29 => (.iconst 1, 30, 0, 0, 1, [])
  | 30 => (.iadd, 31, 0, 0, 0, [])
  | 31 => (.iastore, 32, 0, 0, 0, [])
  | 32 => (.aload_n 0, 33, 0, 0, 0, [])
  | 33 => (.iconst 1, 34, 0, 0, 1, [])
  | 34 => (.bipush 40, 36, 0, 0, 40, [])
  | 36 => (.bipush 30, 38, 0, 0, 30, [])
  | 38 => (.iload_n 1, 39, 1, 0, 0, [])
  | 39 => (.iadd, 40, 0, 0, 0, [])
  | 40 => (.bipush 59, 42, 0, 0, 59, [])
  | 42 => (.invokevirtual 120, 45, 131, 5, 0, [7])
  | 45 => (.istore_n 2, 46, 2, 0, 0, [])
  | 46 => (.aload_n 0, 47, 0, 0, 0, [])
  | 47 => (.getfield 28, 50, 7, 1, 15, [])
  | 50 => (.bipush 34, 52, 0, 0, 34, [])
  | 52 => (.iload_n 1, 53, 1, 0, 0, [])
  | 53 => (.iadd, 54, 0, 0, 0, [])
  | 54 => (.aload_n 0, 55, 0, 0, 0, [])
  | 55 => (.getfield 28, 58, 7, 1, 15, [])
  | 58 => (.bipush 30, 60, 0, 0, 30, [])
  | 60 => (.iload_n 1, 61, 1, 0, 0, [])
  | 61 => (.iadd, 62, 0, 0, 0, [])
  | 62 => (.iaload, 63, 0, 0, 0, [])
  | 63 => (.iastore, 64, 0, 0, 0, [])
  | 64 => (.iload_n 2, 65, 2, 0, 0, [])
  | 65 => (.ireturn, 66, 1, 0, 0, [])
  | _ => (.nop, 1, 0, 0, 0, [])
def kt_M_readTown : Nat → kx_E
  | 0 => (.aload_n 0, 1, 0, 0, 0, [])
  | 1 => (.iconst 0, 2, 0, 0, 0, [])
  | 2 => (.putfield 85, 5, 7, 0, 10, [])
  | 5 => (.iconst 0, 6, 0, 0, 0, [])
  | 6 => (.istore_n 1, 7, 1, 0, 0, [])
  | 7 => (.iload_n 1, 8, 1, 0, 0, [])
  | 8 => (.bipush 46, 10, 0, 0, 46, [])
  | 10 => (.if_icmp .ge 16, 13, 26, 0, 0, [])
  | 13 => (.aload_n 0, 14, 0, 0, 0, [])
  | 14 => (.getfield 28, 17, 7, 1, 15, [])
  | 17 => (.iload_n 1, 18, 1, 0, 0, [])
  | 18 => (.iconst 0, 19, 0, 0, 0, [])
  | 19 => (.iastore, 20, 0, 0, 0, [])
  | 20 => (.iinc 1 1, 23, 1, 0, 1, [])
  | 23 => (.goto (-16), 26, 7, 0, 0, [])
  | 26 => (.aload_n 0, 27, 0, 0, 0, [])
  | 27 => (.invokevirtual 114, 30, 127, 1, 0, [7])
  | 30 => (.aload_n 0, 31, 0, 0, 0, [])
  | 31 => (.bipush 104, 33, 0, 0, 104, [])
  | 33 => (.invokevirtual 117, 36, 130, 2, 0, [7])
  | 36 => (.ifCond .eq 15, 39, 51, 0, 0, [])
  | 39 => (.aload_n 0, 40, 0, 0, 0, [])
  | 40 => (.iconst 0, 41, 0, 0, 0, [])
  | 41 => (.iconst 5, 42, 0, 0, 5, [])
  | 42 => (.iconst 0, 43, 0, 0, 0, [])
  | 43 => (.bipush 59, 45, 0, 0, 59, [])
  | 45 => (.invokevirtual 120, 48, 131, 5, 0, [7])
  | 48 => (.ifCond .ne 5, 51, 53, 0, 0, [])
  | 51 => (.iconst 0, 52, 0, 0, 0, [])
  | 52 => (.ireturn, 53, 1, 0, 0, [])
  | 53 => (.iconst 1, 54, 0, 0, 1, [])
  | 54 => (.istore_n 1, 55, 1, 0, 0, [])
  | 55 => (.iload_n 1, 56, 1, 0, 0, [])
  | 56 => (.ifCond .eq 133, 59, 189, 0, 0, [])
  | 59 => (.aload_n 0, 60, 0, 0, 0, [])
  | 60 => (.getfield 91, 63, 7, 0, 11, [])
  | 63 => (.iconst 3, 64, 0, 0, 3, [])
  | 64 => (.if_icmp .ne 12, 67, 76, 0, 0, [])
  | 67 => (.aload_n 0, 68, 0, 0, 0, [])
  | 68 => (.getfield 28, 71, 7, 1, 15, [])
  | 71 => (.iconst 1, 72, 0, 0, 1, [])
  | 72 => (.iaload, 73, 0, 0, 0, [])
  | 73 => (.ifCond .ne 116, 76, 189, 0, 0, [])
  | 76 => (.aload_n 0, 77, 0, 0, 0, [])
  | 77 => (.bipush 102, 79, 0, 0, 102, [])
  | 79 => (.invokevirtual 108, 82, 129, 2, 0, [7])
  | 82 => (.ifCond .eq 7, 85, 89, 0, 0, [])
  | 85 => (.iconst 1, 86, 0, 0, 1, [])
  | 86 => (.goto 56, 89, 142, 0, 0, [])
  | 89 => (.aload_n 0, 90, 0, 0, 0, [])
  | 90 => (.bipush 115, 92, 0, 0, 115, [])
  | 92 => (.invokevirtual 108, 95, 129, 2, 0, [7])
  | 95 => (.ifCond .eq 7, 98, 102, 0, 0, [])
  | 98 => (.iconst 2, 99, 0, 0, 2, [])
  | 99 => (.goto 43, 102, 142, 0, 0, [])
  | 102 => (.aload_n 0, 103, 0, 0, 0, [])
  | 103 => (.bipush 116, 105, 0, 0, 116, [])
  | 105 => (.invokevirtual 108, 108, 129, 2, 0, [7])
  | 108 => (.ifCond .eq 7, 111, 115, 0, 0, [])
  | 111 => (.iconst 3, 112, 0, 0, 3, [])
  | 112 => (.goto 30, 115, 142, 0, 0, [])
  | 115 => (.aload_n 0, 116, 0, 0, 0, [])
  | 116 => (.bipush 119, 118, 0, 0, 119, [])
  | 118 => (.invokevirtual 108, 121, 129, 2, 0, [7])
  | 121 => (.ifCond .eq 7, 124, 128, 0, 0, [])
  | 124 => (.iconst 4, 125, 0, 0, 4, [])
  | 125 => (.goto 17, 128, 142, 0, 0, [])
  | 128 => (.aload_n 0, 129, 0, 0, 0, [])
  | 129 => (.bipush 98, 131, 0, 0, 98, [])
  | 131 => (.invokevirtual 108, 134, 129, 2, 0, [7])
  | 134 => (.ifCond .eq 7, 137, 141, 0, 0, [])
  | 137 => (.iconst 5, 138, 0, 0, 5, [])
  | 138 => (.goto 4, 141, 142, 0, 0, [])
  | 141 => (.iconst 0, 142, 0, 0, 0, [])
  | 142 => (.istore_n 2, 143, 2, 0, 0, [])
  | 143 => (.iload_n 2, 144, 2, 0, 0, [])
  | 144 => (.ifCond .le 11, 147, 155, 0, 0, [])
  | 147 => (.aload_n 0, 148, 0, 0, 0, [])
  | 148 => (.iload_n 2, 149, 2, 0, 0, [])
  | 149 => (.invokevirtual 124, 152, 132, 2, 0, [7])
  | 152 => (.goto 33, 155, 185, 0, 0, [])
  | 155 => (.aload_n 0, 156, 0, 0, 0, [])
  | 156 => (.bipush 111, 158, 0, 0, 111, [])
  | 158 => (.invokevirtual 108, 161, 129, 2, 0, [7])
  | 161 => (.ifCond .eq 19, 164, 180, 0, 0, [])
  | 164 => (.aload_n 0, 165, 0, 0, 0, [])
  | 165 => (.getfield 28, 168, 7, 1, 15, [])
  | 168 => (.iconst 1, 169, 0, 0, 1, [])
  | 169 => (.iaload, 170, 0, 0, 0, [])
  | 170 => (.ifCond .le 10, 173, 180, 0, 0, [])
  | 173 => (.aload_n 0, 174, 0, 0, 0, [])
  | 174 => (.invokevirtual 127, 177, 133, 1, 0, [7])
  | 177 => (.goto 8, 180, 185, 0, 0, [])
  | 180 => (.aload_n 0, 181, 0, 0, 0, [])
  | 181 => (.iconst 1, 182, 0, 0, 1, [])
  | 182 => (.invokevirtual 111, 185, 128, 2, 0, [7])
  | 185 => (.istore_n 1, 186, 1, 0, 0, [])
  | 186 => (.goto (-131), 189, 55, 0, 0, [])
  | 189 => (.iload_n 1, 190, 1, 0, 0, [])
  | 190 => (.ireturn, 191, 1, 0, 0, [])
  | _ => (.nop, 1, 0, 0, 0, [])
def kt_M_town : Nat → kx_E
  | 0 => (.aload_n 0, 1, 0, 0, 0, [])
  | 1 => (.invokevirtual 131, 4, 134, 1, 0, [7])
  | 4 => (.istore_n 1, 5, 1, 0, 0, [])
  | 5 => (.aload_n 0, 6, 0, 0, 0, [])
  | 6 => (.iconst 0, 7, 0, 0, 0, [])
  | 7 => (.putfield 81, 10, 7, 0, 8, [])
  | 10 => (.iload_n 1, 11, 1, 0, 0, [])
  | 11 => (.ifCond .ne 19, 14, 30, 0, 0, [])
  | 14 => (.aload_n 0, 15, 0, 0, 0, [])
  | 15 => (.aload_n 0, 16, 0, 0, 0, [])
  | 16 => (.getfield 105, 19, 7, 0, 14, [])
  | 19 => (.putfield 134, 22, 7, 0, 9, [])
  | 22 => (.ldc 137, 24, 0, 0, (-1000100), [])
  | 24 => (.aload_n 0, 25, 0, 0, 0, [])
  | 25 => (.getfield 88, 28, 7, 0, 13, [])
  | 28 => (.isub, 29, 0, 0, 0, [])
  | 29 => (.ireturn, 30, 0, 0, 0, [])
  | 30 => (.iconst 0, 31, 0, 0, 0, [])
  | 31 => (.istore_n 2, 32, 2, 0, 0, [])
  | 32 => (.iload_n 2, 33, 2, 0, 0, [])
  | 33 => (.bipush 46, 35, 0, 0, 46, [])
  | 35 => (.if_icmp .ge 21, 38, 56, 0, 0, [])
  | 38 => (.aload_n 0, 39, 0, 0, 0, [])
  | 39 => (.getfield 19, 42, 7, 1, 5, [])
  | 42 => (.iload_n 2, 43, 2, 0, 0, [])
  | 43 => (.aload_n 0, 44, 0, 0, 0, [])
  | 44 => (.getfield 28, 47, 7, 1, 15, [])
  | 47 => (.iload_n 2, 48, 2, 0, 0, [])
  | 48 => (.iaload, 49, 0, 0, 0, [])
  | 49 => (.iastore, 50, 0, 0, 0, [])
  | 50 => (.iinc 2 1, 53, 2, 0, 1, [])
  | 53 => (.goto (-21), 56, 32, 0, 0, [])
  | 56 => (.aload_n 0, 57, 0, 0, 0, [])
  | 57 => (.iconst 1, 58, 0, 0, 1, [])
  | 58 => (.putfield 138, 61, 7, 2, 4, [])
  | 61 => (.aload_n 0, 62, 0, 0, 0, [])
  | 62 => (.iconst 0, 63, 0, 0, 0, [])
  | 63 => (.putfield 142, 66, 7, 0, 17, [])
  | 66 => (.aload_n 0, 67, 0, 0, 0, [])
  | 67 => (.getfield 19, 70, 7, 1, 5, [])
  | 70 => (.iconst 1, 71, 0, 0, 1, [])
  | 71 => (.iaload, 72, 0, 0, 0, [])
  | 72 => (.ireturn, 73, 0, 0, 0, [])
  | _ => (.nop, 1, 0, 0, 0, [])
def kt_M_fault : Nat → kx_E
  | 0 => (.aload_n 0, 1, 0, 0, 0, [])
  | 1 => (.getfield 134, 4, 7, 0, 9, [])
  | 4 => (.ireturn, 5, 0, 0, 0, [])
  | _ => (.nop, 1, 0, 0, 0, [])
def kt_M_isHead : Nat → kx_E
  | 0 => (.iload_n 1, 1, 1, 0, 0, [])
  | 1 => (.i2l, 2, 0, 0, 0, [])
  | 2 => (.lconst 0, 3, 0, 0, 0, [])
  | 3 => (.aload_n 0, 4, 0, 0, 0, [])
  | 4 => (.getfield 19, 7, 7, 1, 5, [])
  | 7 => (.iconst 1, 8, 0, 0, 1, [])
  | 8 => (.iaload, 9, 0, 0, 0, [])
  | 9 => (.iconst 1, 10, 0, 0, 1, [])
  | 10 => (.isub, 11, 0, 0, 0, [])
  | 11 => (.i2l, 12, 0, 0, 0, [])
  | 12 => (.invokestatic 57, 15, 116, 3, 0, [])
  | 15 => (.ireturn, 16, 1, 0, 0, [])
  | _ => (.nop, 1, 0, 0, 0, [])
def kt_M_isOrder : Nat → kx_E
  | 0 => (.iload_n 1, 1, 1, 0, 0, [])
  | 1 => (.i2l, 2, 0, 0, 0, [])
  | 2 => (.lconst 0, 3, 0, 0, 0, [])
  | 3 => (.aload_n 0, 4, 0, 0, 0, [])
  | 4 => (.getfield 19, 7, 7, 1, 5, [])
  | 7 => (.iconst 2, 8, 0, 0, 2, [])
  | 8 => (.iaload, 9, 0, 0, 0, [])
  | 9 => (.iconst 1, 10, 0, 0, 1, [])
  | 10 => (.isub, 11, 0, 0, 0, [])
  | 11 => (.i2l, 12, 0, 0, 0, [])
  | 12 => (.invokestatic 57, 15, 116, 3, 0, [])
  | 15 => (.ireturn, 16, 1, 0, 0, [])
  | _ => (.nop, 1, 0, 0, 0, [])
def kt_M_outMany : Nat → kx_E
  | 0 => (.iconst 0, 1, 0, 0, 0, [])
  | 1 => (.istore_n 1, 2, 1, 0, 0, [])
  | 2 => (.iconst 0, 3, 0, 0, 0, [])
  | 3 => (.istore_n 2, 4, 2, 0, 0, [])
  | 4 => (.iload_n 2, 5, 2, 0, 0, [])
  | 5 => (.aload_n 0, 6, 0, 0, 0, [])
  | 6 => (.getfield 19, 9, 7, 1, 5, [])
  | 9 => (.iconst 2, 10, 0, 0, 2, [])
  | 10 => (.iaload, 11, 0, 0, 0, [])
  | 11 => (.if_icmp .ge 29, 14, 40, 0, 0, [])
  | 14 => (.iload_n 1, 15, 1, 0, 0, [])
  | 15 => (.aload_n 0, 16, 0, 0, 0, [])
  | 16 => (.getfield 19, 19, 7, 1, 5, [])
  | 19 => (.bipush 38, 21, 0, 0, 38, [])
  | 21 => (.iload_n 2, 22, 2, 0, 0, [])
  | 22 => (.iadd, 23, 0, 0, 0, [])
  | 23 => (.iaload, 24, 0, 0, 0, [])
  | 24 => (.ifCond .ne 7, 27, 31, 0, 0, [])
  | 27 => (.iconst 1, 28, 0, 0, 1, [])
  | 28 => (.goto 4, 31, 32, 0, 0, [])
  | 31 => (.iconst 0, 32, 0, 0, 0, [])
  | 32 => (.iadd, 33, 0, 0, 0, [])
  | 33 => (.istore_n 1, 34, 1, 0, 0, [])
  | 34 => (.iinc 2 1, 37, 2, 0, 1, [])
  | 37 => (.goto (-33), 40, 4, 0, 0, [])
  | 40 => (.iload_n 1, 41, 1, 0, 0, [])
  | 41 => (.ireturn, 42, 0, 0, 0, [])
  | _ => (.nop, 1, 0, 0, 0, [])
def kt_M_work : Nat → kx_E
  | 0 => (.iconst (-1), 1, 0, 0, (-1), [])
  | 1 => (.istore_n 2, 2, 2, 0, 0, [])
  | 2 => (.aload_n 0, 3, 0, 0, 0, [])
  | 3 => (.getfield 19, 6, 7, 1, 5, [])
  | 6 => (.iconst 2, 7, 0, 0, 2, [])
  | 7 => (.iaload, 8, 0, 0, 0, [])
  | 8 => (.iconst 1, 9, 0, 0, 1, [])
  | 9 => (.isub, 10, 0, 0, 0, [])
  | 10 => (.istore_n 3, 11, 3, 0, 0, [])
  | 11 => (.iload_n 3, 12, 3, 0, 0, [])
  | 12 => (.ifCond .lt 43, 15, 55, 0, 0, [])
  | 15 => (.aload_n 0, 16, 0, 0, 0, [])
  | 16 => (.getfield 19, 19, 7, 1, 5, [])
  | 19 => (.bipush 38, 21, 0, 0, 38, [])
  | 21 => (.iload_n 3, 22, 3, 0, 0, [])
  | 22 => (.iadd, 23, 0, 0, 0, [])
  | 23 => (.iaload, 24, 0, 0, 0, [])
  | 24 => (.ifCond .ne 23, 27, 47, 0, 0, [])
  | 27 => (.aload_n 0, 28, 0, 0, 0, [])
  | 28 => (.getfield 19, 31, 7, 1, 5, [])
  | 31 => (.bipush 18, 33, 0, 0, 18, [])
  | 33 => (.iload_n 1, 34, 1, 0, 0, [])
  | 34 => (.iadd, 35, 0, 0, 0, [])
  | 35 => (.iaload, 36, 0, 0, 0, [])
  | 36 => (.iload_n 3, 37, 3, 0, 0, [])
  | 37 => (.invokestatic 145, 40, 117, 2, 0, [])
  | 40 => (.ifCond .eq 7, 43, 47, 0, 0, [])
  | 43 => (.iload_n 3, 44, 3, 0, 0, [])
  | 44 => (.goto 4, 47, 48, 0, 0, [])
  | 47 => (.iload_n 2, 48, 2, 0, 0, [])
  | 48 => (.istore_n 2, 49, 2, 0, 0, [])
  | 49 => (.iinc 3 (-1), 52, 3, 0, (-1), [])
  | 52 => (.goto (-41), 55, 11, 0, 0, [])
  | 55 => (.iload_n 2, 56, 2, 0, 0, [])
  | 56 => (.ifCond .lt 68, 59, 124, 0, 0, [])
  | 59 => (.aload_n 0, 60, 0, 0, 0, [])
  | 60 => (.getfield 19, 63, 7, 1, 5, [])
  | 63 => (.bipush 34, 65, 0, 0, 34, [])
  | 65 => (.iload_n 2, 66, 2, 0, 0, [])
  | 66 => (.iadd, 67, 0, 0, 0, [])
  | 67 => (.dup2, 68, 0, 0, 0, [])
  | 68 => (.iaload, 69, 0, 0, 0, [])
  | 69 => (.iconst 1, 70, 0, 0, 1, [])
  | 70 => (.isub, 71, 0, 0, 0, [])
  | 71 => (.iastore, 72, 0, 0, 0, [])
  | 72 => (.aload_n 0, 73, 0, 0, 0, [])
  | 73 => (.getfield 19, 76, 7, 1, 5, [])
  | 76 => (.bipush 24, 78, 0, 0, 24, [])
  | 78 => (.iload_n 1, 79, 1, 0, 0, [])
  | 79 => (.iadd, 80, 0, 0, 0, [])
  | 80 => (.dup2, 81, 0, 0, 0, [])
  | 81 => (.iaload, 82, 0, 0, 0, [])
  | 82 => (.iconst 1, 83, 0, 0, 1, [])
  | 83 => (.iadd, 84, 0, 0, 0, [])
  | 84 => (.iastore, 85, 0, 0, 0, [])
  | 85 => (.aload_n 0, 86, 0, 0, 0, [])
  | 86 => (.getfield 19, 89, 7, 1, 5, [])
  | 89 => (.bipush 34, 91, 0, 0, 34, [])
  | 91 => (.iload_n 2, 92, 2, 0, 0, [])
  | 92 => (.iadd, 93, 0, 0, 0, [])
  | 93 => (.iaload, 94, 0, 0, 0, [])
  | 94 => (.ifCond .ne 30, 97, 124, 0, 0, [])
  | 97 => (.aload_n 0, 98, 0, 0, 0, [])
  | 98 => (.getfield 19, 101, 7, 1, 5, [])
  | 101 => (.bipush 38, 103, 0, 0, 38, [])
  | 103 => (.iload_n 2, 104, 2, 0, 0, [])
  | 104 => (.iadd, 105, 0, 0, 0, [])
  | 105 => (.iconst 1, 106, 0, 0, 1, [])
  | 106 => (.iastore, 107, 0, 0, 0, [])
  | 107 => (.aload_n 0, 108, 0, 0, 0, [])
  | 108 => (.getfield 19, 111, 7, 1, 5, [])
  | 111 => (.bipush 42, 113, 0, 0, 42, [])
  | 113 => (.iload_n 2, 114, 2, 0, 0, [])
  | 114 => (.iadd, 115, 0, 0, 0, [])
  | 115 => (.aload_n 0, 116, 0, 0, 0, [])
  | 116 => (.getfield 19, 119, 7, 1, 5, [])
  | 119 => (.iconst 3, 120, 0, 0, 3, [])
  | 120 => (.iaload, 121, 0, 0, 0, [])
  | 121 => (.iconst 1, 122, 0, 0, 1, [])
  | 122 => (.iadd, 123, 0, 0, 0, [])
  | 123 => (.iastore, 124, 0, 0, 0, [])
  | 124 => (.return_, 125, 0, 0, 0, [])
  | _ => (.nop, 1, 0, 0, 0, [])
def kt_M_oneStep : Nat → kx_E
  | 0 => (.aload_n 0, 1, 0, 0, 0, [])
  | 1 => (.getfield 19, 4, 7, 1, 5, [])
  | 4 => (.iconst 4, 5, 0, 0, 4, [])
  | 5 => (.iaload, 6, 0, 0, 0, [])
  | 6 => (.istore_n 1, 7, 1, 0, 0, [])
  | 7 => (.aload_n 0, 8, 0, 0, 0, [])
  | 8 => (.getfield 19, 11, 7, 1, 5, [])
  | 11 => (.bipush 6, 13, 0, 0, 6, [])
  | 13 => (.iload_n 1, 14, 1, 0, 0, [])
  | 14 => (.iadd, 15, 0, 0, 0, [])
  | 15 => (.iaload, 16, 0, 0, 0, [])
  | 16 => (.istore_n 2, 17, 2, 0, 0, [])
  | 17 => (.aload_n 0, 18, 0, 0, 0, [])
  | 18 => (.iload_n 1, 19, 1, 0, 0, [])
  | 19 => (.invokevirtual 149, 22, 140, 2, 0, [7])
  | 22 => (.aload_n 0, 23, 0, 0, 0, [])
  | 23 => (.getfield 19, 26, 7, 1, 5, [])
  | 26 => (.iconst 5, 27, 0, 0, 5, [])
  | 27 => (.dup2, 28, 0, 0, 0, [])
  | 28 => (.iaload, 29, 0, 0, 0, [])
  | 29 => (.iconst 1, 30, 0, 0, 1, [])
  | 30 => (.iadd, 31, 0, 0, 0, [])
  | 31 => (.iastore, 32, 0, 0, 0, [])
  | 32 => (.aload_n 0, 33, 0, 0, 0, [])
  | 33 => (.getfield 19, 36, 7, 1, 5, [])
  | 36 => (.iconst 3, 37, 0, 0, 3, [])
  | 37 => (.dup2, 38, 0, 0, 0, [])
  | 38 => (.iaload, 39, 0, 0, 0, [])
  | 39 => (.iconst 1, 40, 0, 0, 1, [])
  | 40 => (.iadd, 41, 0, 0, 0, [])
  | 41 => (.iastore, 42, 0, 0, 0, [])
  | 42 => (.aload_n 0, 43, 0, 0, 0, [])
  | 43 => (.getfield 19, 46, 7, 1, 5, [])
  | 46 => (.iconst 5, 47, 0, 0, 5, [])
  | 47 => (.iaload, 48, 0, 0, 0, [])
  | 48 => (.aload_n 0, 49, 0, 0, 0, [])
  | 49 => (.getfield 19, 52, 7, 1, 5, [])
  | 52 => (.bipush 12, 54, 0, 0, 12, [])
  | 54 => (.iload_n 1, 55, 1, 0, 0, [])
  | 55 => (.iadd, 56, 0, 0, 0, [])
  | 56 => (.iaload, 57, 0, 0, 0, [])
  | 57 => (.iload_n 2, 58, 2, 0, 0, [])
  | 58 => (.iconst 3, 59, 0, 0, 3, [])
  | 59 => (.if_icmp .ne 10, 62, 69, 0, 0, [])
  | 62 => (.aload_n 0, 63, 0, 0, 0, [])
  | 63 => (.invokevirtual 153, 66, 139, 1, 0, [7])
  | 66 => (.goto 4, 69, 70, 0, 0, [])
  | 69 => (.iconst 0, 70, 0, 0, 0, [])
  | 70 => (.iadd, 71, 0, 0, 0, [])
  | 71 => (.if_icmp .lt 75, 74, 146, 0, 0, [])
  | 74 => (.iload_n 2, 75, 2, 0, 0, [])
  | 75 => (.iconst 2, 76, 0, 0, 2, [])
  | 76 => (.if_icmp .ne 7, 79, 83, 0, 0, [])
  | 79 => (.iconst 2, 80, 0, 0, 2, [])
  | 80 => (.goto 42, 83, 122, 0, 0, [])
  | 83 => (.iload_n 2, 84, 2, 0, 0, [])
  | 84 => (.iconst 4, 85, 0, 0, 4, [])
  | 85 => (.if_icmp .ne 12, 88, 97, 0, 0, [])
  | 88 => (.aload_n 0, 89, 0, 0, 0, [])
  | 89 => (.getfield 19, 92, 7, 1, 5, [])
  | 92 => (.iconst 0, 93, 0, 0, 0, [])
  | 93 => (.iaload, 94, 0, 0, 0, [])
  | 94 => (.goto 28, 97, 122, 0, 0, [])
  | 97 => (.iload_n 2, 98, 2, 0, 0, [])
  | 98 => (.iconst 5, 99, 0, 0, 5, [])
  | 99 => (.if_icmp .ne 22, 102, 121, 0, 0, [])
  | 102 => (.aload_n 0, 103, 0, 0, 0, [])
  | 103 => (.getfield 19, 106, 7, 1, 5, [])
  | 106 => (.iconst 1, 107, 0, 0, 1, [])
  | 107 => (.iaload, 108, 0, 0, 0, [])
  | 108 => (.bipush 6, 110, 0, 0, 6, [])
  | 110 => (.imul, 111, 0, 0, 0, [])
  | 111 => (.aload_n 0, 112, 0, 0, 0, [])
  | 112 => (.getfield 19, 115, 7, 1, 5, [])
  | 115 => (.iconst 0, 116, 0, 0, 0, [])
  | 116 => (.iaload, 117, 0, 0, 0, [])
  | 117 => (.isub, 118, 0, 0, 0, [])
  | 118 => (.goto 4, 121, 122, 0, 0, [])
  | 121 => (.iconst 1, 122, 0, 0, 1, [])
  | 122 => (.istore_n 3, 123, 3, 0, 0, [])
  | 123 => (.aload_n 0, 124, 0, 0, 0, [])
  | 124 => (.getfield 19, 127, 7, 1, 5, [])
  | 127 => (.iconst 4, 128, 0, 0, 4, [])
  | 128 => (.iload_n 1, 129, 1, 0, 0, [])
  | 129 => (.iload_n 3, 130, 3, 0, 0, [])
  | 130 => (.iadd, 131, 0, 0, 0, [])
  | 131 => (.aload_n 0, 132, 0, 0, 0, [])
  | 132 => (.getfield 19, 135, 7, 1, 5, [])
  | 135 => (.iconst 1, 136, 0, 0, 1, [])
  | 136 => (.iaload, 137, 0, 0, 0, [])
  | 137 => (.irem, 138, 0, 0, 0, [])
  | 138 => (.iastore, 139, 0, 0, 0, [])
  | 139 => (.aload_n 0, 140, 0, 0, 0, [])
  | 140 => (.getfield 19, 143, 7, 1, 5, [])
  | 143 => (.iconst 5, 144, 0, 0, 5, [])
  | 144 => (.iconst 0, 145, 0, 0, 0, [])
  | 145 => (.iastore, 146, 0, 0, 0, [])
  | 146 => (.return_, 147, 0, 0, 0, [])
  | _ => (.nop, 1, 0, 0, 0, [])
def kt_M_note : Nat → kx_E
  | 0 => (.aload_n 0, 1, 0, 0, 0, [])
  | 1 => (.getfield 142, 4, 7, 0, 17, [])
  | 4 => (.bipush 24, 6, 0, 0, 24, [])
  | 6 => (.if_icmp .ne 43, 9, 49, 0, 0, [])
  | 9 => (.iconst 0, 10, 0, 0, 0, [])
  | 10 => (.istore_n 1, 11, 1, 0, 0, [])
  | 11 => (.iload_n 1, 12, 1, 0, 0, [])
  | 12 => (.sipush 1058, 15, 0, 0, 1058, [])
  | 15 => (.if_icmp .ge 24, 18, 39, 0, 0, [])
  | 18 => (.aload_n 0, 19, 0, 0, 0, [])
  | 19 => (.getfield 31, 22, 7, 1, 16, [])
  | 22 => (.iload_n 1, 23, 1, 0, 0, [])
  | 23 => (.aload_n 0, 24, 0, 0, 0, [])
  | 24 => (.getfield 31, 27, 7, 1, 16, [])
  | 27 => (.iload_n 1, 28, 1, 0, 0, [])
  | 28 => (.bipush 46, 30, 0, 0, 46, [])
  | 30 => (.iadd, 31, 0, 0, 0, [])
  | 31 => (.iaload, 32, 0, 0, 0, [])
  | 32 => (.iastore, 33, 0, 0, 0, [])
  | 33 => (.iinc 1 1, 36, 1, 0, 1, [])
  | 36 => (.goto (-25), 39, 11, 0, 0, [])
  | 39 => (.aload_n 0, 40, 0, 0, 0, [])
  | 40 => (.dup, 41, 0, 0, 0, [])
  | 41 => (.getfield 142, 44, 7, 0, 17, [])
  | 44 => (.iconst 1, 45, 0, 0, 1, [])
  | 45 => (.isub, 46, 0, 0, 0, [])
  | 46 => (.putfield 142, 49, 7, 0, 17, [])
  | 49 => (.iconst 0, 50, 0, 0, 0, [])
  | 50 => (.istore_n 1, 51, 1, 0, 0, [])
  | 51 => (.iload_n 1, 52, 1, 0, 0, [])
  | 52 => (.bipush 46, 54, 0, 0, 46, [])
  | 54 => (.if_icmp .ge 29, 57, 83, 0, 0, [])
  | 57 => (.aload_n 0, 58, 0, 0, 0, [])
  | 58 => (.getfield 31, 61, 7, 1, 16, [])
  | 61 => (.bipush 46, 63, 0, 0, 46, [])
  | 63 => (.aload_n 0, 64, 0, 0, 0, [])
  | 64 => (.getfield 142, 67, 7, 0, 17, [])
  | 67 => (.imul, 68, 0, 0, 0, [])
  | 68 => (.iload_n 1, 69, 1, 0, 0, [])
  | 69 => (.iadd, 70, 0, 0, 0, [])
  | 70 => (.aload_n 0, 71, 0, 0, 0, [])
  | 71 => (.getfield 19, 74, 7, 1, 5, [])
  | 74 => (.iload_n 1, 75, 1, 0, 0, [])
  | 75 => (.iaload, 76, 0, 0, 0, [])
  | 76 => (.iastore, 77, 0, 0, 0, [])
  | 77 => (.iinc 1 1, 80, 1, 0, 1, [])
  | 80 => (.goto (-29), 83, 51, 0, 0, [])
  | 83 => (.aload_n 0, 84, 0, 0, 0, [])
  | 84 => (.dup, 85, 0, 0, 0, [])
  | 85 => (.getfield 142, 88, 7, 0, 17, [])
  | 88 => (.iconst 1, 89, 0, 0, 1, [])
  | 89 => (.iadd, 90, 0, 0, 0, [])
  | 90 => (.putfield 142, 93, 7, 0, 17, [])
  | 93 => (.return_, 94, 0, 0, 0, [])
  | _ => (.nop, 1, 0, 0, 0, [])
def kt_M_steps : Nat → kx_E
  | 0 => (.aload_n 0, 1, 0, 0, 0, [])
  | 1 => (.getfield 138, 4, 7, 2, 4, [])
  | 4 => (.ifCond .ne 6, 7, 10, 0, 0, [])
  | 7 => (.ldc 157, 9, 0, 0, (-1000002), [])
  | 9 => (.ireturn, 10, 0, 0, 0, [])
  | 10 => (.iload_n 1, 11, 1, 0, 0, [])
  | 11 => (.i2l, 12, 0, 0, 0, [])
  | 12 => (.lconst 1, 13, 0, 0, 1, [])
  | 13 => (.ldc2_w 158, 16, 0, 0, 20, [])
  | 16 => (.invokestatic 57, 19, 116, 3, 0, [])
  | 19 => (.ifCond .ne 6, 22, 25, 0, 0, [])
  | 22 => (.ldc 67, 24, 0, 0, (-1000001), [])
  | 24 => (.ireturn, 25, 0, 0, 0, [])
  | 25 => (.aload_n 0, 26, 0, 0, 0, [])
  | 26 => (.getfield 19, 29, 7, 1, 5, [])
  | 29 => (.iconst 3, 30, 0, 0, 3, [])
  | 30 => (.iaload, 31, 0, 0, 0, [])
  | 31 => (.iload_n 1, 32, 1, 0, 0, [])
  | 32 => (.iadd, 33, 0, 0, 0, [])
  | 33 => (.sipush 999, 36, 0, 0, 999, [])
  | 36 => (.if_icmp .le 6, 39, 42, 0, 0, [])
  | 39 => (.ldc 84, 41, 0, 0, (-1000003), [])
  | 41 => (.ireturn, 42, 0, 0, 0, [])
  | 42 => (.iconst 0, 43, 0, 0, 0, [])
  | 43 => (.istore_n 2, 44, 2, 0, 0, [])
  | 44 => (.iload_n 2, 45, 2, 0, 0, [])
  | 45 => (.iload_n 1, 46, 1, 0, 0, [])
  | 46 => (.if_icmp .ge 17, 49, 63, 0, 0, [])
  | 49 => (.aload_n 0, 50, 0, 0, 0, [])
  | 50 => (.invokevirtual 160, 53, 142, 1, 0, [7])
  | 53 => (.aload_n 0, 54, 0, 0, 0, [])
  | 54 => (.invokevirtual 163, 57, 141, 1, 0, [7])
  | 57 => (.iinc 2 1, 60, 2, 0, 1, [])
  | 60 => (.goto (-16), 63, 44, 0, 0, [])
  | 63 => (.aload_n 0, 64, 0, 0, 0, [])
  | 64 => (.getfield 19, 67, 7, 1, 5, [])
  | 67 => (.iconst 4, 68, 0, 0, 4, [])
  | 68 => (.iaload, 69, 0, 0, 0, [])
  | 69 => (.ireturn, 70, 0, 0, 0, [])
  | _ => (.nop, 1, 0, 0, 0, [])
def kt_M_wind : Nat → kx_E
  | 0 => (.aload_n 0, 1, 0, 0, 0, [])
  | 1 => (.getfield 138, 4, 7, 2, 4, [])
  | 4 => (.ifCond .ne 6, 7, 10, 0, 0, [])
  | 7 => (.ldc 157, 9, 0, 0, (-1000002), [])
  | 9 => (.ireturn, 10, 0, 0, 0, [])
  | 10 => (.iload_n 1, 11, 1, 0, 0, [])
  | 11 => (.i2l, 12, 0, 0, 0, [])
  | 12 => (.lconst 0, 13, 0, 0, 0, [])
  | 13 => (.ldc2_w 166, 16, 0, 0, 5, [])
  | 16 => (.invokestatic 57, 19, 116, 3, 0, [])
  | 19 => (.ifCond .ne 6, 22, 25, 0, 0, [])
  | 22 => (.ldc 67, 24, 0, 0, (-1000001), [])
  | 24 => (.ireturn, 25, 0, 0, 0, [])
  | 25 => (.aload_n 0, 26, 0, 0, 0, [])
  | 26 => (.invokevirtual 160, 29, 142, 1, 0, [7])
  | 29 => (.aload_n 0, 30, 0, 0, 0, [])
  | 30 => (.getfield 19, 33, 7, 1, 5, [])
  | 33 => (.iconst 0, 34, 0, 0, 0, [])
  | 34 => (.iaload, 35, 0, 0, 0, [])
  | 35 => (.istore_n 2, 36, 2, 0, 0, [])
  | 36 => (.aload_n 0, 37, 0, 0, 0, [])
  | 37 => (.getfield 19, 40, 7, 1, 5, [])
  | 40 => (.iconst 0, 41, 0, 0, 0, [])
  | 41 => (.iload_n 1, 42, 1, 0, 0, [])
  | 42 => (.iastore, 43, 0, 0, 0, [])
  | 43 => (.iload_n 2, 44, 2, 0, 0, [])
  | 44 => (.ireturn, 45, 0, 0, 0, [])
  | _ => (.nop, 1, 0, 0, 0, [])
def kt_M_giveTo : Nat → kx_E
  | 0 => (.aload_n 0, 1, 0, 0, 0, [])
  | 1 => (.getfield 19, 4, 7, 1, 5, [])
  | 4 => (.iconst 4, 5, 0, 0, 4, [])
  | 5 => (.iload_n 1, 6, 1, 0, 0, [])
  | 6 => (.iastore, 7, 0, 0, 0, [])
  | 7 => (.aload_n 0, 8, 0, 0, 0, [])
  | 8 => (.getfield 19, 11, 7, 1, 5, [])
  | 11 => (.iconst 5, 12, 0, 0, 5, [])
  | 12 => (.iconst 0, 13, 0, 0, 0, [])
  | 13 => (.iastore, 14, 0, 0, 0, [])
  | 14 => (.return_, 15, 0, 0, 0, [])
  | _ => (.nop, 1, 0, 0, 0, [])
def kt_M_give : Nat → kx_E
  | 0 => (.aload_n 0, 1, 0, 0, 0, [])
  | 1 => (.iload_n 1, 2, 1, 0, 0, [])
  | 2 => (.invokevirtual 168, 5, 137, 2, 0, [7])
  | 5 => (.ifCond .ne 6, 8, 11, 0, 0, [])
  | 8 => (.ldc 67, 10, 0, 0, (-1000001), [])
  | 10 => (.ireturn, 11, 0, 0, 0, [])
  | 11 => (.aload_n 0, 12, 0, 0, 0, [])
  | 12 => (.invokevirtual 160, 15, 142, 1, 0, [7])
  | 15 => (.aload_n 0, 16, 0, 0, 0, [])
  | 16 => (.getfield 19, 19, 7, 1, 5, [])
  | 19 => (.iconst 4, 20, 0, 0, 4, [])
  | 20 => (.iaload, 21, 0, 0, 0, [])
  | 21 => (.istore_n 2, 22, 2, 0, 0, [])
  | 22 => (.aload_n 0, 23, 0, 0, 0, [])
  | 23 => (.iload_n 1, 24, 1, 0, 0, [])
  | 24 => (.invokevirtual 171, 27, 145, 2, 0, [7])
  | 27 => (.iload_n 2, 28, 2, 0, 0, [])
  | 28 => (.ireturn, 29, 0, 0, 0, [])
  | _ => (.nop, 1, 0, 0, 0, [])
def kt_M_order : Nat → kx_E
  | 0 => (.aload_n 0, 1, 0, 0, 0, [])
  | 1 => (.getfield 138, 4, 7, 2, 4, [])
  | 4 => (.ifCond .ne 6, 7, 10, 0, 0, [])
  | 7 => (.ldc 157, 9, 0, 0, (-1000002), [])
  | 9 => (.ireturn, 10, 0, 0, 0, [])
  | 10 => (.iload_n 1, 11, 1, 0, 0, [])
  | 11 => (.i2l, 12, 0, 0, 0, [])
  | 12 => (.lconst 1, 13, 0, 0, 1, [])
  | 13 => (.ldc2_w 174, 16, 0, 0, 40, [])
  | 16 => (.invokestatic 57, 19, 116, 3, 0, [])
  | 19 => (.ifCond .ne 6, 22, 25, 0, 0, [])
  | 22 => (.ldc 67, 24, 0, 0, (-1000001), [])
  | 24 => (.ireturn, 25, 0, 0, 0, [])
  | 25 => (.aload_n 0, 26, 0, 0, 0, [])
  | 26 => (.getfield 19, 29, 7, 1, 5, [])
  | 29 => (.iconst 2, 30, 0, 0, 2, [])
  | 30 => (.iaload, 31, 0, 0, 0, [])
  | 31 => (.iconst 4, 32, 0, 0, 4, [])
  | 32 => (.if_icmp .ne 6, 35, 38, 0, 0, [])
  | 35 => (.ldc 84, 37, 0, 0, (-1000003), [])
  | 37 => (.ireturn, 38, 0, 0, 0, [])
  | 38 => (.aload_n 0, 39, 0, 0, 0, [])
  | 39 => (.invokevirtual 160, 42, 142, 1, 0, [7])
  | 42 => (.aload_n 0, 43, 0, 0, 0, [])
  | 43 => (.getfield 19, 46, 7, 1, 5, [])
  | 46 => (.iconst 2, 47, 0, 0, 2, [])
  | 47 => (.iaload, 48, 0, 0, 0, [])
  | 48 => (.istore_n 2, 49, 2, 0, 0, [])
  | 49 => (.aload_n 0, 50, 0, 0, 0, [])
  | 50 => (.getfield 19, 53, 7, 1, 5, [])
  | 53 => (.bipush 30, 55, 0, 0, 30, [])
  | 55 => (.iload_n 2, 56, 2, 0, 0, [])
  | 56 => (.iadd, 57, 0, 0, 0, [])
  | 57 => (.iload_n 1, 58, 1, 0, 0, [])
  | 58 => (.iastore, 59, 0, 0, 0, [])
  | 59 => (.aload_n 0, 60, 0, 0, 0, [])
  | 60 => (.getfield 19, 63, 7, 1, 5, [])
  | 63 => (.bipush 34, 65, 0, 0, 34, [])
  | 65 => (.iload_n 2, 66, 2, 0, 0, [])
  | 66 => (.iadd, 67, 0, 0, 0, [])
  | 67 => (.iload_n 1, 68, 1, 0, 0, [])
  | 68 => (.iastore, 69, 0, 0, 0, [])
  | 69 => (.aload_n 0, 70, 0, 0, 0, [])
  | 70 => (.getfield 19, 73, 7, 1, 5, [])
  | 73 => (.bipush 38, 75, 0, 0, 38, [])
  | 75 => (.iload_n 2, 76, 2, 0, 0, [])
  | 76 => (.iadd, 77, 0, 0, 0, [])
  | 77 => (.iconst 0, 78, 0, 0, 0, [])
  | 78 => (.iastore, 79, 0, 0, 0, [])
  | 79 => (.aload_n 0, 80, 0, 0, 0, [])
  | 80 => (.getfield 19, 83, 7, 1, 5, [])
  | 83 => (.bipush 42, 85, 0, 0, 42, [])
  | 85 => (.iload_n 2, 86, 2, 0, 0, [])
  | 86 => (.iadd, 87, 0, 0, 0, [])
  | 87 => (.iconst 0, 88, 0, 0, 0, [])
  | 88 => (.iastore, 89, 0, 0, 0, [])
  | 89 => (.aload_n 0, 90, 0, 0, 0, [])
  | 90 => (.getfield 19, 93, 7, 1, 5, [])
  | 93 => (.iconst 2, 94, 0, 0, 2, [])
  | 94 => (.dup2, 95, 0, 0, 0, [])
  | 95 => (.iaload, 96, 0, 0, 0, [])
  | 96 => (.iconst 1, 97, 0, 0, 1, [])
  | 97 => (.iadd, 98, 0, 0, 0, [])
  | 98 => (.iastore, 99, 0, 0, 0, [])
  | 99 => (.iload_n 2, 100, 2, 0, 0, [])
  | 100 => (.ireturn, 101, 0, 0, 0, [])
  | _ => (.nop, 1, 0, 0, 0, [])
def kt_M_back : Nat → kx_E
  | 0 => (.aload_n 0, 1, 0, 0, 0, [])
  | 1 => (.iload_n 1, 2, 1, 0, 0, [])
  | 2 => (.invokevirtual 176, 5, 138, 2, 0, [7])
  | 5 => (.ifCond .ne 6, 8, 11, 0, 0, [])
  | 8 => (.ldc 67, 10, 0, 0, (-1000001), [])
  | 10 => (.ireturn, 11, 0, 0, 0, [])
  | 11 => (.aload_n 0, 12, 0, 0, 0, [])
  | 12 => (.getfield 19, 15, 7, 1, 5, [])
  | 15 => (.bipush 38, 17, 0, 0, 38, [])
  | 17 => (.iload_n 1, 18, 1, 0, 0, [])
  | 18 => (.iadd, 19, 0, 0, 0, [])
  | 19 => (.iaload, 20, 0, 0, 0, [])
  | 20 => (.ifCond .eq 6, 23, 26, 0, 0, [])
  | 23 => (.ldc 157, 25, 0, 0, (-1000002), [])
  | 25 => (.ireturn, 26, 0, 0, 0, [])
  | 26 => (.aload_n 0, 27, 0, 0, 0, [])
  | 27 => (.invokevirtual 160, 30, 142, 1, 0, [7])
  | 30 => (.aload_n 0, 31, 0, 0, 0, [])
  | 31 => (.getfield 19, 34, 7, 1, 5, [])
  | 34 => (.bipush 38, 36, 0, 0, 38, [])
  | 36 => (.iload_n 1, 37, 1, 0, 0, [])
  | 37 => (.iadd, 38, 0, 0, 0, [])
  | 38 => (.iconst 2, 39, 0, 0, 2, [])
  | 39 => (.iastore, 40, 0, 0, 0, [])
  | 40 => (.aload_n 0, 41, 0, 0, 0, [])
  | 41 => (.getfield 19, 44, 7, 1, 5, [])
  | 44 => (.bipush 34, 46, 0, 0, 34, [])
  | 46 => (.iload_n 1, 47, 1, 0, 0, [])
  | 47 => (.iadd, 48, 0, 0, 0, [])
  | 48 => (.iaload, 49, 0, 0, 0, [])
  | 49 => (.ireturn, 50, 0, 0, 0, [])
  | _ => (.nop, 1, 0, 0, 0, [])
def kt_M_undo : Nat → kx_E
  | 0 => (.aload_n 0, 1, 0, 0, 0, [])
  | 1 => (.getfield 142, 4, 7, 0, 17, [])
  | 4 => (.ifCond .ne 6, 7, 10, 0, 0, [])
  | 7 => (.ldc 157, 9, 0, 0, (-1000002), [])
  | 9 => (.ireturn, 10, 0, 0, 0, [])
  | 10 => (.aload_n 0, 11, 0, 0, 0, [])
  | 11 => (.dup, 12, 0, 0, 0, [])
  | 12 => (.getfield 142, 15, 7, 0, 17, [])
  | 15 => (.iconst 1, 16, 0, 0, 1, [])
  | 16 => (.isub, 17, 0, 0, 0, [])
  | 17 => (.putfield 142, 20, 7, 0, 17, [])
  | 20 => (.iconst 0, 21, 0, 0, 0, [])
  | 21 => (.istore_n 1, 22, 1, 0, 0, [])
  | 22 => (.iload_n 1, 23, 1, 0, 0, [])
  | 23 => (.bipush 46, 25, 0, 0, 46, [])
  | 25 => (.if_icmp .ge 29, 28, 54, 0, 0, [])
  | 28 => (.aload_n 0, 29, 0, 0, 0, [])
  | 29 => (.getfield 19, 32, 7, 1, 5, [])
  | 32 => (.iload_n 1, 33, 1, 0, 0, [])
  | 33 => (.aload_n 0, 34, 0, 0, 0, [])
  | 34 => (.getfield 31, 37, 7, 1, 16, [])
  | 37 => (.bipush 46, 39, 0, 0, 46, [])
  | 39 => (.aload_n 0, 40, 0, 0, 0, [])
  | 40 => (.getfield 142, 43, 7, 0, 17, [])
  | 43 => (.imul, 44, 0, 0, 0, [])
  | 44 => (.iload_n 1, 45, 1, 0, 0, [])
  | 45 => (.iadd, 46, 0, 0, 0, [])
  | 46 => (.iaload, 47, 0, 0, 0, [])
  | 47 => (.iastore, 48, 0, 0, 0, [])
  | 48 => (.iinc 1 1, 51, 1, 0, 1, [])
  | 51 => (.goto (-29), 54, 22, 0, 0, [])
  | 54 => (.aload_n 0, 55, 0, 0, 0, [])
  | 55 => (.getfield 142, 58, 7, 0, 17, [])
  | 58 => (.ireturn, 59, 0, 0, 0, [])
  | _ => (.nop, 1, 0, 0, 0, [])
end
section
def kt_M_head : Nat → kx_E
  | 0 => (.aload_n 0, 1, 0, 0, 0, [])
  | 1 => (.iload_n 1, 2, 1, 0, 0, [])
  | 2 => (.invokevirtual 168, 5, 137, 2, 0, [7])
  | 5 => (.ifCond .ne 6, 8, 11, 0, 0, [])
  | 8 => (.ldc 67, 10, 0, 0, (-1000001), [])
  | 10 => (.ireturn, 11, 0, 0, 0, [])
  | 11 => (.iload_n 2, 12, 2, 0, 0, [])
  | 12 => (.tableswitch 78 0 3 #[32, 42, 52, 68], 44, 90, 0, 0, [44, 54, 64, 80])
  | 44 => (.aload_n 0, 45, 0, 0, 0, [])
  | 45 => (.getfield 19, 48, 7, 1, 5, [])
  | 48 => (.bipush 12, 50, 0, 0, 12, [])
  | 50 => (.iload_n 1, 51, 1, 0, 0, [])
  | 51 => (.iadd, 52, 0, 0, 0, [])
  | 52 => (.iaload, 53, 0, 0, 0, [])
  | 53 => (.ireturn, 54, 0, 0, 0, [])
  | 54 => (.aload_n 0, 55, 0, 0, 0, [])
  | 55 => (.getfield 19, 58, 7, 1, 5, [])
  | 58 => (.bipush 18, 60, 0, 0, 18, [])
  | 60 => (.iload_n 1, 61, 1, 0, 0, [])
  | 61 => (.iadd, 62, 0, 0, 0, [])
  | 62 => (.iaload, 63, 0, 0, 0, [])
  | 63 => (.ireturn, 64, 0, 0, 0, [])
  | 64 => (.aload_n 0, 65, 0, 0, 0, [])
  | 65 => (.getfield 19, 68, 7, 1, 5, [])
  | 68 => (.iconst 4, 69, 0, 0, 4, [])
  | 69 => (.iaload, 70, 0, 0, 0, [])
  | 70 => (.iload_n 1, 71, 1, 0, 0, [])
  | 71 => (.if_icmp .ne 7, 74, 78, 0, 0, [])
  | 74 => (.iconst 1, 75, 0, 0, 1, [])
  | 75 => (.goto 4, 78, 79, 0, 0, [])
  | 78 => (.iconst 0, 79, 0, 0, 0, [])
  | 79 => (.ireturn, 80, 0, 0, 0, [])
  | 80 => (.aload_n 0, 81, 0, 0, 0, [])
  | 81 => (.getfield 19, 84, 7, 1, 5, [])
  | 84 => (.bipush 24, 86, 0, 0, 24, [])
  | 86 => (.iload_n 1, 87, 1, 0, 0, [])
  | 87 => (.iadd, 88, 0, 0, 0, [])
  | 88 => (.iaload, 89, 0, 0, 0, [])
  | 89 => (.ireturn, 90, 0, 0, 0, [])
  | 90 => (.ldc 67, 92, 0, 0, (-1000001), [])
  | 92 => (.ireturn, 93, 0, 0, 0, [])
  | _ => (.nop, 1, 0, 0, 0, [])
def kt_M_orderHas : Nat → kx_E
  | 0 => (.aload_n 0, 1, 0, 0, 0, [])
  | 1 => (.iload_n 1, 2, 1, 0, 0, [])
  | 2 => (.invokevirtual 176, 5, 138, 2, 0, [7])
  | 5 => (.ifCond .eq 15, 8, 20, 0, 0, [])
  | 8 => (.iload_n 2, 9, 2, 0, 0, [])
  | 9 => (.i2l, 10, 0, 0, 0, [])
  | 10 => (.lconst 0, 11, 0, 0, 0, [])
  | 11 => (.ldc2_w 65, 14, 0, 0, 2, [])
  | 14 => (.invokestatic 57, 17, 116, 3, 0, [])
  | 17 => (.ifCond .ne 6, 20, 23, 0, 0, [])
  | 20 => (.ldc 67, 22, 0, 0, (-1000001), [])
  | 22 => (.ireturn, 23, 0, 0, 0, [])
  | 23 => (.iload_n 2, 24, 2, 0, 0, [])
  | 24 => (.ifCond .ne 15, 27, 39, 0, 0, [])
  | 27 => (.aload_n 0, 28, 0, 0, 0, [])
  | 28 => (.getfield 19, 31, 7, 1, 5, [])
  | 31 => (.bipush 30, 33, 0, 0, 30, [])
  | 33 => (.iload_n 1, 34, 1, 0, 0, [])
  | 34 => (.iadd, 35, 0, 0, 0, [])
  | 35 => (.iaload, 36, 0, 0, 0, [])
  | 36 => (.goto 29, 39, 65, 0, 0, [])
  | 39 => (.iload_n 2, 40, 2, 0, 0, [])
  | 40 => (.iconst 1, 41, 0, 0, 1, [])
  | 41 => (.if_icmp .ne 15, 44, 56, 0, 0, [])
  | 44 => (.aload_n 0, 45, 0, 0, 0, [])
  | 45 => (.getfield 19, 48, 7, 1, 5, [])
  | 48 => (.bipush 34, 50, 0, 0, 34, [])
  | 50 => (.iload_n 1, 51, 1, 0, 0, [])
  | 51 => (.iadd, 52, 0, 0, 0, [])
  | 52 => (.iaload, 53, 0, 0, 0, [])
  | 53 => (.goto 12, 56, 65, 0, 0, [])
  | 56 => (.aload_n 0, 57, 0, 0, 0, [])
  | 57 => (.getfield 19, 60, 7, 1, 5, [])
  | 60 => (.bipush 38, 62, 0, 0, 38, [])
  | 62 => (.iload_n 1, 63, 1, 0, 0, [])
  | 63 => (.iadd, 64, 0, 0, 0, [])
  | 64 => (.iaload, 65, 0, 0, 0, [])
  | 65 => (.ireturn, 66, 0, 0, 0, [])
  | _ => (.nop, 1, 0, 0, 0, [])
def kt_M_hat : Nat → kx_E
  | 0 => (.aload_n 0, 1, 0, 0, 0, [])
  | 1 => (.getfield 138, 4, 7, 2, 4, [])
  | 4 => (.ifCond .ne 6, 7, 10, 0, 0, [])
  | 7 => (.ldc 157, 9, 0, 0, (-1000002), [])
  | 9 => (.ireturn, 10, 0, 0, 0, [])
  | 10 => (.iload_n 1, 11, 1, 0, 0, [])
  | 11 => (.tableswitch 57 0 3 #[29, 36, 43, 50], 40, 68, 0, 0, [40, 47, 54, 61])
  | 40 => (.aload_n 0, 41, 0, 0, 0, [])
  | 41 => (.getfield 19, 44, 7, 1, 5, [])
  | 44 => (.iconst 4, 45, 0, 0, 4, [])
  | 45 => (.iaload, 46, 0, 0, 0, [])
  | 46 => (.ireturn, 47, 0, 0, 0, [])
  | 47 => (.aload_n 0, 48, 0, 0, 0, [])
  | 48 => (.getfield 19, 51, 7, 1, 5, [])
  | 51 => (.iconst 5, 52, 0, 0, 5, [])
  | 52 => (.iaload, 53, 0, 0, 0, [])
  | 53 => (.ireturn, 54, 0, 0, 0, [])
  | 54 => (.aload_n 0, 55, 0, 0, 0, [])
  | 55 => (.getfield 19, 58, 7, 1, 5, [])
  | 58 => (.iconst 0, 59, 0, 0, 0, [])
  | 59 => (.iaload, 60, 0, 0, 0, [])
  | 60 => (.ireturn, 61, 0, 0, 0, [])
  | 61 => (.aload_n 0, 62, 0, 0, 0, [])
  | 62 => (.getfield 19, 65, 7, 1, 5, [])
  | 65 => (.iconst 3, 66, 0, 0, 3, [])
  | 66 => (.iaload, 67, 0, 0, 0, [])
  | 67 => (.ireturn, 68, 0, 0, 0, [])
  | 68 => (.ldc 67, 70, 0, 0, (-1000001), [])
  | 70 => (.ireturn, 71, 0, 0, 0, [])
  | _ => (.nop, 1, 0, 0, 0, [])
def kt_M_putAside : Nat → kx_E
  | 0 => (.iconst 0, 1, 0, 0, 0, [])
  | 1 => (.istore_n 1, 2, 1, 0, 0, [])
  | 2 => (.iload_n 1, 3, 1, 0, 0, [])
  | 3 => (.bipush 46, 5, 0, 0, 46, [])
  | 5 => (.if_icmp .ge 21, 8, 26, 0, 0, [])
  | 8 => (.aload_n 0, 9, 0, 0, 0, [])
  | 9 => (.getfield 34, 12, 7, 1, 18, [])
  | 12 => (.iload_n 1, 13, 1, 0, 0, [])
  | 13 => (.aload_n 0, 14, 0, 0, 0, [])
  | 14 => (.getfield 19, 17, 7, 1, 5, [])
  | 17 => (.iload_n 1, 18, 1, 0, 0, [])
  | 18 => (.iaload, 19, 0, 0, 0, [])
  | 19 => (.iastore, 20, 0, 0, 0, [])
  | 20 => (.iinc 1 1, 23, 1, 0, 1, [])
  | 23 => (.goto (-21), 26, 2, 0, 0, [])
  | 26 => (.return_, 27, 0, 0, 0, [])
  | _ => (.nop, 1, 0, 0, 0, [])
def kt_M_takeBack : Nat → kx_E
  | 0 => (.iconst 0, 1, 0, 0, 0, [])
  | 1 => (.istore_n 1, 2, 1, 0, 0, [])
  | 2 => (.iload_n 1, 3, 1, 0, 0, [])
  | 3 => (.bipush 46, 5, 0, 0, 46, [])
  | 5 => (.if_icmp .ge 21, 8, 26, 0, 0, [])
  | 8 => (.aload_n 0, 9, 0, 0, 0, [])
  | 9 => (.getfield 19, 12, 7, 1, 5, [])
  | 12 => (.iload_n 1, 13, 1, 0, 0, [])
  | 13 => (.aload_n 0, 14, 0, 0, 0, [])
  | 14 => (.getfield 34, 17, 7, 1, 18, [])
  | 17 => (.iload_n 1, 18, 1, 0, 0, [])
  | 18 => (.iaload, 19, 0, 0, 0, [])
  | 19 => (.iastore, 20, 0, 0, 0, [])
  | 20 => (.iinc 1 1, 23, 1, 0, 1, [])
  | 23 => (.goto (-21), 26, 2, 0, 0, [])
  | 26 => (.return_, 27, 0, 0, 0, [])
  | _ => (.nop, 1, 0, 0, 0, [])
def kt_M_goOn : Nat → kx_E
  | 0 => (.iconst 0, 1, 0, 0, 0, [])
  | 1 => (.istore_n 2, 2, 2, 0, 0, [])
  | 2 => (.iload_n 2, 3, 2, 0, 0, [])
  | 3 => (.iload_n 1, 4, 1, 0, 0, [])
  | 4 => (.if_icmp .ge 13, 7, 17, 0, 0, [])
  | 7 => (.aload_n 0, 8, 0, 0, 0, [])
  | 8 => (.invokevirtual 163, 11, 141, 1, 0, [7])
  | 11 => (.iinc 2 1, 14, 2, 0, 1, [])
  | 14 => (.goto (-12), 17, 2, 0, 0, [])
  | 17 => (.return_, 18, 0, 0, 0, [])
  | _ => (.nop, 1, 0, 0, 0, [])
def kt_M_isFar : Nat → kx_E
  | 0 => (.iload_n 0, 1, 0, 0, 0, [])
  | 1 => (.i2l, 2, 0, 0, 0, [])
  | 2 => (.lconst 0, 3, 0, 0, 0, [])
  | 3 => (.ldc2_w 179, 6, 0, 0, 60, [])
  | 6 => (.invokestatic 57, 9, 116, 3, 0, [])
  | 9 => (.ireturn, 10, 1, 0, 0, [])
  | _ => (.nop, 1, 0, 0, 0, [])
def kt_M_who : Nat → kx_E
  | 0 => (.aload_n 0, 1, 0, 0, 0, [])
  | 1 => (.getfield 138, 4, 7, 2, 4, [])
  | 4 => (.ifCond .ne 6, 7, 10, 0, 0, [])
  | 7 => (.ldc 157, 9, 0, 0, (-1000002), [])
  | 9 => (.ireturn, 10, 0, 0, 0, [])
  | 10 => (.iload_n 1, 11, 1, 0, 0, [])
  | 11 => (.invokestatic 181, 14, 156, 1, 0, [])
  | 14 => (.ifCond .ne 6, 17, 20, 0, 0, [])
  | 17 => (.ldc 67, 19, 0, 0, (-1000001), [])
  | 19 => (.ireturn, 20, 0, 0, 0, [])
  | 20 => (.aload_n 0, 21, 0, 0, 0, [])
  | 21 => (.invokevirtual 184, 24, 153, 1, 0, [7])
  | 24 => (.aload_n 0, 25, 0, 0, 0, [])
  | 25 => (.iload_n 1, 26, 1, 0, 0, [])
  | 26 => (.invokevirtual 187, 29, 155, 2, 0, [7])
  | 29 => (.aload_n 0, 30, 0, 0, 0, [])
  | 30 => (.getfield 19, 33, 7, 1, 5, [])
  | 33 => (.iconst 4, 34, 0, 0, 4, [])
  | 34 => (.iaload, 35, 0, 0, 0, [])
  | 35 => (.istore_n 2, 36, 2, 0, 0, [])
  | 36 => (.aload_n 0, 37, 0, 0, 0, [])
  | 37 => (.invokevirtual 190, 40, 154, 1, 0, [7])
  | 40 => (.iload_n 2, 41, 2, 0, 0, [])
  | 41 => (.ireturn, 42, 0, 0, 0, [])
  | _ => (.nop, 1, 0, 0, 0, [])
def kt_M_gets : Nat → kx_E
  | 0 => (.aload_n 0, 1, 0, 0, 0, [])
  | 1 => (.iload_n 1, 2, 1, 0, 0, [])
  | 2 => (.invokevirtual 168, 5, 137, 2, 0, [7])
  | 5 => (.ifCond .ne 6, 8, 11, 0, 0, [])
  | 8 => (.ldc 67, 10, 0, 0, (-1000001), [])
  | 10 => (.ireturn, 11, 0, 0, 0, [])
  | 11 => (.aload_n 0, 12, 0, 0, 0, [])
  | 12 => (.invokevirtual 184, 15, 153, 1, 0, [7])
  | 15 => (.iconst 0, 16, 0, 0, 0, [])
  | 16 => (.istore_n 2, 17, 2, 0, 0, [])
  | 17 => (.iload_n 2, 18, 2, 0, 0, [])
  | 18 => (.bipush 60, 20, 0, 0, 60, [])
  | 20 => (.if_icmp .ge 23, 23, 43, 0, 0, [])
  | 23 => (.aload_n 0, 24, 0, 0, 0, [])
  | 24 => (.getfield 19, 27, 7, 1, 5, [])
  | 27 => (.iconst 4, 28, 0, 0, 4, [])
  | 28 => (.iaload, 29, 0, 0, 0, [])
  | 29 => (.iload_n 1, 30, 1, 0, 0, [])
  | 30 => (.if_icmp .eq 13, 33, 43, 0, 0, [])
  | 33 => (.aload_n 0, 34, 0, 0, 0, [])
  | 34 => (.invokevirtual 163, 37, 141, 1, 0, [7])
  | 37 => (.iinc 2 1, 40, 2, 0, 1, [])
  | 40 => (.goto (-23), 43, 17, 0, 0, [])
  | 43 => (.aload_n 0, 44, 0, 0, 0, [])
  | 44 => (.getfield 19, 47, 7, 1, 5, [])
  | 47 => (.iconst 4, 48, 0, 0, 4, [])
  | 48 => (.iaload, 49, 0, 0, 0, [])
  | 49 => (.iload_n 1, 50, 1, 0, 0, [])
  | 50 => (.if_icmp .ne 7, 53, 57, 0, 0, [])
  | 53 => (.iconst 1, 54, 0, 0, 1, [])
  | 54 => (.goto 4, 57, 58, 0, 0, [])
  | 57 => (.iconst 0, 58, 0, 0, 0, [])
  | 58 => (.istore_n 3, 59, 3, 0, 0, [])
  | 59 => (.aload_n 0, 60, 0, 0, 0, [])
  | 60 => (.invokevirtual 190, 63, 154, 1, 0, [7])
  | 63 => (.iload_n 3, 64, 3, 0, 0, [])
  | 64 => (.ifCond .eq 7, 67, 71, 0, 0, [])
  | 67 => (.iload_n 2, 68, 2, 0, 0, [])
  | 68 => (.goto 5, 71, 73, 0, 0, [])
  | 71 => (.ldc 193, 73, 0, 0, (-1000000), [])
  | 73 => (.ireturn, 74, 0, 0, 0, [])
  | _ => (.nop, 1, 0, 0, 0, [])
def kt_M_ever : Nat → kx_E
  | 0 => (.aload_n 0, 1, 0, 0, 0, [])
  | 1 => (.getfield 138, 4, 7, 2, 4, [])
  | 4 => (.ifCond .ne 6, 7, 10, 0, 0, [])
  | 7 => (.ldc 157, 9, 0, 0, (-1000002), [])
  | 9 => (.ireturn, 10, 0, 0, 0, [])
  | 10 => (.iload_n 1, 11, 1, 0, 0, [])
  | 11 => (.invokestatic 181, 14, 156, 1, 0, [])
  | 14 => (.ifCond .ne 6, 17, 20, 0, 0, [])
  | 17 => (.ldc 67, 19, 0, 0, (-1000001), [])
  | 19 => (.ireturn, 20, 0, 0, 0, [])
  | 20 => (.aload_n 0, 21, 0, 0, 0, [])
  | 21 => (.invokevirtual 184, 24, 153, 1, 0, [7])
  | 24 => (.iconst 1, 25, 0, 0, 1, [])
  | 25 => (.aload_n 0, 26, 0, 0, 0, [])
  | 26 => (.getfield 19, 29, 7, 1, 5, [])
  | 29 => (.iconst 4, 30, 0, 0, 4, [])
  | 30 => (.iaload, 31, 0, 0, 0, [])
  | 31 => (.ishl, 32, 0, 0, 0, [])
  | 32 => (.istore_n 2, 33, 2, 0, 0, [])
  | 33 => (.iconst 0, 34, 0, 0, 0, [])
  | 34 => (.istore_n 3, 35, 3, 0, 0, [])
  | 35 => (.iload_n 3, 36, 3, 0, 0, [])
  | 36 => (.iload_n 1, 37, 1, 0, 0, [])
  | 37 => (.if_icmp .ge 24, 40, 61, 0, 0, [])
  | 40 => (.aload_n 0, 41, 0, 0, 0, [])
  | 41 => (.invokevirtual 163, 44, 141, 1, 0, [7])
  | 44 => (.iload_n 2, 45, 2, 0, 0, [])
  | 45 => (.iconst 1, 46, 0, 0, 1, [])
  | 46 => (.aload_n 0, 47, 0, 0, 0, [])
  | 47 => (.getfield 19, 50, 7, 1, 5, [])
  | 50 => (.iconst 4, 51, 0, 0, 4, [])
  | 51 => (.iaload, 52, 0, 0, 0, [])
  | 52 => (.ishl, 53, 0, 0, 0, [])
  | 53 => (.ior, 54, 0, 0, 0, [])
  | 54 => (.istore_n 2, 55, 2, 0, 0, [])
  | 55 => (.iinc 3 1, 58, 3, 0, 1, [])
  | 58 => (.goto (-23), 61, 35, 0, 0, [])
  | 61 => (.aload_n 0, 62, 0, 0, 0, [])
  | 62 => (.invokevirtual 190, 65, 154, 1, 0, [7])
  | 65 => (.iload_n 2, 66, 2, 0, 0, [])
  | 66 => (.ireturn, 67, 0, 0, 0, [])
  | _ => (.nop, 1, 0, 0, 0, [])
def kt_M_isAlike : Nat → kx_E
  | 0 => (.iconst 1, 1, 0, 0, 1, [])
  | 1 => (.istore_n 3, 2, 3, 0, 0, [])
  | 2 => (.iconst 0, 3, 0, 0, 0, [])
  | 3 => (.istore 4, 5, 4, 0, 0, [])
  | 5 => (.iload 4, 7, 4, 0, 0, [])
  | 7 => (.bipush 6, 9, 0, 0, 6, [])
  | 9 => (.if_icmp .ge 46, 12, 55, 0, 0, [])
  | 12 => (.iload_n 3, 13, 3, 0, 0, [])
  | 13 => (.ifCond .eq 34, 16, 47, 0, 0, [])
  | 16 => (.aload_n 0, 17, 0, 0, 0, [])
  | 17 => (.getfield 37, 20, 7, 1, 19, [])
  | 20 => (.bipush 6, 22, 0, 0, 6, [])
  | 22 => (.iload_n 1, 23, 1, 0, 0, [])
  | 23 => (.imul, 24, 0, 0, 0, [])
  | 24 => (.iload 4, 26, 4, 0, 0, [])
  | 26 => (.iadd, 27, 0, 0, 0, [])
  | 27 => (.iaload, 28, 0, 0, 0, [])
  | 28 => (.aload_n 0, 29, 0, 0, 0, [])
  | 29 => (.getfield 37, 32, 7, 1, 19, [])
  | 32 => (.bipush 6, 34, 0, 0, 6, [])
  | 34 => (.iload_n 2, 35, 2, 0, 0, [])
  | 35 => (.imul, 36, 0, 0, 0, [])
  | 36 => (.iload 4, 38, 4, 0, 0, [])
  | 38 => (.iadd, 39, 0, 0, 0, [])
  | 39 => (.iaload, 40, 0, 0, 0, [])
  | 40 => (.if_icmp .ne 7, 43, 47, 0, 0, [])
  | 43 => (.iconst 1, 44, 0, 0, 1, [])
  | 44 => (.goto 4, 47, 48, 0, 0, [])
  | 47 => (.iconst 0, 48, 0, 0, 0, [])
  | 48 => (.istore_n 3, 49, 3, 0, 0, [])
  | 49 => (.iinc 4 1, 52, 4, 0, 1, [])
  | 52 => (.goto (-47), 55, 5, 0, 0, [])
  | 55 => (.iload_n 3, 56, 3, 0, 0, [])
  | 56 => (.ireturn, 57, 1, 0, 0, [])
  | _ => (.nop, 1, 0, 0, 0, [])
def kt_M_round : Nat → kx_E
  | 0 => (.aload_n 0, 1, 0, 0, 0, [])
  | 1 => (.getfield 138, 4, 7, 2, 4, [])
  | 4 => (.ifCond .ne 6, 7, 10, 0, 0, [])
  | 7 => (.ldc 157, 9, 0, 0, (-1000002), [])
  | 9 => (.ireturn, 10, 0, 0, 0, [])
  | 10 => (.iload_n 1, 11, 1, 0, 0, [])
  | 11 => (.i2l, 12, 0, 0, 0, [])
  | 12 => (.lconst 0, 13, 0, 0, 0, [])
  | 13 => (.lconst 1, 14, 0, 0, 1, [])
  | 14 => (.invokestatic 57, 17, 116, 3, 0, [])
  | 17 => (.ifCond .ne 6, 20, 23, 0, 0, [])
  | 20 => (.ldc 67, 22, 0, 0, (-1000001), [])
  | 22 => (.ireturn, 23, 0, 0, 0, [])
  | 23 => (.aload_n 0, 24, 0, 0, 0, [])
  | 24 => (.invokevirtual 184, 27, 153, 1, 0, [7])
  | 27 => (.iconst 0, 28, 0, 0, 0, [])
  | 28 => (.istore_n 2, 29, 2, 0, 0, [])
  | 29 => (.iload_n 2, 30, 2, 0, 0, [])
  | 30 => (.bipush 60, 32, 0, 0, 60, [])
  | 32 => (.if_icmp .gt 94, 35, 126, 0, 0, [])
  | 35 => (.aload_n 0, 36, 0, 0, 0, [])
  | 36 => (.getfield 37, 39, 7, 1, 19, [])
  | 39 => (.bipush 6, 41, 0, 0, 6, [])
  | 41 => (.iload_n 2, 42, 2, 0, 0, [])
  | 42 => (.imul, 43, 0, 0, 0, [])
  | 43 => (.aload_n 0, 44, 0, 0, 0, [])
  | 44 => (.getfield 19, 47, 7, 1, 5, [])
  | 47 => (.iconst 4, 48, 0, 0, 4, [])
  | 48 => (.iaload, 49, 0, 0, 0, [])
  | 49 => (.iastore, 50, 0, 0, 0, [])
  | 50 => (.aload_n 0, 51, 0, 0, 0, [])
  | 51 => (.getfield 37, 54, 7, 1, 19, [])
  | 54 => (.bipush 6, 56, 0, 0, 6, [])
  | 56 => (.iload_n 2, 57, 2, 0, 0, [])
  | 57 => (.imul, 58, 0, 0, 0, [])
  | 58 => (.iconst 1, 59, 0, 0, 1, [])
  | 59 => (.iadd, 60, 0, 0, 0, [])
  | 60 => (.aload_n 0, 61, 0, 0, 0, [])
  | 61 => (.getfield 19, 64, 7, 1, 5, [])
  | 64 => (.iconst 5, 65, 0, 0, 5, [])
  | 65 => (.iaload, 66, 0, 0, 0, [])
  | 66 => (.iastore, 67, 0, 0, 0, [])
  | 67 => (.iconst 0, 68, 0, 0, 0, [])
  | 68 => (.istore_n 3, 69, 3, 0, 0, [])
  | 69 => (.iload_n 3, 70, 3, 0, 0, [])
  | 70 => (.iconst 4, 71, 0, 0, 4, [])
  | 71 => (.if_icmp .ge 45, 74, 116, 0, 0, [])
  | 74 => (.aload_n 0, 75, 0, 0, 0, [])
  | 75 => (.getfield 37, 78, 7, 1, 19, [])
  | 78 => (.bipush 6, 80, 0, 0, 6, [])
  | 80 => (.iload_n 2, 81, 2, 0, 0, [])
  | 81 => (.imul, 82, 0, 0, 0, [])
  | 82 => (.iconst 2, 83, 0, 0, 2, [])
  | 83 => (.iadd, 84, 0, 0, 0, [])
  | 84 => (.iload_n 3, 85, 3, 0, 0, [])
  | 85 => (.iadd, 86, 0, 0, 0, [])
  | 86 => (.iload_n 3, 87, 3, 0, 0, [])
  | 87 => (.aload_n 0, 88, 0, 0, 0, [])
  | 88 => (.getfield 19, 91, 7, 1, 5, [])
  | 91 => (.iconst 2, 92, 0, 0, 2, [])
  | 92 => (.iaload, 93, 0, 0, 0, [])
  | 93 => (.if_icmp .ge 15, 96, 108, 0, 0, [])
  | 96 => (.aload_n 0, 97, 0, 0, 0, [])
  | 97 => (.getfield 19, 100, 7, 1, 5, [])
  | 100 => (.bipush 34, 102, 0, 0, 34, [])
  | 102 => (.iload_n 3, 103, 3, 0, 0, [])
  | 103 => (.iadd, 104, 0, 0, 0, [])
  | 104 => (.iaload, 105, 0, 0, 0, [])
  | 105 => (.goto 4, 108, 109, 0, 0, [])
  | 108 => (.iconst 0, 109, 0, 0, 0, [])
  | 109 => (.iastore, 110, 0, 0, 0, [])
  | 110 => (.iinc 3 1, 113, 3, 0, 1, [])
  | 113 => (.goto (-44), 116, 69, 0, 0, [])
  | 116 => (.aload_n 0, 117, 0, 0, 0, [])
  | 117 => (.invokevirtual 163, 120, 141, 1, 0, [7])
  | 120 => (.iinc 2 1, 123, 2, 0, 1, [])
  | 123 => (.goto (-94), 126, 29, 0, 0, [])
  | 126 => (.aload_n 0, 127, 0, 0, 0, [])
  | 127 => (.invokevirtual 190, 130, 154, 1, 0, [7])
  | 130 => (.iconst 1, 131, 0, 0, 1, [])
  | 131 => (.istore_n 2, 132, 2, 0, 0, [])
  | 132 => (.iload_n 2, 133, 2, 0, 0, [])
  | 133 => (.bipush 60, 135, 0, 0, 60, [])
  | 135 => (.if_icmp .gt 41, 138, 176, 0, 0, [])
  | 138 => (.iconst 0, 139, 0, 0, 0, [])
  | 139 => (.istore_n 3, 140, 3, 0, 0, [])
  | 140 => (.iload_n 3, 141, 3, 0, 0, [])
  | 141 => (.iload_n 2, 142, 2, 0, 0, [])
  | 142 => (.if_icmp .ge 28, 145, 170, 0, 0, [])
  | 145 => (.aload_n 0, 146, 0, 0, 0, [])
  | 146 => (.iload_n 3, 147, 3, 0, 0, [])
  | 147 => (.iload_n 2, 148, 2, 0, 0, [])
  | 148 => (.invokevirtual 194, 151, 160, 3, 0, [7])
  | 151 => (.ifCond .eq 13, 154, 164, 0, 0, [])
  | 154 => (.iload_n 1, 155, 1, 0, 0, [])
  | 155 => (.ifCond .ne 7, 158, 162, 0, 0, [])
  | 158 => (.iload_n 2, 159, 2, 0, 0, [])
  | 159 => (.goto 4, 162, 163, 0, 0, [])
  | 162 => (.iload_n 3, 163, 3, 0, 0, [])
  | 163 => (.ireturn, 164, 0, 0, 0, [])
  | 164 => (.iinc 3 1, 167, 3, 0, 1, [])
  | 167 => (.goto (-27), 170, 140, 0, 0, [])
  | 170 => (.iinc 2 1, 173, 2, 0, 1, [])
  | 173 => (.goto (-41), 176, 132, 0, 0, [])
  | 176 => (.ldc 193, 178, 0, 0, (-1000000), [])
  | 178 => (.ireturn, 179, 0, 0, 0, [])
  | _ => (.nop, 1, 0, 0, 0, [])
def kt_M_doneIn : Nat → kx_E
  | 0 => (.iconst 0, 1, 0, 0, 0, [])
  | 1 => (.istore_n 2, 2, 2, 0, 0, [])
  | 2 => (.iload_n 2, 3, 2, 0, 0, [])
  | 3 => (.bipush 60, 5, 0, 0, 60, [])
  | 5 => (.if_icmp .ge 25, 8, 30, 0, 0, [])
  | 8 => (.aload_n 0, 9, 0, 0, 0, [])
  | 9 => (.getfield 19, 12, 7, 1, 5, [])
  | 12 => (.bipush 38, 14, 0, 0, 38, [])
  | 14 => (.iload_n 1, 15, 1, 0, 0, [])
  | 15 => (.iadd, 16, 0, 0, 0, [])
  | 16 => (.iaload, 17, 0, 0, 0, [])
  | 17 => (.ifCond .ne 13, 20, 30, 0, 0, [])
  | 20 => (.aload_n 0, 21, 0, 0, 0, [])
  | 21 => (.invokevirtual 163, 24, 141, 1, 0, [7])
  | 24 => (.iinc 2 1, 27, 2, 0, 1, [])
  | 27 => (.goto (-25), 30, 2, 0, 0, [])
  | 30 => (.aload_n 0, 31, 0, 0, 0, [])
  | 31 => (.getfield 19, 34, 7, 1, 5, [])
  | 34 => (.bipush 38, 36, 0, 0, 38, [])
  | 36 => (.iload_n 1, 37, 1, 0, 0, [])
  | 37 => (.iadd, 38, 0, 0, 0, [])
  | 38 => (.iaload, 39, 0, 0, 0, [])
  | 39 => (.iconst 1, 40, 0, 0, 1, [])
  | 40 => (.if_icmp .ne 7, 43, 47, 0, 0, [])
  | 43 => (.iconst 1, 44, 0, 0, 1, [])
  | 44 => (.goto 4, 47, 48, 0, 0, [])
  | 47 => (.iconst 0, 48, 0, 0, 0, [])
  | 48 => (.istore_n 3, 49, 3, 0, 0, [])
  | 49 => (.aload_n 0, 50, 0, 0, 0, [])
  | 50 => (.invokevirtual 190, 53, 154, 1, 0, [7])
  | 53 => (.iload_n 3, 54, 3, 0, 0, [])
  | 54 => (.ifCond .eq 7, 57, 61, 0, 0, [])
  | 57 => (.iload_n 2, 58, 2, 0, 0, [])
  | 58 => (.goto 5, 61, 63, 0, 0, [])
  | 61 => (.ldc 193, 63, 0, 0, (-1000000), [])
  | 63 => (.ireturn, 64, 0, 0, 0, [])
  | _ => (.nop, 1, 0, 0, 0, [])
def kt_M_done : Nat → kx_E
  | 0 => (.aload_n 0, 1, 0, 0, 0, [])
  | 1 => (.iload_n 1, 2, 1, 0, 0, [])
  | 2 => (.invokevirtual 176, 5, 138, 2, 0, [7])
  | 5 => (.ifCond .ne 6, 8, 11, 0, 0, [])
  | 8 => (.ldc 67, 10, 0, 0, (-1000001), [])
  | 10 => (.ireturn, 11, 0, 0, 0, [])
  | 11 => (.aload_n 0, 12, 0, 0, 0, [])
  | 12 => (.getfield 19, 15, 7, 1, 5, [])
  | 15 => (.bipush 38, 17, 0, 0, 38, [])
  | 17 => (.iload_n 1, 18, 1, 0, 0, [])
  | 18 => (.iadd, 19, 0, 0, 0, [])
  | 19 => (.iaload, 20, 0, 0, 0, [])
  | 20 => (.iconst 1, 21, 0, 0, 1, [])
  | 21 => (.if_icmp .ne 13, 24, 34, 0, 0, [])
  | 24 => (.aload_n 0, 25, 0, 0, 0, [])
  | 25 => (.getfield 19, 28, 7, 1, 5, [])
  | 28 => (.bipush 42, 30, 0, 0, 42, [])
  | 30 => (.iload_n 1, 31, 1, 0, 0, [])
  | 31 => (.iadd, 32, 0, 0, 0, [])
  | 32 => (.iaload, 33, 0, 0, 0, [])
  | 33 => (.ireturn, 34, 0, 0, 0, [])
  | 34 => (.aload_n 0, 35, 0, 0, 0, [])
  | 35 => (.invokevirtual 184, 38, 153, 1, 0, [7])
  | 38 => (.aload_n 0, 39, 0, 0, 0, [])
  | 39 => (.iload_n 1, 40, 1, 0, 0, [])
  | 40 => (.invokevirtual 197, 43, 162, 2, 0, [7])
  | 43 => (.istore_n 2, 44, 2, 0, 0, [])
  | 44 => (.iload_n 2, 45, 2, 0, 0, [])
  | 45 => (.ifCond .ge 8, 48, 53, 0, 0, [])
  | 48 => (.ldc 193, 50, 0, 0, (-1000000), [])
  | 50 => (.goto 11, 53, 61, 0, 0, [])
  | 53 => (.aload_n 0, 54, 0, 0, 0, [])
  | 54 => (.getfield 19, 57, 7, 1, 5, [])
  | 57 => (.iconst 3, 58, 0, 0, 3, [])
  | 58 => (.iaload, 59, 0, 0, 0, [])
  | 59 => (.iload_n 2, 60, 2, 0, 0, [])
  | 60 => (.iadd, 61, 0, 0, 0, [])
  | 61 => (.ireturn, 62, 0, 0, 0, [])
  | _ => (.nop, 1, 0, 0, 0, [])
def kt_M_first : Nat → kx_E
  | 0 => (.aload_n 0, 1, 0, 0, 0, [])
  | 1 => (.getfield 138, 4, 7, 2, 4, [])
  | 4 => (.ifCond .ne 6, 7, 10, 0, 0, [])
  | 7 => (.ldc 157, 9, 0, 0, (-1000002), [])
  | 9 => (.ireturn, 10, 0, 0, 0, [])
  | 10 => (.aload_n 0, 11, 0, 0, 0, [])
  | 11 => (.invokevirtual 184, 14, 153, 1, 0, [7])
  | 14 => (.ldc 193, 16, 0, 0, (-1000000), [])
  | 16 => (.istore_n 1, 17, 1, 0, 0, [])
  | 17 => (.sipush 999, 20, 0, 0, 999, [])
  | 20 => (.istore_n 2, 21, 2, 0, 0, [])
  | 21 => (.iconst 0, 22, 0, 0, 0, [])
  | 22 => (.istore_n 3, 23, 3, 0, 0, [])
  | 23 => (.iload_n 3, 24, 3, 0, 0, [])
  | 24 => (.aload_n 0, 25, 0, 0, 0, [])
  | 25 => (.getfield 19, 28, 7, 1, 5, [])
  | 28 => (.iconst 2, 29, 0, 0, 2, [])
  | 29 => (.iaload, 30, 0, 0, 0, [])
  | 30 => (.if_icmp .ge 49, 33, 79, 0, 0, [])
  | 33 => (.aload_n 0, 34, 0, 0, 0, [])
  | 34 => (.getfield 19, 37, 7, 1, 5, [])
  | 37 => (.bipush 38, 39, 0, 0, 38, [])
  | 39 => (.iload_n 3, 40, 3, 0, 0, [])
  | 40 => (.iadd, 41, 0, 0, 0, [])
  | 41 => (.iaload, 42, 0, 0, 0, [])
  | 42 => (.ifCond .ne 11, 45, 53, 0, 0, [])
  | 45 => (.aload_n 0, 46, 0, 0, 0, [])
  | 46 => (.iload_n 3, 47, 3, 0, 0, [])
  | 47 => (.invokevirtual 197, 50, 162, 2, 0, [7])
  | 50 => (.goto 5, 53, 55, 0, 0, [])
  | 53 => (.ldc 193, 55, 0, 0, (-1000000), [])
  | 55 => (.istore 4, 57, 4, 0, 0, [])
  | 57 => (.iload 4, 59, 4, 0, 0, [])
  | 59 => (.ifCond .le 14, 62, 73, 0, 0, [])
  | 62 => (.iload 4, 64, 4, 0, 0, [])
  | 64 => (.iload_n 2, 65, 2, 0, 0, [])
  | 65 => (.if_icmp .ge 8, 68, 73, 0, 0, [])
  | 68 => (.iload_n 3, 69, 3, 0, 0, [])
  | 69 => (.istore_n 1, 70, 1, 0, 0, [])
  | 70 => (.iload 4, 72, 4, 0, 0, [])
  | 72 => (.istore_n 2, 73, 2, 0, 0, [])
  | 73 => (.iinc 3 1, 76, 3, 0, 1, [])
  | 76 => (.goto (-53), 79, 23, 0, 0, [])
  | 79 => (.iload_n 1, 80, 1, 0, 0, [])
  | 80 => (.ireturn, 81, 0, 0, 0, [])
  | _ => (.nop, 1, 0, 0, 0, [])
def kt_M_by : Nat → kx_E
  | 0 => (.aload_n 0, 1, 0, 0, 0, [])
  | 1 => (.iload_n 1, 2, 1, 0, 0, [])
  | 2 => (.invokevirtual 168, 5, 137, 2, 0, [7])
  | 5 => (.ifCond .eq 10, 8, 15, 0, 0, [])
  | 8 => (.iload_n 2, 9, 2, 0, 0, [])
  | 9 => (.invokestatic 181, 12, 156, 1, 0, [])
  | 12 => (.ifCond .ne 6, 15, 18, 0, 0, [])
  | 15 => (.ldc 67, 17, 0, 0, (-1000001), [])
  | 17 => (.ireturn, 18, 0, 0, 0, [])
  | 18 => (.aload_n 0, 19, 0, 0, 0, [])
  | 19 => (.invokevirtual 184, 22, 153, 1, 0, [7])
  | 22 => (.aload_n 0, 23, 0, 0, 0, [])
  | 23 => (.getfield 19, 26, 7, 1, 5, [])
  | 26 => (.bipush 24, 28, 0, 0, 24, [])
  | 28 => (.iload_n 1, 29, 1, 0, 0, [])
  | 29 => (.iadd, 30, 0, 0, 0, [])
  | 30 => (.iaload, 31, 0, 0, 0, [])
  | 31 => (.istore_n 3, 32, 3, 0, 0, [])
  | 32 => (.aload_n 0, 33, 0, 0, 0, [])
  | 33 => (.iload_n 2, 34, 2, 0, 0, [])
  | 34 => (.invokevirtual 187, 37, 155, 2, 0, [7])
  | 37 => (.aload_n 0, 38, 0, 0, 0, [])
  | 38 => (.getfield 19, 41, 7, 1, 5, [])
  | 41 => (.bipush 24, 43, 0, 0, 24, [])
  | 43 => (.iload_n 1, 44, 1, 0, 0, [])
  | 44 => (.iadd, 45, 0, 0, 0, [])
  | 45 => (.iaload, 46, 0, 0, 0, [])
  | 46 => (.iload_n 3, 47, 3, 0, 0, [])
  | 47 => (.isub, 48, 0, 0, 0, [])
  | 48 => (.istore 4, 50, 4, 0, 0, [])
  | 50 => (.aload_n 0, 51, 0, 0, 0, [])
  | 51 => (.invokevirtual 190, 54, 154, 1, 0, [7])
  | 54 => (.iload 4, 56, 4, 0, 0, [])
  | 56 => (.ireturn, 57, 0, 0, 0, [])
  | _ => (.nop, 1, 0, 0, 0, [])
def kt_M_toGive : Nat → kx_E
  | 0 => (.aload_n 0, 1, 0, 0, 0, [])
  | 1 => (.iload_n 1, 2, 1, 0, 0, [])
  | 2 => (.invokevirtual 176, 5, 138, 2, 0, [7])
  | 5 => (.ifCond .eq 13, 8, 18, 0, 0, [])
  | 8 => (.iload_n 2, 9, 2, 0, 0, [])
  | 9 => (.i2l, 10, 0, 0, 0, [])
  | 10 => (.lconst 0, 11, 0, 0, 0, [])
  | 11 => (.lconst 1, 12, 0, 0, 1, [])
  | 12 => (.invokestatic 57, 15, 116, 3, 0, [])
  | 15 => (.ifCond .ne 6, 18, 21, 0, 0, [])
  | 18 => (.ldc 67, 20, 0, 0, (-1000001), [])
  | 20 => (.ireturn, 21, 0, 0, 0, [])
  | 21 => (.aload_n 0, 22, 0, 0, 0, [])
  | 22 => (.getfield 19, 25, 7, 1, 5, [])
  | 25 => (.bipush 38, 27, 0, 0, 38, [])
  | 27 => (.iload_n 1, 28, 1, 0, 0, [])
  | 28 => (.iadd, 29, 0, 0, 0, [])
  | 29 => (.iaload, 30, 0, 0, 0, [])
  | 30 => (.ifCond .eq 6, 33, 36, 0, 0, [])
  | 33 => (.ldc 157, 35, 0, 0, (-1000002), [])
  | 35 => (.ireturn, 36, 0, 0, 0, [])
  | 36 => (.aload_n 0, 37, 0, 0, 0, [])
  | 37 => (.invokevirtual 184, 40, 153, 1, 0, [7])
  | 40 => (.ldc 193, 42, 0, 0, (-1000000), [])
  | 42 => (.istore_n 3, 43, 3, 0, 0, [])
  | 43 => (.sipush 999, 46, 0, 0, 999, [])
  | 46 => (.istore 4, 48, 4, 0, 0, [])
  | 48 => (.iconst 0, 49, 0, 0, 0, [])
  | 49 => (.istore 5, 51, 5, 0, 0, [])
  | 51 => (.iload 5, 53, 5, 0, 0, [])
  | 53 => (.aload_n 0, 54, 0, 0, 0, [])
  | 54 => (.getfield 19, 57, 7, 1, 5, [])
  | 57 => (.iconst 1, 58, 0, 0, 1, [])
  | 58 => (.iaload, 59, 0, 0, 0, [])
  | 59 => (.if_icmp .ge 41, 62, 100, 0, 0, [])
  | 62 => (.aload_n 0, 63, 0, 0, 0, [])
  | 63 => (.iload 5, 65, 5, 0, 0, [])
  | 65 => (.invokevirtual 171, 68, 145, 2, 0, [7])
  | 68 => (.aload_n 0, 69, 0, 0, 0, [])
  | 69 => (.iload_n 1, 70, 1, 0, 0, [])
  | 70 => (.invokevirtual 197, 73, 162, 2, 0, [7])
  | 73 => (.istore 6, 75, 6, 0, 0, [])
  | 75 => (.iload 6, 77, 6, 0, 0, [])
  | 77 => (.ifCond .le 17, 80, 94, 0, 0, [])
  | 80 => (.iload 6, 82, 6, 0, 0, [])
  | 82 => (.iload 4, 84, 4, 0, 0, [])
  | 84 => (.if_icmp .ge 10, 87, 94, 0, 0, [])
  | 87 => (.iload 5, 89, 5, 0, 0, [])
  | 89 => (.istore_n 3, 90, 3, 0, 0, [])
  | 90 => (.iload 6, 92, 6, 0, 0, [])
  | 92 => (.istore 4, 94, 4, 0, 0, [])
  | 94 => (.iinc 5 1, 97, 5, 0, 1, [])
  | 97 => (.goto (-46), 100, 51, 0, 0, [])
  | 100 => (.iload_n 3, 101, 3, 0, 0, [])
  | 101 => (.ifCond .lt 7, 104, 108, 0, 0, [])
  | 104 => (.iload_n 2, 105, 2, 0, 0, [])
  | 105 => (.ifCond .ne 7, 108, 112, 0, 0, [])
  | 108 => (.iload_n 3, 109, 3, 0, 0, [])
  | 109 => (.goto 5, 112, 114, 0, 0, [])
  | 112 => (.iload 4, 114, 4, 0, 0, [])
  | 114 => (.ireturn, 115, 0, 0, 0, [])
  | _ => (.nop, 1, 0, 0, 0, [])
def kt_M_windsBy : Nat → kx_E
  | 0 => (.aload_n 0, 1, 0, 0, 0, [])
  | 1 => (.invokevirtual 184, 4, 153, 1, 0, [7])
  | 4 => (.iconst 0, 5, 0, 0, 0, [])
  | 5 => (.istore_n 3, 6, 3, 0, 0, [])
  | 6 => (.iconst 0, 7, 0, 0, 0, [])
  | 7 => (.istore 4, 9, 4, 0, 0, [])
  | 9 => (.iload 4, 11, 4, 0, 0, [])
  | 11 => (.bipush 6, 13, 0, 0, 6, [])
  | 13 => (.if_icmp .ge 47, 16, 60, 0, 0, [])
  | 16 => (.aload_n 0, 17, 0, 0, 0, [])
  | 17 => (.getfield 19, 20, 7, 1, 5, [])
  | 20 => (.iconst 0, 21, 0, 0, 0, [])
  | 21 => (.iload 4, 23, 4, 0, 0, [])
  | 23 => (.iastore, 24, 0, 0, 0, [])
  | 24 => (.aload_n 0, 25, 0, 0, 0, [])
  | 25 => (.iload_n 2, 26, 2, 0, 0, [])
  | 26 => (.invokevirtual 187, 29, 155, 2, 0, [7])
  | 29 => (.iload_n 3, 30, 3, 0, 0, [])
  | 30 => (.aload_n 0, 31, 0, 0, 0, [])
  | 31 => (.getfield 19, 34, 7, 1, 5, [])
  | 34 => (.iconst 4, 35, 0, 0, 4, [])
  | 35 => (.iaload, 36, 0, 0, 0, [])
  | 36 => (.iload_n 1, 37, 1, 0, 0, [])
  | 37 => (.if_icmp .ne 10, 40, 47, 0, 0, [])
  | 40 => (.iconst 1, 41, 0, 0, 1, [])
  | 41 => (.iload 4, 43, 4, 0, 0, [])
  | 43 => (.ishl, 44, 0, 0, 0, [])
  | 44 => (.goto 4, 47, 48, 0, 0, [])
  | 47 => (.iconst 0, 48, 0, 0, 0, [])
  | 48 => (.ior, 49, 0, 0, 0, [])
  | 49 => (.istore_n 3, 50, 3, 0, 0, [])
  | 50 => (.aload_n 0, 51, 0, 0, 0, [])
  | 51 => (.invokevirtual 190, 54, 154, 1, 0, [7])
  | 54 => (.iinc 4 1, 57, 4, 0, 1, [])
  | 57 => (.goto (-48), 60, 9, 0, 0, [])
  | 60 => (.iload_n 3, 61, 3, 0, 0, [])
  | 61 => (.ireturn, 62, 0, 0, 0, [])
  | _ => (.nop, 1, 0, 0, 0, [])
def kt_M_winds : Nat → kx_E
  | 0 => (.aload_n 0, 1, 0, 0, 0, [])
  | 1 => (.iload_n 1, 2, 1, 0, 0, [])
  | 2 => (.invokevirtual 168, 5, 137, 2, 0, [7])
  | 5 => (.ifCond .eq 19, 8, 24, 0, 0, [])
  | 8 => (.iload_n 2, 9, 2, 0, 0, [])
  | 9 => (.invokestatic 181, 12, 156, 1, 0, [])
  | 12 => (.ifCond .eq 12, 15, 24, 0, 0, [])
  | 15 => (.aload_n 0, 16, 0, 0, 0, [])
  | 16 => (.iload_n 1, 17, 1, 0, 0, [])
  | 17 => (.iload_n 2, 18, 2, 0, 0, [])
  | 18 => (.invokevirtual 200, 21, 167, 3, 0, [7])
  | 21 => (.goto 5, 24, 26, 0, 0, [])
  | 24 => (.ldc 67, 26, 0, 0, (-1000001), [])
  | 26 => (.ireturn, 27, 0, 0, 0, [])
  | _ => (.nop, 1, 0, 0, 0, [])
def kt_M_lot : Nat → kx_E
  | 0 => (.aload_n 0, 1, 0, 0, 0, [])
  | 1 => (.iload_n 1, 2, 1, 0, 0, [])
  | 2 => (.invokevirtual 168, 5, 137, 2, 0, [7])
  | 5 => (.ifCond .eq 20, 8, 25, 0, 0, [])
  | 8 => (.iload_n 2, 9, 2, 0, 0, [])
  | 9 => (.invokestatic 181, 12, 156, 1, 0, [])
  | 12 => (.ifCond .eq 13, 15, 25, 0, 0, [])
  | 15 => (.iload_n 3, 16, 3, 0, 0, [])
  | 16 => (.i2l, 17, 0, 0, 0, [])
  | 17 => (.lconst 0, 18, 0, 0, 0, [])
  | 18 => (.lconst 1, 19, 0, 0, 1, [])
  | 19 => (.invokestatic 57, 22, 116, 3, 0, [])
  | 22 => (.ifCond .ne 6, 25, 28, 0, 0, [])
  | 25 => (.ldc 67, 27, 0, 0, (-1000001), [])
  | 27 => (.ireturn, 28, 0, 0, 0, [])
  | 28 => (.iconst 0, 29, 0, 0, 0, [])
  | 29 => (.istore 4, 31, 4, 0, 0, [])
  | 31 => (.aload_n 0, 32, 0, 0, 0, [])
  | 32 => (.iload_n 1, 33, 1, 0, 0, [])
  | 33 => (.iload_n 2, 34, 2, 0, 0, [])
  | 34 => (.invokevirtual 200, 37, 167, 3, 0, [7])
  | 37 => (.istore 5, 39, 5, 0, 0, [])
  | 39 => (.iload 5, 41, 5, 0, 0, [])
  | 41 => (.ifCond .eq 18, 44, 59, 0, 0, [])
  | 44 => (.iinc 4 1, 47, 4, 0, 1, [])
  | 47 => (.iload 5, 49, 5, 0, 0, [])
  | 49 => (.iload 5, 51, 5, 0, 0, [])
  | 51 => (.iconst 1, 52, 0, 0, 1, [])
  | 52 => (.isub, 53, 0, 0, 0, [])
  | 53 => (.iand, 54, 0, 0, 0, [])
  | 54 => (.istore 5, 56, 5, 0, 0, [])
  | 56 => (.goto (-17), 59, 39, 0, 0, [])
  | 59 => (.iload 4, 61, 4, 0, 0, [])
  | 61 => (.ifCond .ne 8, 64, 69, 0, 0, [])
  | 64 => (.bipush 6, 66, 0, 0, 6, [])
  | 66 => (.goto 39, 69, 105, 0, 0, [])
  | 69 => (.iload 4, 71, 4, 0, 0, [])
  | 71 => (.bipush 6, 73, 0, 0, 6, [])
  | 73 => (.irem, 74, 0, 0, 0, [])
  | 74 => (.ifCond .ne 8, 77, 82, 0, 0, [])
  | 77 => (.bipush 6, 79, 0, 0, 6, [])
  | 79 => (.goto 26, 82, 105, 0, 0, [])
  | 82 => (.iload 4, 84, 4, 0, 0, [])
  | 84 => (.iconst 3, 85, 0, 0, 3, [])
  | 85 => (.irem, 86, 0, 0, 0, [])
  | 86 => (.ifCond .ne 7, 89, 93, 0, 0, [])
  | 89 => (.iconst 3, 90, 0, 0, 3, [])
  | 90 => (.goto 15, 93, 105, 0, 0, [])
  | 93 => (.iload 4, 95, 4, 0, 0, [])
  | 95 => (.iconst 2, 96, 0, 0, 2, [])
  | 96 => (.irem, 97, 0, 0, 0, [])
  | 97 => (.ifCond .ne 7, 100, 104, 0, 0, [])
  | 100 => (.iconst 2, 101, 0, 0, 2, [])
  | 101 => (.goto 4, 104, 105, 0, 0, [])
  | 104 => (.iconst 1, 105, 0, 0, 1, [])
  | 105 => (.istore 5, 107, 5, 0, 0, [])
  | 107 => (.iload_n 3, 108, 3, 0, 0, [])
  | 108 => (.ifCond .ne 11, 111, 119, 0, 0, [])
  | 111 => (.iload 4, 113, 4, 0, 0, [])
  | 113 => (.iload 5, 115, 5, 0, 0, [])
  | 115 => (.idiv, 116, 0, 0, 0, [])
  | 116 => (.goto 8, 119, 124, 0, 0, [])
  | 119 => (.bipush 6, 121, 0, 0, 6, [])
  | 121 => (.iload 5, 123, 5, 0, 0, [])
  | 123 => (.idiv, 124, 0, 0, 0, [])
  | 124 => (.ireturn, 125, 0, 0, 0, [])
  | _ => (.nop, 1, 0, 0, 0, [])
def kt_M_lacks : Nat → kx_E
  | 0 => (.aload_n 0, 1, 0, 0, 0, [])
  | 1 => (.getfield 13, 4, 7, 1, 1, [])
  | 4 => (.iload_n 1, 5, 1, 0, 0, [])
  | 5 => (.iaload, 6, 0, 0, 0, [])
  | 6 => (.ifCond .ge 9, 9, 15, 0, 0, [])
  | 9 => (.aload_n 0, 10, 0, 0, 0, [])
  | 10 => (.iconst 1, 11, 0, 0, 1, [])
  | 11 => (.invokevirtual 68, 14, 118, 2, 0, [7])
  | 14 => (.ireturn, 15, 0, 0, 0, [])
  | 15 => (.iload_n 2, 16, 2, 0, 0, [])
  | 16 => (.i2l, 17, 0, 0, 0, [])
  | 17 => (.lconst 0, 18, 0, 0, 0, [])
  | 18 => (.aload_n 0, 19, 0, 0, 0, [])
  | 19 => (.getfield 13, 22, 7, 1, 1, [])
  | 22 => (.iload_n 1, 23, 1, 0, 0, [])
  | 23 => (.iaload, 24, 0, 0, 0, [])
  | 24 => (.iload_n 3, 25, 3, 0, 0, [])
  | 25 => (.isub, 26, 0, 0, 0, [])
  | 26 => (.i2l, 27, 0, 0, 0, [])
  | 27 => (.invokestatic 57, 30, 116, 3, 0, [])
  | 30 => (.ifCond .eq 7, 33, 37, 0, 0, [])
  | 33 => (.iconst 0, 34, 0, 0, 0, [])
  | 34 => (.goto 8, 37, 42, 0, 0, [])
  | 37 => (.aload_n 0, 38, 0, 0, 0, [])
  | 38 => (.iconst 2, 39, 0, 0, 2, [])
  | 39 => (.invokevirtual 68, 42, 118, 2, 0, [7])
  | 42 => (.ireturn, 43, 0, 0, 0, [])
  | _ => (.nop, 1, 0, 0, 0, [])
def kt_M_goesSo : Nat → kx_E
  | 0 => (.iconst 1, 1, 0, 0, 1, [])
  | 1 => (.istore_n 3, 2, 3, 0, 0, [])
  | 2 => (.iconst 0, 3, 0, 0, 0, [])
  | 3 => (.istore 4, 5, 4, 0, 0, [])
  | 5 => (.iload 4, 7, 4, 0, 0, [])
  | 7 => (.iload_n 2, 8, 2, 0, 0, [])
  | 8 => (.if_icmp .ge 54, 11, 62, 0, 0, [])
  | 11 => (.aload_n 0, 12, 0, 0, 0, [])
  | 12 => (.invokevirtual 163, 15, 141, 1, 0, [7])
  | 15 => (.iload_n 3, 16, 3, 0, 0, [])
  | 16 => (.ifCond .eq 38, 19, 54, 0, 0, [])
  | 19 => (.aload_n 0, 20, 0, 0, 0, [])
  | 20 => (.getfield 16, 23, 7, 1, 2, [])
  | 23 => (.iload_n 1, 24, 1, 0, 0, [])
  | 24 => (.iload 4, 26, 4, 0, 0, [])
  | 26 => (.iadd, 27, 0, 0, 0, [])
  | 27 => (.iaload, 28, 0, 0, 0, [])
  | 28 => (.iconst (-1), 29, 0, 0, (-1), [])
  | 29 => (.if_icmp .eq 21, 32, 50, 0, 0, [])
  | 32 => (.aload_n 0, 33, 0, 0, 0, [])
  | 33 => (.getfield 16, 36, 7, 1, 2, [])
  | 36 => (.iload_n 1, 37, 1, 0, 0, [])
  | 37 => (.iload 4, 39, 4, 0, 0, [])
  | 39 => (.iadd, 40, 0, 0, 0, [])
  | 40 => (.iaload, 41, 0, 0, 0, [])
  | 41 => (.aload_n 0, 42, 0, 0, 0, [])
  | 42 => (.getfield 19, 45, 7, 1, 5, [])
  | 45 => (.iconst 4, 46, 0, 0, 4, [])
  | 46 => (.iaload, 47, 0, 0, 0, [])
  | 47 => (.if_icmp .ne 7, 50, 54, 0, 0, [])
  | 50 => (.iconst 1, 51, 0, 0, 1, [])
  | 51 => (.goto 4, 54, 55, 0, 0, [])
  | 54 => (.iconst 0, 55, 0, 0, 0, [])
  | 55 => (.istore_n 3, 56, 3, 0, 0, [])
  | 56 => (.iinc 4 1, 59, 4, 0, 1, [])
  | 59 => (.goto (-54), 62, 5, 0, 0, [])
  | 62 => (.aload_n 0, 63, 0, 0, 0, [])
  | 63 => (.invokevirtual 190, 66, 154, 1, 0, [7])
  | 66 => (.iload_n 3, 67, 3, 0, 0, [])
  | 67 => (.ireturn, 68, 1, 0, 0, [])
  | _ => (.nop, 1, 0, 0, 0, [])
def kt_M_seen : Nat → kx_E
  | 0 => (.aload_n 0, 1, 0, 0, 0, [])
  | 1 => (.getfield 138, 4, 7, 2, 4, [])
  | 4 => (.ifCond .ne 6, 7, 10, 0, 0, [])
  | 7 => (.ldc 157, 9, 0, 0, (-1000002), [])
  | 9 => (.ireturn, 10, 0, 0, 0, [])
  | 10 => (.iload_n 1, 11, 1, 0, 0, [])
  | 11 => (.invokestatic 61, 14, 120, 1, 0, [])
  | 14 => (.ifCond .eq 26, 17, 40, 0, 0, [])
  | 17 => (.iload_n 3, 18, 3, 0, 0, [])
  | 18 => (.i2l, 19, 0, 0, 0, [])
  | 19 => (.lconst 1, 20, 0, 0, 1, [])
  | 20 => (.ldc2_w 203, 23, 0, 0, 16, [])
  | 23 => (.invokestatic 57, 26, 116, 3, 0, [])
  | 26 => (.ifCond .eq 14, 29, 40, 0, 0, [])
  | 29 => (.iload 4, 31, 4, 0, 0, [])
  | 31 => (.i2l, 32, 0, 0, 0, [])
  | 32 => (.lconst 0, 33, 0, 0, 0, [])
  | 33 => (.lconst 1, 34, 0, 0, 1, [])
  | 34 => (.invokestatic 57, 37, 116, 3, 0, [])
  | 37 => (.ifCond .ne 6, 40, 43, 0, 0, [])
  | 40 => (.ldc 67, 42, 0, 0, (-1000001), [])
  | 42 => (.ireturn, 43, 0, 0, 0, [])
  | 43 => (.aload_n 0, 44, 0, 0, 0, [])
  | 44 => (.iload_n 1, 45, 1, 0, 0, [])
  | 45 => (.iload_n 2, 46, 2, 0, 0, [])
  | 46 => (.iload_n 3, 47, 3, 0, 0, [])
  | 47 => (.invokevirtual 205, 50, 170, 4, 0, [7])
  | 50 => (.istore 5, 52, 5, 0, 0, [])
  | 52 => (.iload 5, 54, 5, 0, 0, [])
  | 54 => (.ifCond .ge 6, 57, 60, 0, 0, [])
  | 57 => (.iload 5, 59, 5, 0, 0, [])
  | 59 => (.ireturn, 60, 0, 0, 0, [])
  | 60 => (.aload_n 0, 61, 0, 0, 0, [])
  | 61 => (.invokevirtual 184, 64, 153, 1, 0, [7])
  | 64 => (.iconst 0, 65, 0, 0, 0, [])
  | 65 => (.istore 6, 67, 6, 0, 0, [])
  | 67 => (.ldc 193, 69, 0, 0, (-1000000), [])
  | 69 => (.istore 7, 71, 7, 0, 0, [])
  | 71 => (.aload_n 0, 72, 0, 0, 0, [])
  | 72 => (.getfield 19, 75, 7, 1, 5, [])
  | 75 => (.iconst 1, 76, 0, 0, 1, [])
  | 76 => (.iaload, 77, 0, 0, 0, [])
  | 77 => (.iconst 1, 78, 0, 0, 1, [])
  | 78 => (.isub, 79, 0, 0, 0, [])
  | 79 => (.istore 8, 81, 8, 0, 0, [])
  | 81 => (.iload 8, 83, 8, 0, 0, [])
  | 83 => (.ifCond .lt 57, 86, 140, 0, 0, [])
  | 86 => (.aload_n 0, 87, 0, 0, 0, [])
  | 87 => (.iload 8, 89, 8, 0, 0, [])
  | 89 => (.invokevirtual 171, 92, 145, 2, 0, [7])
  | 92 => (.aload_n 0, 93, 0, 0, 0, [])
  | 93 => (.bipush 40, 95, 0, 0, 40, [])
  | 95 => (.iload_n 1, 96, 1, 0, 0, [])
  | 96 => (.imul, 97, 0, 0, 0, [])
  | 97 => (.iload_n 2, 98, 2, 0, 0, [])
  | 98 => (.iadd, 99, 0, 0, 0, [])
  | 99 => (.iload_n 3, 100, 3, 0, 0, [])
  | 100 => (.invokevirtual 209, 103, 171, 3, 0, [7])
  | 103 => (.istore 9, 105, 9, 0, 0, [])
  | 105 => (.iload 6, 107, 6, 0, 0, [])
  | 107 => (.iload 9, 109, 9, 0, 0, [])
  | 109 => (.ifCond .eq 7, 112, 116, 0, 0, [])
  | 112 => (.iconst 1, 113, 0, 0, 1, [])
  | 113 => (.goto 4, 116, 117, 0, 0, [])
  | 116 => (.iconst 0, 117, 0, 0, 0, [])
  | 117 => (.iadd, 118, 0, 0, 0, [])
  | 118 => (.istore 6, 120, 6, 0, 0, [])
  | 120 => (.iload 9, 122, 9, 0, 0, [])
  | 122 => (.ifCond .eq 8, 125, 130, 0, 0, [])
  | 125 => (.iload 8, 127, 8, 0, 0, [])
  | 127 => (.goto 5, 130, 132, 0, 0, [])
  | 130 => (.iload 7, 132, 7, 0, 0, [])
  | 132 => (.istore 7, 134, 7, 0, 0, [])
  | 134 => (.iinc 8 (-1), 137, 8, 0, (-1), [])
  | 137 => (.goto (-56), 140, 81, 0, 0, [])
  | 140 => (.aload_n 0, 141, 0, 0, 0, [])
  | 141 => (.iload 4, 143, 4, 0, 0, [])
  | 143 => (.ifCond .ne 8, 146, 151, 0, 0, [])
  | 146 => (.iload 6, 148, 6, 0, 0, [])
  | 148 => (.goto 5, 151, 153, 0, 0, [])
  | 151 => (.iload 7, 153, 7, 0, 0, [])
  | 153 => (.invokevirtual 72, 156, 119, 2, 0, [7])
  | 156 => (.ireturn, 157, 0, 0, 0, [])
  | _ => (.nop, 1, 0, 0, 0, [])
def kt_M_keeps : Nat → kx_E
  | 0 => (.aload_n 0, 1, 0, 0, 0, [])
  | 1 => (.iload_n 1, 2, 1, 0, 0, [])
  | 2 => (.invokevirtual 168, 5, 137, 2, 0, [7])
  | 5 => (.ifCond .eq 23, 8, 28, 0, 0, [])
  | 8 => (.iload_n 2, 9, 2, 0, 0, [])
  | 9 => (.invokestatic 61, 12, 120, 1, 0, [])
  | 12 => (.ifCond .eq 16, 15, 28, 0, 0, [])
  | 15 => (.iload 4, 17, 4, 0, 0, [])
  | 17 => (.i2l, 18, 0, 0, 0, [])
  | 18 => (.lconst 1, 19, 0, 0, 1, [])
  | 19 => (.ldc2_w 203, 22, 0, 0, 16, [])
  | 22 => (.invokestatic 57, 25, 116, 3, 0, [])
  | 25 => (.ifCond .ne 6, 28, 31, 0, 0, [])
  | 28 => (.ldc 67, 30, 0, 0, (-1000001), [])
  | 30 => (.ireturn, 31, 0, 0, 0, [])
  | 31 => (.aload_n 0, 32, 0, 0, 0, [])
  | 32 => (.iload_n 2, 33, 2, 0, 0, [])
  | 33 => (.iload_n 3, 34, 3, 0, 0, [])
  | 34 => (.iload 4, 36, 4, 0, 0, [])
  | 36 => (.invokevirtual 205, 39, 170, 4, 0, [7])
  | 39 => (.istore 5, 41, 5, 0, 0, [])
  | 41 => (.iload 5, 43, 5, 0, 0, [])
  | 43 => (.ifCond .ge 6, 46, 49, 0, 0, [])
  | 46 => (.iload 5, 48, 5, 0, 0, [])
  | 48 => (.ireturn, 49, 0, 0, 0, [])
  | 49 => (.aload_n 0, 50, 0, 0, 0, [])
  | 50 => (.invokevirtual 184, 53, 153, 1, 0, [7])
  | 53 => (.iconst 0, 54, 0, 0, 0, [])
  | 54 => (.istore 6, 56, 6, 0, 0, [])
  | 56 => (.iconst 1, 57, 0, 0, 1, [])
  | 57 => (.istore 7, 59, 7, 0, 0, [])
  | 59 => (.iload 7, 61, 7, 0, 0, [])
  | 61 => (.bipush 9, 63, 0, 0, 9, [])
  | 63 => (.if_icmp .gt 50, 66, 113, 0, 0, [])
  | 66 => (.aload_n 0, 67, 0, 0, 0, [])
  | 67 => (.getfield 19, 70, 7, 1, 5, [])
  | 70 => (.bipush 12, 72, 0, 0, 12, [])
  | 72 => (.iload_n 1, 73, 1, 0, 0, [])
  | 73 => (.iadd, 74, 0, 0, 0, [])
  | 74 => (.iload 7, 76, 7, 0, 0, [])
  | 76 => (.iastore, 77, 0, 0, 0, [])
  | 77 => (.iload 6, 79, 6, 0, 0, [])
  | 79 => (.aload_n 0, 80, 0, 0, 0, [])
  | 80 => (.bipush 40, 82, 0, 0, 40, [])
  | 82 => (.iload_n 2, 83, 2, 0, 0, [])
  | 83 => (.imul, 84, 0, 0, 0, [])
  | 84 => (.iload_n 3, 85, 3, 0, 0, [])
  | 85 => (.iadd, 86, 0, 0, 0, [])
  | 86 => (.iload 4, 88, 4, 0, 0, [])
  | 88 => (.invokevirtual 209, 91, 171, 3, 0, [7])
  | 91 => (.ifCond .eq 12, 94, 103, 0, 0, [])
  | 94 => (.iconst 1, 95, 0, 0, 1, [])
  | 95 => (.iload 7, 97, 7, 0, 0, [])
  | 97 => (.iconst 1, 98, 0, 0, 1, [])
  | 98 => (.isub, 99, 0, 0, 0, [])
  | 99 => (.ishl, 100, 0, 0, 0, [])
  | 100 => (.goto 4, 103, 104, 0, 0, [])
  | 103 => (.iconst 0, 104, 0, 0, 0, [])
  | 104 => (.ior, 105, 0, 0, 0, [])
  | 105 => (.istore 6, 107, 6, 0, 0, [])
  | 107 => (.iinc 7 1, 110, 7, 0, 1, [])
  | 110 => (.goto (-51), 113, 59, 0, 0, [])
  | 113 => (.aload_n 0, 114, 0, 0, 0, [])
  | 114 => (.iload 6, 116, 6, 0, 0, [])
  | 116 => (.invokevirtual 72, 119, 119, 2, 0, [7])
  | 119 => (.ireturn, 120, 0, 0, 0, [])
  | _ => (.nop, 1, 0, 0, 0, [])
def kt_M_image : Nat → kx_E
  | 0 => (.iload_n 1, 1, 1, 0, 0, [])
  | 1 => (.i2l, 2, 0, 0, 0, [])
  | 2 => (.lconst 0, 3, 0, 0, 0, [])
  | 3 => (.lconst 1, 4, 0, 0, 1, [])
  | 4 => (.invokestatic 57, 7, 116, 3, 0, [])
  | 7 => (.ifCond .ne 6, 10, 13, 0, 0, [])
  | 10 => (.ldc 67, 12, 0, 0, (-1000001), [])
  | 12 => (.ireturn, 13, 0, 0, 0, [])
  | 13 => (.aload_n 0, 14, 0, 0, 0, [])
  | 14 => (.getfield 138, 17, 7, 2, 4, [])
  | 17 => (.ifCond .ne 6, 20, 23, 0, 0, [])
  | 20 => (.ldc 157, 22, 0, 0, (-1000002), [])
  | 22 => (.ireturn, 23, 0, 0, 0, [])
  | 23 => (.iconst 0, 24, 0, 0, 0, [])
  | 24 => (.istore_n 2, 25, 2, 0, 0, [])
  | 25 => (.iload_n 2, 26, 2, 0, 0, [])
  | 26 => (.bipush 46, 28, 0, 0, 46, [])
  | 28 => (.if_icmp .ge 26, 31, 54, 0, 0, [])
  | 31 => (.aload_n 0, 32, 0, 0, 0, [])
  | 32 => (.getfield 44, 35, 7, 1, 21, [])
  | 35 => (.bipush 46, 37, 0, 0, 46, [])
  | 37 => (.iload_n 1, 38, 1, 0, 0, [])
  | 38 => (.imul, 39, 0, 0, 0, [])
  | 39 => (.iload_n 2, 40, 2, 0, 0, [])
  | 40 => (.iadd, 41, 0, 0, 0, [])
  | 41 => (.aload_n 0, 42, 0, 0, 0, [])
  | 42 => (.getfield 19, 45, 7, 1, 5, [])
  | 45 => (.iload_n 2, 46, 2, 0, 0, [])
  | 46 => (.iaload, 47, 0, 0, 0, [])
  | 47 => (.iastore, 48, 0, 0, 0, [])
  | 48 => (.iinc 2 1, 51, 2, 0, 1, [])
  | 51 => (.goto (-26), 54, 25, 0, 0, [])
  | 54 => (.aload_n 0, 55, 0, 0, 0, [])
  | 55 => (.getfield 40, 58, 7, 1, 20, [])
  | 58 => (.iload_n 1, 59, 1, 0, 0, [])
  | 59 => (.iconst 1, 60, 0, 0, 1, [])
  | 60 => (.bastore, 61, 0, 0, 0, [])
  | 61 => (.iconst 1, 62, 0, 0, 1, [])
  | 62 => (.ireturn, 63, 0, 0, 0, [])
  | _ => (.nop, 1, 0, 0, 0, [])
def kt_M_restore : Nat → kx_E
  | 0 => (.iload_n 1, 1, 1, 0, 0, [])
  | 1 => (.i2l, 2, 0, 0, 0, [])
  | 2 => (.lconst 0, 3, 0, 0, 0, [])
  | 3 => (.lconst 1, 4, 0, 0, 1, [])
  | 4 => (.invokestatic 57, 7, 116, 3, 0, [])
  | 7 => (.ifCond .ne 6, 10, 13, 0, 0, [])
  | 10 => (.ldc 67, 12, 0, 0, (-1000001), [])
  | 12 => (.ireturn, 13, 0, 0, 0, [])
  | 13 => (.aload_n 0, 14, 0, 0, 0, [])
  | 14 => (.getfield 40, 17, 7, 1, 20, [])
  | 17 => (.iload_n 1, 18, 1, 0, 0, [])
  | 18 => (.baload, 19, 0, 0, 0, [])
  | 19 => (.ifCond .ne 6, 22, 25, 0, 0, [])
  | 22 => (.ldc 157, 24, 0, 0, (-1000002), [])
  | 24 => (.ireturn, 25, 0, 0, 0, [])
  | 25 => (.iconst 0, 26, 0, 0, 0, [])
  | 26 => (.istore_n 2, 27, 2, 0, 0, [])
  | 27 => (.iload_n 2, 28, 2, 0, 0, [])
  | 28 => (.bipush 46, 30, 0, 0, 46, [])
  | 30 => (.if_icmp .ge 26, 33, 56, 0, 0, [])
  | 33 => (.aload_n 0, 34, 0, 0, 0, [])
  | 34 => (.getfield 19, 37, 7, 1, 5, [])
  | 37 => (.iload_n 2, 38, 2, 0, 0, [])
  | 38 => (.aload_n 0, 39, 0, 0, 0, [])
  | 39 => (.getfield 44, 42, 7, 1, 21, [])
  | 42 => (.bipush 46, 44, 0, 0, 46, [])
  | 44 => (.iload_n 1, 45, 1, 0, 0, [])
  | 45 => (.imul, 46, 0, 0, 0, [])
  | 46 => (.iload_n 2, 47, 2, 0, 0, [])
  | 47 => (.iadd, 48, 0, 0, 0, [])
  | 48 => (.iaload, 49, 0, 0, 0, [])
  | 49 => (.iastore, 50, 0, 0, 0, [])
  | 50 => (.iinc 2 1, 53, 2, 0, 1, [])
  | 53 => (.goto (-26), 56, 27, 0, 0, [])
  | 56 => (.aload_n 0, 57, 0, 0, 0, [])
  | 57 => (.iconst 0, 58, 0, 0, 0, [])
  | 58 => (.putfield 142, 61, 7, 0, 17, [])
  | 61 => (.iconst 1, 62, 0, 0, 1, [])
  | 62 => (.ireturn, 63, 0, 0, 0, [])
  | _ => (.nop, 1, 0, 0, 0, [])
def kt_M_kind : Nat → kx_E
  | 0 => (.aload_n 0, 1, 0, 0, 0, [])
  | 1 => (.iload_n 1, 2, 1, 0, 0, [])
  | 2 => (.invokevirtual 168, 5, 137, 2, 0, [7])
  | 5 => (.ifCond .eq 15, 8, 20, 0, 0, [])
  | 8 => (.aload_n 0, 9, 0, 0, 0, [])
  | 9 => (.getfield 19, 12, 7, 1, 5, [])
  | 12 => (.bipush 6, 14, 0, 0, 6, [])
  | 14 => (.iload_n 1, 15, 1, 0, 0, [])
  | 15 => (.iadd, 16, 0, 0, 0, [])
  | 16 => (.iaload, 17, 0, 0, 0, [])
  | 17 => (.goto 5, 20, 22, 0, 0, [])
  | 20 => (.ldc 67, 22, 0, 0, (-1000001), [])
  | 22 => (.ireturn, 23, 0, 0, 0, [])
  | _ => (.nop, 1, 0, 0, 0, [])
def kt_M_isKind : Nat → kx_E
  | 0 => (.iload_n 1, 1, 1, 0, 0, [])
  | 1 => (.ifCond .eq 28, 4, 29, 0, 0, [])
  | 4 => (.iload_n 0, 5, 0, 0, 0, [])
  | 5 => (.iload_n 1, 6, 1, 0, 0, [])
  | 6 => (.if_icmp .eq 23, 9, 29, 0, 0, [])
  | 9 => (.iload_n 1, 10, 1, 0, 0, [])
  | 10 => (.iconst 1, 11, 0, 0, 1, [])
  | 11 => (.if_icmp .ne 8, 14, 19, 0, 0, [])
  | 14 => (.iload_n 0, 15, 0, 0, 0, [])
  | 15 => (.iconst 4, 16, 0, 0, 4, [])
  | 16 => (.if_icmp .lt 13, 19, 29, 0, 0, [])
  | 19 => (.iload_n 1, 20, 1, 0, 0, [])
  | 20 => (.iconst 4, 21, 0, 0, 4, [])
  | 21 => (.if_icmp .ne 12, 24, 33, 0, 0, [])
  | 24 => (.iload_n 0, 25, 0, 0, 0, [])
  | 25 => (.iconst 5, 26, 0, 0, 5, [])
  | 26 => (.if_icmp .ne 7, 29, 33, 0, 0, [])
  | 29 => (.iconst 1, 30, 0, 0, 1, [])
  | 30 => (.goto 4, 33, 34, 0, 0, [])
  | 33 => (.iconst 0, 34, 0, 0, 0, [])
  | 34 => (.ireturn, 35, 1, 0, 0, [])
  | _ => (.nop, 1, 0, 0, 0, [])
def kt_M_as : Nat → kx_E
  | 0 => (.aload_n 0, 1, 0, 0, 0, [])
  | 1 => (.iload_n 1, 2, 1, 0, 0, [])
  | 2 => (.invokevirtual 168, 5, 137, 2, 0, [7])
  | 5 => (.ifCond .eq 15, 8, 20, 0, 0, [])
  | 8 => (.iload_n 2, 9, 2, 0, 0, [])
  | 9 => (.i2l, 10, 0, 0, 0, [])
  | 10 => (.lconst 0, 11, 0, 0, 0, [])
  | 11 => (.ldc2_w 166, 14, 0, 0, 5, [])
  | 14 => (.invokestatic 57, 17, 116, 3, 0, [])
  | 17 => (.ifCond .ne 6, 20, 23, 0, 0, [])
  | 20 => (.ldc 67, 22, 0, 0, (-1000001), [])
  | 22 => (.ireturn, 23, 0, 0, 0, [])
  | 23 => (.aload_n 0, 24, 0, 0, 0, [])
  | 24 => (.getfield 19, 27, 7, 1, 5, [])
  | 27 => (.bipush 6, 29, 0, 0, 6, [])
  | 29 => (.iload_n 1, 30, 1, 0, 0, [])
  | 30 => (.iadd, 31, 0, 0, 0, [])
  | 31 => (.iaload, 32, 0, 0, 0, [])
  | 32 => (.iload_n 2, 33, 2, 0, 0, [])
  | 33 => (.invokestatic 212, 36, 177, 2, 0, [])
  | 36 => (.ifCond .eq 11, 39, 47, 0, 0, [])
  | 39 => (.aload_n 0, 40, 0, 0, 0, [])
  | 40 => (.iload_n 1, 41, 1, 0, 0, [])
  | 41 => (.invokevirtual 72, 44, 119, 2, 0, [7])
  | 44 => (.goto 8, 47, 52, 0, 0, [])
  | 47 => (.aload_n 0, 48, 0, 0, 0, [])
  | 48 => (.iconst 3, 49, 0, 0, 3, [])
  | 49 => (.invokevirtual 68, 52, 118, 2, 0, [7])
  | 52 => (.ireturn, 53, 0, 0, 0, [])
  | _ => (.nop, 1, 0, 0, 0, [])
def kt_M_begin : Nat → kx_E
  | 0 => (.aload_n 0, 1, 0, 0, 0, [])
  | 1 => (.getfield 215, 4, 7, 0, 23, [])
  | 4 => (.bipush 16, 6, 0, 0, 16, [])
  | 6 => (.if_icmp .ge 23, 9, 29, 0, 0, [])
  | 9 => (.aload_n 0, 10, 0, 0, 0, [])
  | 10 => (.getfield 47, 13, 7, 1, 22, [])
  | 13 => (.aload_n 0, 14, 0, 0, 0, [])
  | 14 => (.getfield 215, 17, 7, 0, 23, [])
  | 17 => (.iload_n 1, 18, 1, 0, 0, [])
  | 18 => (.iastore, 19, 0, 0, 0, [])
  | 19 => (.aload_n 0, 20, 0, 0, 0, [])
  | 20 => (.dup, 21, 0, 0, 0, [])
  | 21 => (.getfield 215, 24, 7, 0, 23, [])
  | 24 => (.iconst 1, 25, 0, 0, 1, [])
  | 25 => (.iadd, 26, 0, 0, 0, [])
  | 26 => (.putfield 215, 29, 7, 0, 23, [])
  | 29 => (.return_, 30, 0, 0, 0, [])
  | _ => (.nop, 1, 0, 0, 0, [])
def kt_M_lent : Nat → kx_E
  | 0 => (.aload_n 0, 1, 0, 0, 0, [])
  | 1 => (.iload_n 2, 2, 2, 0, 0, [])
  | 2 => (.invokevirtual 218, 5, 179, 2, 0, [7])
  | 5 => (.iload_n 2, 6, 2, 0, 0, [])
  | 6 => (.bipush 10, 8, 0, 0, 10, [])
  | 8 => (.if_icmp .ne 15, 11, 23, 0, 0, [])
  | 11 => (.aload_n 0, 12, 0, 0, 0, [])
  | 12 => (.getfield 19, 15, 7, 1, 5, [])
  | 15 => (.bipush 12, 17, 0, 0, 12, [])
  | 17 => (.iload_n 1, 18, 1, 0, 0, [])
  | 18 => (.iadd, 19, 0, 0, 0, [])
  | 19 => (.iaload, 20, 0, 0, 0, [])
  | 20 => (.goto 4, 23, 24, 0, 0, [])
  | 23 => (.iload_n 1, 24, 1, 0, 0, [])
  | 24 => (.ireturn, 25, 0, 0, 0, [])
  | _ => (.nop, 1, 0, 0, 0, [])
def kt_M_firmMark : Nat → kx_E
  | 0 => (.aload_n 0, 1, 0, 0, 0, [])
  | 1 => (.bipush 21, 3, 0, 0, 21, [])
  | 3 => (.invokevirtual 218, 6, 179, 2, 0, [7])
  | 6 => (.aload_n 0, 7, 0, 0, 0, [])
  | 7 => (.iload_n 1, 8, 1, 0, 0, [])
  | 8 => (.bipush 20, 10, 0, 0, 20, [])
  | 10 => (.invokevirtual 221, 13, 180, 3, 0, [7])
  | 13 => (.aload_n 0, 14, 0, 0, 0, [])
  | 14 => (.getfield 19, 17, 7, 1, 5, [])
  | 17 => (.bipush 24, 19, 0, 0, 24, [])
  | 19 => (.iload_n 1, 20, 1, 0, 0, [])
  | 20 => (.iadd, 21, 0, 0, 0, [])
  | 21 => (.iaload, 22, 0, 0, 0, [])
  | 22 => (.iadd, 23, 0, 0, 0, [])
  | 23 => (.ireturn, 24, 0, 0, 0, [])
  | _ => (.nop, 1, 0, 0, 0, [])
def kt_M_windySize : Nat → kx_E
  | 0 => (.aload_n 0, 1, 0, 0, 0, [])
  | 1 => (.bipush 13, 3, 0, 0, 13, [])
  | 3 => (.invokevirtual 218, 6, 179, 2, 0, [7])
  | 6 => (.aload_n 0, 7, 0, 0, 0, [])
  | 7 => (.iload_n 1, 8, 1, 0, 0, [])
  | 8 => (.bipush 10, 10, 0, 0, 10, [])
  | 10 => (.invokevirtual 221, 13, 180, 3, 0, [7])
  | 13 => (.bipush 100, 15, 0, 0, 100, [])
  | 15 => (.isub, 16, 0, 0, 0, [])
  | 16 => (.ireturn, 17, 0, 0, 0, [])
  | _ => (.nop, 1, 0, 0, 0, [])
def kt_M_sizeOfWindy : Nat → kx_E
  | 0 => (.aload_n 0, 1, 0, 0, 0, [])
  | 1 => (.getfield 19, 4, 7, 1, 5, [])
  | 4 => (.bipush 6, 6, 0, 0, 6, [])
  | 6 => (.iload_n 1, 7, 1, 0, 0, [])
  | 7 => (.iadd, 8, 0, 0, 0, [])
  | 8 => (.iaload, 9, 0, 0, 0, [])
  | 9 => (.iconst 5, 10, 0, 0, 5, [])
  | 10 => (.if_icmp .ne 17, 13, 27, 0, 0, [])
  | 13 => (.aload_n 0, 14, 0, 0, 0, [])
  | 14 => (.bipush 14, 16, 0, 0, 14, [])
  | 16 => (.invokevirtual 218, 19, 179, 2, 0, [7])
  | 19 => (.iconst 2, 20, 0, 0, 2, [])
  | 20 => (.aload_n 0, 21, 0, 0, 0, [])
  | 21 => (.iload_n 1, 22, 1, 0, 0, [])
  | 22 => (.invokevirtual 224, 25, 182, 2, 0, [7])
  | 25 => (.imul, 26, 0, 0, 0, [])
  | 26 => (.ireturn, 27, 0, 0, 0, [])
  | 27 => (.aload_n 0, 28, 0, 0, 0, [])
  | 28 => (.iload_n 1, 29, 1, 0, 0, [])
  | 29 => (.invokevirtual 224, 32, 182, 2, 0, [7])
  | 32 => (.ireturn, 33, 0, 0, 0, [])
  | _ => (.nop, 1, 0, 0, 0, [])
def kt_M_markOf : Nat → kx_E
  | 0 => (.aload_n 0, 1, 0, 0, 0, [])
  | 1 => (.getfield 19, 4, 7, 1, 5, [])
  | 4 => (.bipush 6, 6, 0, 0, 6, [])
  | 6 => (.iload_n 1, 7, 1, 0, 0, [])
  | 7 => (.iadd, 8, 0, 0, 0, [])
  | 8 => (.iaload, 9, 0, 0, 0, [])
  | 9 => (.istore_n 2, 10, 2, 0, 0, [])
  | 10 => (.iload_n 2, 11, 2, 0, 0, [])
  | 11 => (.iconst 2, 12, 0, 0, 2, [])
  | 12 => (.if_icmp .ne 17, 15, 29, 0, 0, [])
  | 15 => (.aload_n 0, 16, 0, 0, 0, [])
  | 16 => (.bipush 24, 18, 0, 0, 24, [])
  | 18 => (.invokevirtual 218, 21, 179, 2, 0, [7])
  | 21 => (.iconst 2, 22, 0, 0, 2, [])
  | 22 => (.aload_n 0, 23, 0, 0, 0, [])
  | 23 => (.iload_n 1, 24, 1, 0, 0, [])
  | 24 => (.invokevirtual 227, 27, 181, 2, 0, [7])
  | 27 => (.imul, 28, 0, 0, 0, [])
  | 28 => (.ireturn, 29, 0, 0, 0, [])
  | 29 => (.iload_n 2, 30, 2, 0, 0, [])
  | 30 => (.iconst 3, 31, 0, 0, 3, [])
  | 31 => (.if_icmp .ne 19, 34, 50, 0, 0, [])
  | 34 => (.aload_n 0, 35, 0, 0, 0, [])
  | 35 => (.bipush 22, 37, 0, 0, 22, [])
  | 37 => (.invokevirtual 218, 40, 179, 2, 0, [7])
  | 40 => (.aload_n 0, 41, 0, 0, 0, [])
  | 41 => (.iload_n 1, 42, 1, 0, 0, [])
  | 42 => (.invokevirtual 227, 45, 181, 2, 0, [7])
  | 45 => (.sipush 1000, 48, 0, 0, 1000, [])
  | 48 => (.isub, 49, 0, 0, 0, [])
  | 49 => (.ireturn, 50, 0, 0, 0, [])
  | 50 => (.iload_n 2, 51, 2, 0, 0, [])
  | 51 => (.iconst 1, 52, 0, 0, 1, [])
  | 52 => (.if_icmp .ne 9, 55, 61, 0, 0, [])
  | 55 => (.aload_n 0, 56, 0, 0, 0, [])
  | 56 => (.iload_n 1, 57, 1, 0, 0, [])
  | 57 => (.invokevirtual 227, 60, 181, 2, 0, [7])
  | 60 => (.ireturn, 61, 0, 0, 0, [])
  | 61 => (.aload_n 0, 62, 0, 0, 0, [])
  | 62 => (.bipush 23, 64, 0, 0, 23, [])
  | 64 => (.invokevirtual 218, 67, 179, 2, 0, [7])
  | 67 => (.aload_n 0, 68, 0, 0, 0, [])
  | 68 => (.iload_n 1, 69, 1, 0, 0, [])
  | 69 => (.bipush 20, 71, 0, 0, 20, [])
  | 71 => (.invokevirtual 221, 74, 180, 3, 0, [7])
  | 74 => (.istore_n 3, 75, 3, 0, 0, [])
  | 75 => (.iload_n 3, 76, 3, 0, 0, [])
  | 76 => (.aload_n 0, 77, 0, 0, 0, [])
  | 77 => (.iload_n 1, 78, 1, 0, 0, [])
  | 78 => (.invokevirtual 230, 81, 183, 2, 0, [7])
  | 81 => (.isub, 82, 0, 0, 0, [])
  | 82 => (.ireturn, 83, 0, 0, 0, [])
  | _ => (.nop, 1, 0, 0, 0, [])
def kt_M_firmSize : Nat → kx_E
  | 0 => (.aload_n 0, 1, 0, 0, 0, [])
  | 1 => (.bipush 11, 3, 0, 0, 11, [])
  | 3 => (.invokevirtual 218, 6, 179, 2, 0, [7])
  | 6 => (.aload_n 0, 7, 0, 0, 0, [])
  | 7 => (.iload_n 1, 8, 1, 0, 0, [])
  | 8 => (.bipush 10, 10, 0, 0, 10, [])
  | 10 => (.invokevirtual 221, 13, 180, 3, 0, [7])
  | 13 => (.istore_n 2, 14, 2, 0, 0, [])
  | 14 => (.iload_n 2, 15, 2, 0, 0, [])
  | 15 => (.aload_n 0, 16, 0, 0, 0, [])
  | 16 => (.iload_n 1, 17, 1, 0, 0, [])
  | 17 => (.invokevirtual 233, 20, 184, 2, 0, [7])
  | 20 => (.iadd, 21, 0, 0, 0, [])
  | 21 => (.ireturn, 22, 0, 0, 0, [])
  | _ => (.nop, 1, 0, 0, 0, [])
def kt_M_sizeOf : Nat → kx_E
  | 0 => (.aload_n 0, 1, 0, 0, 0, [])
  | 1 => (.getfield 19, 4, 7, 1, 5, [])
  | 4 => (.bipush 6, 6, 0, 0, 6, [])
  | 6 => (.iload_n 1, 7, 1, 0, 0, [])
  | 7 => (.iadd, 8, 0, 0, 0, [])
  | 8 => (.iaload, 9, 0, 0, 0, [])
  | 9 => (.istore_n 2, 10, 2, 0, 0, [])
  | 10 => (.iload_n 2, 11, 2, 0, 0, [])
  | 11 => (.iconst 2, 12, 0, 0, 2, [])
  | 12 => (.if_icmp .ne 16, 15, 28, 0, 0, [])
  | 15 => (.aload_n 0, 16, 0, 0, 0, [])
  | 16 => (.bipush 12, 18, 0, 0, 12, [])
  | 18 => (.invokevirtual 218, 21, 179, 2, 0, [7])
  | 21 => (.aload_n 0, 22, 0, 0, 0, [])
  | 22 => (.iload_n 1, 23, 1, 0, 0, [])
  | 23 => (.invokevirtual 236, 26, 185, 2, 0, [7])
  | 26 => (.ineg, 27, 0, 0, 0, [])
  | 27 => (.ireturn, 28, 0, 0, 0, [])
  | 28 => (.iload_n 2, 29, 2, 0, 0, [])
  | 29 => (.iconst 4, 30, 0, 0, 4, [])
  | 30 => (.if_icmp .lt 11, 33, 41, 0, 0, [])
  | 33 => (.aload_n 0, 34, 0, 0, 0, [])
  | 34 => (.iload_n 1, 35, 1, 0, 0, [])
  | 35 => (.invokevirtual 230, 38, 183, 2, 0, [7])
  | 38 => (.goto 8, 41, 46, 0, 0, [])
  | 41 => (.aload_n 0, 42, 0, 0, 0, [])
  | 42 => (.iload_n 1, 43, 1, 0, 0, [])
  | 43 => (.invokevirtual 236, 46, 185, 2, 0, [7])
  | 46 => (.ireturn, 47, 0, 0, 0, [])
  | _ => (.nop, 1, 0, 0, 0, [])
def kt_M_ask : Nat → kx_E
  | 0 => (.aload_n 0, 1, 0, 0, 0, [])
  | 1 => (.iload_n 1, 2, 1, 0, 0, [])
  | 2 => (.invokevirtual 168, 5, 137, 2, 0, [7])
  | 5 => (.ifCond .eq 13, 8, 18, 0, 0, [])
  | 8 => (.iload_n 2, 9, 2, 0, 0, [])
  | 9 => (.i2l, 10, 0, 0, 0, [])
  | 10 => (.lconst 0, 11, 0, 0, 0, [])
  | 11 => (.lconst 1, 12, 0, 0, 1, [])
  | 12 => (.invokestatic 57, 15, 116, 3, 0, [])
  | 15 => (.ifCond .ne 6, 18, 21, 0, 0, [])
  | 18 => (.ldc 67, 20, 0, 0, (-1000001), [])
  | 20 => (.ireturn, 21, 0, 0, 0, [])
  | 21 => (.aload_n 0, 22, 0, 0, 0, [])
  | 22 => (.iconst 0, 23, 0, 0, 0, [])
  | 23 => (.putfield 215, 26, 7, 0, 23, [])
  | 26 => (.iload_n 2, 27, 2, 0, 0, [])
  | 27 => (.ifCond .ne 11, 30, 38, 0, 0, [])
  | 30 => (.aload_n 0, 31, 0, 0, 0, [])
  | 31 => (.iload_n 1, 32, 1, 0, 0, [])
  | 32 => (.invokevirtual 239, 35, 186, 2, 0, [7])
  | 35 => (.goto 8, 38, 43, 0, 0, [])
  | 38 => (.aload_n 0, 39, 0, 0, 0, [])
  | 39 => (.iload_n 1, 40, 1, 0, 0, [])
  | 40 => (.invokevirtual 233, 43, 184, 2, 0, [7])
  | 43 => (.ireturn, 44, 0, 0, 0, [])
  | _ => (.nop, 1, 0, 0, 0, [])
def kt_M_trace : Nat → kx_E
  | 0 => (.iload_n 1, 1, 1, 0, 0, [])
  | 1 => (.i2l, 2, 0, 0, 0, [])
  | 2 => (.lconst 0, 3, 0, 0, 0, [])
  | 3 => (.aload_n 0, 4, 0, 0, 0, [])
  | 4 => (.getfield 215, 7, 7, 0, 23, [])
  | 7 => (.iconst 1, 8, 0, 0, 1, [])
  | 8 => (.isub, 9, 0, 0, 0, [])
  | 9 => (.i2l, 10, 0, 0, 0, [])
  | 10 => (.invokestatic 57, 13, 116, 3, 0, [])
  | 13 => (.ifCond .eq 12, 16, 25, 0, 0, [])
  | 16 => (.aload_n 0, 17, 0, 0, 0, [])
  | 17 => (.getfield 47, 20, 7, 1, 22, [])
  | 20 => (.iload_n 1, 21, 1, 0, 0, [])
  | 21 => (.iaload, 22, 0, 0, 0, [])
  | 22 => (.goto 5, 25, 27, 0, 0, [])
  | 25 => (.ldc 193, 27, 0, 0, (-1000000), [])
  | 27 => (.ireturn, 28, 0, 0, 0, [])
  | _ => (.nop, 1, 0, 0, 0, [])
def kt_M_count : Nat → kx_E
  | 0 => (.iconst 0, 1, 0, 0, 0, [])
  | 1 => (.istore_n 2, 2, 2, 0, 0, [])
  | 2 => (.iconst 0, 3, 0, 0, 0, [])
  | 3 => (.istore_n 3, 4, 3, 0, 0, [])
  | 4 => (.iload_n 3, 5, 3, 0, 0, [])
  | 5 => (.bipush 8, 7, 0, 0, 8, [])
  | 7 => (.if_icmp .ge 26, 10, 33, 0, 0, [])
  | 10 => (.iload_n 2, 11, 2, 0, 0, [])
  | 11 => (.aload_n 0, 12, 0, 0, 0, [])
  | 12 => (.getfield 13, 15, 7, 1, 1, [])
  | 15 => (.iload_n 3, 16, 3, 0, 0, [])
  | 16 => (.iaload, 17, 0, 0, 0, [])
  | 17 => (.ifCond .lt 7, 20, 24, 0, 0, [])
  | 20 => (.iconst 1, 21, 0, 0, 1, [])
  | 21 => (.goto 4, 24, 25, 0, 0, [])
  | 24 => (.iconst 0, 25, 0, 0, 0, [])
  | 25 => (.iadd, 26, 0, 0, 0, [])
  | 26 => (.istore_n 2, 27, 2, 0, 0, [])
  | 27 => (.iinc 3 1, 30, 3, 0, 1, [])
  | 30 => (.goto (-26), 33, 4, 0, 0, [])
  | 33 => (.iconst 0, 34, 0, 0, 0, [])
  | 34 => (.istore_n 3, 35, 3, 0, 0, [])
  | 35 => (.iconst 0, 36, 0, 0, 0, [])
  | 36 => (.istore 4, 38, 4, 0, 0, [])
  | 38 => (.iload 4, 40, 4, 0, 0, [])
  | 40 => (.aload_n 0, 41, 0, 0, 0, [])
  | 41 => (.getfield 19, 44, 7, 1, 5, [])
  | 44 => (.iconst 2, 45, 0, 0, 2, [])
  | 45 => (.iaload, 46, 0, 0, 0, [])
  | 46 => (.if_icmp .ge 31, 49, 77, 0, 0, [])
  | 49 => (.iload_n 3, 50, 3, 0, 0, [])
  | 50 => (.aload_n 0, 51, 0, 0, 0, [])
  | 51 => (.getfield 19, 54, 7, 1, 5, [])
  | 54 => (.bipush 38, 56, 0, 0, 38, [])
  | 56 => (.iload 4, 58, 4, 0, 0, [])
  | 58 => (.iadd, 59, 0, 0, 0, [])
  | 59 => (.iaload, 60, 0, 0, 0, [])
  | 60 => (.iconst 1, 61, 0, 0, 1, [])
  | 61 => (.if_icmp .ne 7, 64, 68, 0, 0, [])
  | 64 => (.iconst 1, 65, 0, 0, 1, [])
  | 65 => (.goto 4, 68, 69, 0, 0, [])
  | 68 => (.iconst 0, 69, 0, 0, 0, [])
  | 69 => (.iadd, 70, 0, 0, 0, [])
  | 70 => (.istore_n 3, 71, 3, 0, 0, [])
  | 71 => (.iinc 4 1, 74, 4, 0, 1, [])
  | 74 => (.goto (-36), 77, 38, 0, 0, [])
  | 77 => (.iload_n 1, 78, 1, 0, 0, [])
  | 78 => (.tableswitch 86 0 7 #[46, 48, 55, 62, 67, 69, 76, 81], 124, 164, 0, 0, [124, 126, 133, 140, 145, 147, 154, 159])
  | 124 => (.iload_n 2, 125, 2, 0, 0, [])
  | 125 => (.ireturn, 126, 0, 0, 0, [])
  | 126 => (.aload_n 0, 127, 0, 0, 0, [])
  | 127 => (.getfield 19, 130, 7, 1, 5, [])
  | 130 => (.iconst 1, 131, 0, 0, 1, [])
  | 131 => (.iaload, 132, 0, 0, 0, [])
  | 132 => (.ireturn, 133, 0, 0, 0, [])
  | 133 => (.aload_n 0, 134, 0, 0, 0, [])
  | 134 => (.getfield 19, 137, 7, 1, 5, [])
  | 137 => (.iconst 2, 138, 0, 0, 2, [])
  | 138 => (.iaload, 139, 0, 0, 0, [])
  | 139 => (.ireturn, 140, 0, 0, 0, [])
  | 140 => (.aload_n 0, 141, 0, 0, 0, [])
  | 141 => (.invokevirtual 153, 144, 139, 1, 0, [7])
  | 144 => (.ireturn, 145, 0, 0, 0, [])
  | 145 => (.iload_n 3, 146, 3, 0, 0, [])
  | 146 => (.ireturn, 147, 0, 0, 0, [])
  | 147 => (.aload_n 0, 148, 0, 0, 0, [])
  | 148 => (.getfield 19, 151, 7, 1, 5, [])
  | 151 => (.iconst 3, 152, 0, 0, 3, [])
  | 152 => (.iaload, 153, 0, 0, 0, [])
  | 153 => (.ireturn, 154, 0, 0, 0, [])
  | 154 => (.aload_n 0, 155, 0, 0, 0, [])
  | 155 => (.getfield 142, 158, 7, 0, 17, [])
  | 158 => (.ireturn, 159, 0, 0, 0, [])
  | 159 => (.aload_n 0, 160, 0, 0, 0, [])
  | 160 => (.getfield 81, 163, 7, 0, 8, [])
  | 163 => (.ireturn, 164, 0, 0, 0, [])
  | 164 => (.ldc 67, 166, 0, 0, (-1000001), [])
  | 166 => (.ireturn, 167, 0, 0, 0, [])
  | _ => (.nop, 1, 0, 0, 0, [])
def kt_M_status : Nat → kx_E
  | 0 => (.aload_n 0, 1, 0, 0, 0, [])
  | 1 => (.getfield 50, 4, 7, 0, 3, [])
  | 4 => (.ireturn, 5, 0, 0, 0, [])
  | _ => (.nop, 1, 0, 0, 0, [])
def kt_Integer_bitCount : Nat → kx_E
  | 0 => (.iload_n 0, 1, 0, 0, 0, [])
  | 1 => (.iload_n 0, 2, 0, 0, 0, [])
  | 2 => (.iconst 1, 3, 0, 0, 1, [])
  | 3 => (.iushr, 4, 0, 0, 0, [])
  | 4 => (.ldc_w 265, 7, 0, 0, 1431655765, [])
  | 7 => (.iand, 8, 0, 0, 0, [])
  | 8 => (.isub, 9, 0, 0, 0, [])
  | 9 => (.istore_n 0, 10, 0, 0, 0, [])
  | 10 => (.iload_n 0, 11, 0, 0, 0, [])
  | 11 => (.ldc_w 266, 14, 0, 0, 858993459, [])
  | 14 => (.iand, 15, 0, 0, 0, [])
  | 15 => (.iload_n 0, 16, 0, 0, 0, [])
  | 16 => (.iconst 2, 17, 0, 0, 2, [])
  | 17 => (.iushr, 18, 0, 0, 0, [])
  | 18 => (.ldc_w 266, 21, 0, 0, 858993459, [])
  | 21 => (.iand, 22, 0, 0, 0, [])
  | 22 => (.iadd, 23, 0, 0, 0, [])
  | 23 => (.istore_n 0, 24, 0, 0, 0, [])
  | 24 => (.iload_n 0, 25, 0, 0, 0, [])
  | 25 => (.iload_n 0, 26, 0, 0, 0, [])
  | 26 => (.iconst 4, 27, 0, 0, 4, [])
  | 27 => (.iushr, 28, 0, 0, 0, [])
  | 28 => (.iadd, 29, 0, 0, 0, [])
  | 29 => (.ldc_w 267, 32, 0, 0, 252645135, [])
  | 32 => (.iand, 33, 0, 0, 0, [])
  | 33 => (.istore_n 0, 34, 0, 0, 0, [])
  | 34 => (.iload_n 0, 35, 0, 0, 0, [])
  | 35 => (.iload_n 0, 36, 0, 0, 0, [])
  | 36 => (.bipush 8, 38, 0, 0, 8, [])
  | 38 => (.iushr, 39, 0, 0, 0, [])
  | 39 => (.iadd, 40, 0, 0, 0, [])
  | 40 => (.istore_n 0, 41, 0, 0, 0, [])
  | 41 => (.iload_n 0, 42, 0, 0, 0, [])
  | 42 => (.iload_n 0, 43, 0, 0, 0, [])
  | 43 => (.bipush 16, 45, 0, 0, 16, [])
  | 45 => (.iushr, 46, 0, 0, 0, [])
  | 46 => (.iadd, 47, 0, 0, 0, [])
  | 47 => (.istore_n 0, 48, 0, 0, 0, [])
  | 48 => (.iload_n 0, 49, 0, 0, 0, [])
  | 49 => (.bipush 63, 51, 0, 0, 63, [])
  | 51 => (.iand, 52, 0, 0, 0, [])
  | 52 => (.ireturn, 53, 0, 0, 0, [])
  | _ => (.nop, 1, 0, 0, 0, [])
def kt_Math_floorMod : Nat → kx_E
  | 0 => (.iload_n 0, 1, 0, 0, 0, [])
  | 1 => (.iload_n 1, 2, 1, 0, 0, [])
  | 2 => (.irem, 3, 0, 0, 0, [])
  | 3 => (.istore_n 2, 4, 2, 0, 0, [])
  | 4 => (.iload_n 0, 5, 0, 0, 0, [])
  | 5 => (.iload_n 1, 6, 1, 0, 0, [])
  | 6 => (.ixor, 7, 0, 0, 0, [])
  | 7 => (.ifCond .ge 11, 10, 18, 0, 0, [])
  | 10 => (.iload_n 2, 11, 2, 0, 0, [])
  | 11 => (.ifCond .eq 7, 14, 18, 0, 0, [])
  | 14 => (.iload_n 2, 15, 2, 0, 0, [])
  | 15 => (.iload_n 1, 16, 1, 0, 0, [])
  | 16 => (.iadd, 17, 0, 0, 0, [])
  | 17 => (.ireturn, 18, 0, 0, 0, [])
  | 18 => (.iload_n 2, 19, 2, 0, 0, [])
  | 19 => (.ireturn, 20, 0, 0, 0, [])
  | _ => (.nop, 1, 0, 0, 0, [])
def kt_Math_min : Nat → kx_E
  | 0 => (.iload_n 0, 1, 0, 0, 0, [])
  | 1 => (.iload_n 1, 2, 1, 0, 0, [])
  | 2 => (.if_icmp .gt 7, 5, 9, 0, 0, [])
  | 5 => (.iload_n 0, 6, 0, 0, 0, [])
  | 6 => (.goto 4, 9, 10, 0, 0, [])
  | 9 => (.iload_n 1, 10, 1, 0, 0, [])
  | 10 => (.ireturn, 11, 0, 0, 0, [])
  | _ => (.nop, 1, 0, 0, 0, [])
def kt_Arrays_fill : Nat → kx_E
  | 0 => (.iconst 0, 1, 0, 0, 0, [])
  | 1 => (.istore_n 2, 2, 2, 0, 0, [])
  | 2 => (.aload_n 0, 3, 0, 0, 0, [])
  | 3 => (.arraylength, 4, 0, 0, 0, [])
  | 4 => (.istore_n 3, 5, 3, 0, 0, [])
  | 5 => (.iload_n 2, 6, 2, 0, 0, [])
  | 6 => (.iload_n 3, 7, 3, 0, 0, [])
  | 7 => (.if_icmp .ge 13, 10, 20, 0, 0, [])
  | 10 => (.aload_n 0, 11, 0, 0, 0, [])
  | 11 => (.iload_n 2, 12, 2, 0, 0, [])
  | 12 => (.iload_n 1, 13, 1, 0, 0, [])
  | 13 => (.iastore, 14, 0, 0, 0, [])
  | 14 => (.iinc 2 1, 17, 2, 0, 1, [])
  | 17 => (.goto (-12), 20, 5, 0, 0, [])
  | 20 => (.return_, 21, 0, 0, 0, [])
  | _ => (.nop, 1, 0, 0, 0, [])
def kt_Math_max : Nat → kx_E
  | 0 => (.iload_n 0, 1, 0, 0, 0, [])
  | 1 => (.iload_n 1, 2, 1, 0, 0, [])
  | 2 => (.if_icmp .lt 7, 5, 9, 0, 0, [])
  | 5 => (.iload_n 0, 6, 0, 0, 0, [])
  | 6 => (.goto 4, 9, 10, 0, 0, [])
  | 9 => (.iload_n 1, 10, 1, 0, 0, [])
  | 10 => (.ireturn, 11, 0, 0, 0, [])
  | _ => (.nop, 1, 0, 0, 0, [])
def kt_Str_length : Nat → kx_E
  | 0 => (.aload_n 0, 1, 0, 0, 0, [])
  | 1 => (.getfield 9, 4, 8, 1, 0, [])
  | 4 => (.arraylength, 5, 0, 0, 0, [])
  | 5 => (.aload_n 0, 6, 0, 0, 0, [])
  | 6 => (.invokevirtual 335, 9, 199, 1, 0, [8])
  | 9 => (.ishr, 10, 0, 0, 0, [])
  | 10 => (.ireturn, 11, 0, 0, 0, [])
  | _ => (.nop, 1, 0, 0, 0, [])
def kt_Str_indexOf : Nat → kx_E
  | 0 => (.aload_n 0, 1, 0, 0, 0, [])
  | 1 => (.iload_n 1, 2, 1, 0, 0, [])
  | 2 => (.iconst 0, 3, 0, 0, 0, [])
  | 3 => (.invokevirtual 633, 6, 198, 3, 0, [8])
  | 6 => (.ireturn, 7, 0, 0, 0, [])
  | _ => (.nop, 1, 0, 0, 0, [])
def kt_Str_indexOf2 : Nat → kx_E
  | 0 => (.aload_n 0, 1, 0, 0, 0, [])
  | 1 => (.invokevirtual 492, 4, 200, 1, 0, [8])
  | 4 => (.ifCond .eq 19, 7, 23, 0, 0, [])
  | 7 => (.aload_n 0, 8, 0, 0, 0, [])
  | 8 => (.getfield 9, 11, 8, 1, 0, [])
  | 11 => (.iload_n 1, 12, 1, 0, 0, [])
  | 12 => (.iload_n 2, 13, 2, 0, 0, [])
  | 13 => (.aload_n 0, 14, 0, 0, 0, [])
  | 14 => (.invokevirtual 505, 17, 196, 1, 0, [8])
  | 17 => (.invokestatic 637, 20, 202, 4, 0, [])
  | 20 => (.goto 16, 23, 36, 0, 0, [])
  | 23 => (.aload_n 0, 24, 0, 0, 0, [])
  | 24 => (.getfield 9, 27, 8, 1, 0, [])
  | 27 => (.iload_n 1, 28, 1, 0, 0, [])
  | 28 => (.iload_n 2, 29, 2, 0, 0, [])
  | 29 => (.aload_n 0, 30, 0, 0, 0, [])
  | 30 => (.invokevirtual 505, 33, 196, 1, 0, [8])
  | 33 => (.nop, 1, 0, 0, 0, [])
  | 36 => (.ireturn, 37, 0, 0, 0, [])
  | _ => (.nop, 1, 0, 0, 0, [])
def kt_Str_coder : Nat → kx_E
  | 0 => (.getstatic 38, 3, 1, 0, 1, [])
  | 3 => (.ifCond .eq 10, 6, 13, 0, 0, [])
  | 6 => (.aload_n 0, 7, 0, 0, 0, [])
  | 7 => (.getfield 15, 10, 8, 0, 1, [])
  | 10 => (.goto 4, 13, 14, 0, 0, [])
  | 13 => (.iconst 1, 14, 0, 0, 1, [])
  | 14 => (.ireturn, 15, 1, 0, 0, [])
  | _ => (.nop, 1, 0, 0, 0, [])
def kt_Str_isLatin1 : Nat → kx_E
  | 0 => (.getstatic 38, 3, 1, 0, 1, [])
  | 3 => (.ifCond .eq 14, 6, 17, 0, 0, [])
  | 6 => (.aload_n 0, 7, 0, 0, 0, [])
  | 7 => (.getfield 15, 10, 8, 0, 1, [])
  | 10 => (.ifCond .ne 7, 13, 17, 0, 0, [])
  | 13 => (.iconst 1, 14, 0, 0, 1, [])
  | 14 => (.goto 4, 17, 18, 0, 0, [])
  | 17 => (.iconst 0, 18, 0, 0, 0, [])
  | 18 => (.ireturn, 19, 1, 0, 0, [])
  | _ => (.nop, 1, 0, 0, 0, [])
def kt_SL1_canEncode : Nat → kx_E
  | 0 => (.iload_n 0, 1, 0, 0, 0, [])
  | 1 => (.ifCond .lt 14, 4, 15, 0, 0, [])
  | 4 => (.iload_n 0, 5, 0, 0, 0, [])
  | 5 => (.sipush 255, 8, 0, 0, 255, [])
  | 8 => (.if_icmp .gt 7, 11, 15, 0, 0, [])
  | 11 => (.iconst 1, 12, 0, 0, 1, [])
  | 12 => (.goto 4, 15, 16, 0, 0, [])
  | 15 => (.iconst 0, 16, 0, 0, 0, [])
  | 16 => (.ireturn, 17, 1, 0, 0, [])
  | _ => (.nop, 1, 0, 0, 0, [])
def kt_SL1_indexOf : Nat → kx_E
  | 0 => (.iload_n 1, 1, 1, 0, 0, [])
  | 1 => (.invokestatic 88, 4, 201, 1, 0, [])
  | 4 => (.ifCond .ne 5, 7, 9, 0, 0, [])
  | 7 => (.iconst (-1), 8, 0, 0, (-1), [])
  | 8 => (.ireturn, 9, 0, 0, 0, [])
  | 9 => (.iload_n 2, 10, 2, 0, 0, [])
  | 10 => (.iconst 0, 11, 0, 0, 0, [])
  | 11 => (.invokestatic 92, 14, 195, 2, 0, [])
  | 14 => (.istore_n 2, 15, 2, 0, 0, [])
  | 15 => (.iload_n 3, 16, 3, 0, 0, [])
  | 16 => (.aload_n 0, 17, 0, 0, 0, [])
  | 17 => (.arraylength, 18, 0, 0, 0, [])
  | 18 => (.invokestatic 38, 21, 193, 2, 0, [])
  | 21 => (.istore_n 3, 22, 3, 0, 0, [])
  | 22 => (.iload_n 2, 23, 2, 0, 0, [])
  | 23 => (.iload_n 3, 24, 3, 0, 0, [])
  | 24 => (.if_icmp .lt 5, 27, 29, 0, 0, [])
  | 27 => (.iconst (-1), 28, 0, 0, (-1), [])
  | 28 => (.ireturn, 29, 0, 0, 0, [])
  | 29 => (.aload_n 0, 30, 0, 0, 0, [])
  | 30 => (.iload_n 1, 31, 1, 0, 0, [])
  | 31 => (.iload_n 2, 32, 2, 0, 0, [])
  | 32 => (.iload_n 3, 33, 3, 0, 0, [])
  | 33 => (.invokestatic 95, 36, 203, 4, 0, [])
  | 36 => (.ireturn, 37, 0, 0, 0, [])
  | _ => (.nop, 1, 0, 0, 0, [])
def kt_SL1_indexOfChar : Nat → kx_E
  | 0 => (.iload_n 1, 1, 1, 0, 0, [])
  | 1 => (.i2b, 2, 0, 0, 0, [])
  | 2 => (.istore 4, 4, 4, 0, 0, [])
  | 4 => (.iload_n 2, 5, 2, 0, 0, [])
  | 5 => (.istore 5, 7, 5, 0, 0, [])
  | 7 => (.iload 5, 9, 5, 0, 0, [])
  | 9 => (.iload_n 3, 10, 3, 0, 0, [])
  | 10 => (.if_icmp .ge 21, 13, 31, 0, 0, [])
  | 13 => (.aload_n 0, 14, 0, 0, 0, [])
  | 14 => (.iload 5, 16, 5, 0, 0, [])
  | 16 => (.baload, 17, 0, 0, 0, [])
  | 17 => (.iload 4, 19, 4, 0, 0, [])
  | 19 => (.if_icmp .ne 6, 22, 25, 0, 0, [])
  | 22 => (.iload 5, 24, 5, 0, 0, [])
  | 24 => (.ireturn, 25, 0, 0, 0, [])
  | 25 => (.iinc 5 1, 28, 5, 0, 1, [])
  | 28 => (.goto (-21), 31, 7, 0, 0, [])
  | 31 => (.iconst (-1), 32, 0, 0, (-1), [])
  | 32 => (.ireturn, 33, 0, 0, 0, [])
  | _ => (.nop, 1, 0, 0, 0, [])
end
section
def kt_Law_law : Nat → kx_E
  | 0 => (.new 7, 3, 6, 0, 0, [])
  | 3 => (.dup, 4, 0, 0, 0, [])
  | 4 => (.invokespecial 9, 7, 68, 1, 0, [])
  | 7 => (.astore_n 1, 8, 1, 0, 0, [])
  | 8 => (.new 10, 11, 7, 0, 0, [])
  | 11 => (.dup, 12, 0, 0, 0, [])
  | 12 => (.invokespecial 12, 15, 115, 1, 0, [])
  | 15 => (.astore_n 2, 16, 2, 0, 0, [])
  | 16 => (.iconst 0, 17, 0, 0, 0, [])
  | 17 => (.istore_n 3, 18, 3, 0, 0, [])
  | 18 => (.iload_n 3, 19, 3, 0, 0, [])
  | 19 => (.aload_n 0, 20, 0, 0, 0, [])
  | 20 => (.arraylength, 21, 0, 0, 0, [])
  | 21 => (.bipush 6, 23, 0, 0, 6, [])
  | 23 => (.isub, 24, 0, 0, 0, [])
  | 24 => (.if_icmp .gt 1182, 27, 1206, 0, 0, [])
  | 27 => (.aload_n 0, 28, 0, 0, 0, [])
  | 28 => (.iload_n 3, 29, 3, 0, 0, [])
  | 29 => (.iaload, 30, 0, 0, 0, [])
  | 30 => (.bipush 63, 32, 0, 0, 63, [])
  | 32 => (.iand, 33, 0, 0, 0, [])
  | 33 => (.tableswitch 1167 0 35 #[159, 202, 245, 308, 331, 354, 367, 380, 403, 426, 449, 472, 495, 508, 541, 574, 597, 620, 643, 666, 689, 712, 725, 758, 791, 824, 867, 920, 973, 996, 1019, 1042, 1075, 1108, 1131, 1154], 192, 1200, 0, 0, [192, 235, 278, 341, 364, 387, 400, 413, 436, 459, 482, 505, 528, 541, 574, 607, 630, 653, 676, 699, 722, 745, 758, 791, 824, 857, 900, 953, 1006, 1029, 1052, 1075, 1108, 1141, 1164, 1187])
  | 192 => (.aload_n 1, 193, 1, 0, 0, [])
  | 193 => (.aload_n 0, 194, 0, 0, 0, [])
  | 194 => (.iload_n 3, 195, 3, 0, 0, [])
  | 195 => (.iconst 1, 196, 0, 0, 1, [])
  | 196 => (.iadd, 197, 0, 0, 0, [])
  | 197 => (.iaload, 198, 0, 0, 0, [])
  | 198 => (.aload_n 0, 199, 0, 0, 0, [])
  | 199 => (.iload_n 3, 200, 3, 0, 0, [])
  | 200 => (.iconst 2, 201, 0, 0, 2, [])
  | 201 => (.iadd, 202, 0, 0, 0, [])
  | 202 => (.iaload, 203, 0, 0, 0, [])
  | 203 => (.aload_n 0, 204, 0, 0, 0, [])
  | 204 => (.iload_n 3, 205, 3, 0, 0, [])
  | 205 => (.iconst 3, 206, 0, 0, 3, [])
  | 206 => (.iadd, 207, 0, 0, 0, [])
  | 207 => (.iaload, 208, 0, 0, 0, [])
  | 208 => (.invokevirtual 13, 211, 69, 4, 0, [6])
  | 211 => (.aload_n 2, 212, 2, 0, 0, [])
  | 212 => (.aload_n 0, 213, 0, 0, 0, [])
  | 213 => (.iload_n 3, 214, 3, 0, 0, [])
  | 214 => (.iconst 1, 215, 0, 0, 1, [])
  | 215 => (.iadd, 216, 0, 0, 0, [])
  | 216 => (.iaload, 217, 0, 0, 0, [])
  | 217 => (.aload_n 0, 218, 0, 0, 0, [])
  | 218 => (.iload_n 3, 219, 3, 0, 0, [])
  | 219 => (.iconst 2, 220, 0, 0, 2, [])
  | 220 => (.iadd, 221, 0, 0, 0, [])
  | 221 => (.iaload, 222, 0, 0, 0, [])
  | 222 => (.aload_n 0, 223, 0, 0, 0, [])
  | 223 => (.iload_n 3, 224, 3, 0, 0, [])
  | 224 => (.iconst 3, 225, 0, 0, 3, [])
  | 225 => (.iadd, 226, 0, 0, 0, [])
  | 226 => (.iaload, 227, 0, 0, 0, [])
  | 227 => (.invokevirtual 17, 230, 121, 4, 0, [7])
  | 230 => (.if_icmp .eq 970, 233, 1200, 0, 0, [])
  | 233 => (.iconst 0, 234, 0, 0, 0, [])
  | 234 => (.ireturn, 235, 1, 0, 0, [])
  | 235 => (.aload_n 1, 236, 1, 0, 0, [])
  | 236 => (.aload_n 0, 237, 0, 0, 0, [])
  | 237 => (.iload_n 3, 238, 3, 0, 0, [])
  | 238 => (.iconst 1, 239, 0, 0, 1, [])
  | 239 => (.iadd, 240, 0, 0, 0, [])
  | 240 => (.iaload, 241, 0, 0, 0, [])
  | 241 => (.aload_n 0, 242, 0, 0, 0, [])
  | 242 => (.iload_n 3, 243, 3, 0, 0, [])
  | 243 => (.iconst 2, 244, 0, 0, 2, [])
  | 244 => (.iadd, 245, 0, 0, 0, [])
  | 245 => (.iaload, 246, 0, 0, 0, [])
  | 246 => (.aload_n 0, 247, 0, 0, 0, [])
  | 247 => (.iload_n 3, 248, 3, 0, 0, [])
  | 248 => (.iconst 3, 249, 0, 0, 3, [])
  | 249 => (.iadd, 250, 0, 0, 0, [])
  | 250 => (.iaload, 251, 0, 0, 0, [])
  | 251 => (.invokevirtual 18, 254, 70, 4, 0, [6])
  | 254 => (.aload_n 2, 255, 2, 0, 0, [])
  | 255 => (.aload_n 0, 256, 0, 0, 0, [])
  | 256 => (.iload_n 3, 257, 3, 0, 0, [])
  | 257 => (.iconst 1, 258, 0, 0, 1, [])
  | 258 => (.iadd, 259, 0, 0, 0, [])
  | 259 => (.iaload, 260, 0, 0, 0, [])
  | 260 => (.aload_n 0, 261, 0, 0, 0, [])
  | 261 => (.iload_n 3, 262, 3, 0, 0, [])
  | 262 => (.iconst 2, 263, 0, 0, 2, [])
  | 263 => (.iadd, 264, 0, 0, 0, [])
  | 264 => (.iaload, 265, 0, 0, 0, [])
  | 265 => (.aload_n 0, 266, 0, 0, 0, [])
  | 266 => (.iload_n 3, 267, 3, 0, 0, [])
  | 267 => (.iconst 3, 268, 0, 0, 3, [])
  | 268 => (.iadd, 269, 0, 0, 0, [])
  | 269 => (.iaload, 270, 0, 0, 0, [])
  | 270 => (.invokevirtual 21, 273, 123, 4, 0, [7])
  | 273 => (.if_icmp .eq 927, 276, 1200, 0, 0, [])
  | 276 => (.iconst 0, 277, 0, 0, 0, [])
  | 277 => (.ireturn, 278, 1, 0, 0, [])
  | 278 => (.aload_n 1, 279, 1, 0, 0, [])
  | 279 => (.aload_n 0, 280, 0, 0, 0, [])
  | 280 => (.iload_n 3, 281, 3, 0, 0, [])
  | 281 => (.iconst 1, 282, 0, 0, 1, [])
  | 282 => (.iadd, 283, 0, 0, 0, [])
  | 283 => (.iaload, 284, 0, 0, 0, [])
  | 284 => (.aload_n 0, 285, 0, 0, 0, [])
  | 285 => (.iload_n 3, 286, 3, 0, 0, [])
  | 286 => (.iconst 2, 287, 0, 0, 2, [])
  | 287 => (.iadd, 288, 0, 0, 0, [])
  | 288 => (.iaload, 289, 0, 0, 0, [])
  | 289 => (.aload_n 0, 290, 0, 0, 0, [])
  | 290 => (.iload_n 3, 291, 3, 0, 0, [])
  | 291 => (.iconst 3, 292, 0, 0, 3, [])
  | 292 => (.iadd, 293, 0, 0, 0, [])
  | 293 => (.iaload, 294, 0, 0, 0, [])
  | 294 => (.aload_n 0, 295, 0, 0, 0, [])
  | 295 => (.iload_n 3, 296, 3, 0, 0, [])
  | 296 => (.iconst 4, 297, 0, 0, 4, [])
  | 297 => (.iadd, 298, 0, 0, 0, [])
  | 298 => (.iaload, 299, 0, 0, 0, [])
  | 299 => (.aload_n 0, 300, 0, 0, 0, [])
  | 300 => (.iload_n 3, 301, 3, 0, 0, [])
  | 301 => (.iconst 5, 302, 0, 0, 5, [])
  | 302 => (.iadd, 303, 0, 0, 0, [])
  | 303 => (.iaload, 304, 0, 0, 0, [])
  | 304 => (.invokevirtual 22, 307, 71, 6, 0, [6])
  | 307 => (.aload_n 2, 308, 2, 0, 0, [])
  | 308 => (.aload_n 0, 309, 0, 0, 0, [])
  | 309 => (.iload_n 3, 310, 3, 0, 0, [])
  | 310 => (.iconst 1, 311, 0, 0, 1, [])
  | 311 => (.iadd, 312, 0, 0, 0, [])
  | 312 => (.iaload, 313, 0, 0, 0, [])
  | 313 => (.aload_n 0, 314, 0, 0, 0, [])
  | 314 => (.iload_n 3, 315, 3, 0, 0, [])
  | 315 => (.iconst 2, 316, 0, 0, 2, [])
  | 316 => (.iadd, 317, 0, 0, 0, [])
  | 317 => (.iaload, 318, 0, 0, 0, [])
  | 318 => (.aload_n 0, 319, 0, 0, 0, [])
  | 319 => (.iload_n 3, 320, 3, 0, 0, [])
  | 320 => (.iconst 3, 321, 0, 0, 3, [])
  | 321 => (.iadd, 322, 0, 0, 0, [])
  | 322 => (.iaload, 323, 0, 0, 0, [])
  | 323 => (.aload_n 0, 324, 0, 0, 0, [])
  | 324 => (.iload_n 3, 325, 3, 0, 0, [])
  | 325 => (.iconst 4, 326, 0, 0, 4, [])
  | 326 => (.iadd, 327, 0, 0, 0, [])
  | 327 => (.iaload, 328, 0, 0, 0, [])
  | 328 => (.aload_n 0, 329, 0, 0, 0, [])
  | 329 => (.iload_n 3, 330, 3, 0, 0, [])
  | 330 => (.iconst 5, 331, 0, 0, 5, [])
  | 331 => (.iadd, 332, 0, 0, 0, [])
  | 332 => (.iaload, 333, 0, 0, 0, [])
  | 333 => (.invokevirtual 26, 336, 124, 6, 0, [7])
  | 336 => (.if_icmp .eq 864, 339, 1200, 0, 0, [])
  | 339 => (.iconst 0, 340, 0, 0, 0, [])
  | 340 => (.ireturn, 341, 1, 0, 0, [])
  | 341 => (.aload_n 1, 342, 1, 0, 0, [])
  | 342 => (.aload_n 0, 343, 0, 0, 0, [])
  | 343 => (.iload_n 3, 344, 3, 0, 0, [])
  | 344 => (.iconst 1, 345, 0, 0, 1, [])
  | 345 => (.iadd, 346, 0, 0, 0, [])
  | 346 => (.iaload, 347, 0, 0, 0, [])
  | 347 => (.invokevirtual 27, 350, 72, 2, 0, [6])
  | 350 => (.aload_n 2, 351, 2, 0, 0, [])
  | 351 => (.aload_n 0, 352, 0, 0, 0, [])
  | 352 => (.iload_n 3, 353, 3, 0, 0, [])
  | 353 => (.iconst 1, 354, 0, 0, 1, [])
  | 354 => (.iadd, 355, 0, 0, 0, [])
  | 355 => (.iaload, 356, 0, 0, 0, [])
  | 356 => (.invokevirtual 31, 359, 125, 2, 0, [7])
  | 359 => (.if_icmp .eq 841, 362, 1200, 0, 0, [])
  | 362 => (.iconst 0, 363, 0, 0, 0, [])
  | 363 => (.ireturn, 364, 1, 0, 0, [])
  | 364 => (.aload_n 1, 365, 1, 0, 0, [])
  | 365 => (.aload_n 0, 366, 0, 0, 0, [])
  | 366 => (.iload_n 3, 367, 3, 0, 0, [])
  | 367 => (.iconst 1, 368, 0, 0, 1, [])
  | 368 => (.iadd, 369, 0, 0, 0, [])
  | 369 => (.iaload, 370, 0, 0, 0, [])
  | 370 => (.invokevirtual 32, 373, 73, 2, 0, [6])
  | 373 => (.aload_n 2, 374, 2, 0, 0, [])
  | 374 => (.aload_n 0, 375, 0, 0, 0, [])
  | 375 => (.iload_n 3, 376, 3, 0, 0, [])
  | 376 => (.iconst 1, 377, 0, 0, 1, [])
  | 377 => (.iadd, 378, 0, 0, 0, [])
  | 378 => (.iaload, 379, 0, 0, 0, [])
  | 379 => (.invokevirtual 35, 382, 126, 2, 0, [7])
  | 382 => (.if_icmp .eq 818, 385, 1200, 0, 0, [])
  | 385 => (.iconst 0, 386, 0, 0, 0, [])
  | 386 => (.ireturn, 387, 1, 0, 0, [])
  | 387 => (.aload_n 1, 388, 1, 0, 0, [])
  | 388 => (.invokevirtual 36, 391, 74, 1, 0, [6])
  | 391 => (.aload_n 2, 392, 2, 0, 0, [])
  | 392 => (.invokevirtual 40, 395, 135, 1, 0, [7])
  | 395 => (.if_icmp .eq 805, 398, 1200, 0, 0, [])
  | 398 => (.iconst 0, 399, 0, 0, 0, [])
  | 399 => (.ireturn, 400, 1, 0, 0, [])
  | 400 => (.aload_n 1, 401, 1, 0, 0, [])
  | 401 => (.invokevirtual 41, 404, 75, 1, 0, [6])
  | 404 => (.aload_n 2, 405, 2, 0, 0, [])
  | 405 => (.invokevirtual 44, 408, 136, 1, 0, [7])
  | 408 => (.if_icmp .eq 792, 411, 1200, 0, 0, [])
  | 411 => (.iconst 0, 412, 0, 0, 0, [])
  | 412 => (.ireturn, 413, 1, 0, 0, [])
  | 413 => (.aload_n 1, 414, 1, 0, 0, [])
  | 414 => (.aload_n 0, 415, 0, 0, 0, [])
  | 415 => (.iload_n 3, 416, 3, 0, 0, [])
  | 416 => (.iconst 1, 417, 0, 0, 1, [])
  | 417 => (.iadd, 418, 0, 0, 0, [])
  | 418 => (.iaload, 419, 0, 0, 0, [])
  | 419 => (.invokevirtual 45, 422, 76, 2, 0, [6])
  | 422 => (.aload_n 2, 423, 2, 0, 0, [])
  | 423 => (.aload_n 0, 424, 0, 0, 0, [])
  | 424 => (.iload_n 3, 425, 3, 0, 0, [])
  | 425 => (.iconst 1, 426, 0, 0, 1, [])
  | 426 => (.iadd, 427, 0, 0, 0, [])
  | 427 => (.iaload, 428, 0, 0, 0, [])
  | 428 => (.invokevirtual 48, 431, 143, 2, 0, [7])
  | 431 => (.if_icmp .eq 769, 434, 1200, 0, 0, [])
  | 434 => (.iconst 0, 435, 0, 0, 0, [])
  | 435 => (.ireturn, 436, 1, 0, 0, [])
  | 436 => (.aload_n 1, 437, 1, 0, 0, [])
  | 437 => (.aload_n 0, 438, 0, 0, 0, [])
  | 438 => (.iload_n 3, 439, 3, 0, 0, [])
  | 439 => (.iconst 1, 440, 0, 0, 1, [])
  | 440 => (.iadd, 441, 0, 0, 0, [])
  | 441 => (.iaload, 442, 0, 0, 0, [])
  | 442 => (.invokevirtual 49, 445, 77, 2, 0, [6])
  | 445 => (.aload_n 2, 446, 2, 0, 0, [])
  | 446 => (.aload_n 0, 447, 0, 0, 0, [])
  | 447 => (.iload_n 3, 448, 3, 0, 0, [])
  | 448 => (.iconst 1, 449, 0, 0, 1, [])
  | 449 => (.iadd, 450, 0, 0, 0, [])
  | 450 => (.iaload, 451, 0, 0, 0, [])
  | 451 => (.invokevirtual 52, 454, 144, 2, 0, [7])
  | 454 => (.if_icmp .eq 746, 457, 1200, 0, 0, [])
  | 457 => (.iconst 0, 458, 0, 0, 0, [])
  | 458 => (.ireturn, 459, 1, 0, 0, [])
  | 459 => (.aload_n 1, 460, 1, 0, 0, [])
  | 460 => (.aload_n 0, 461, 0, 0, 0, [])
  | 461 => (.iload_n 3, 462, 3, 0, 0, [])
  | 462 => (.iconst 1, 463, 0, 0, 1, [])
  | 463 => (.iadd, 464, 0, 0, 0, [])
  | 464 => (.iaload, 465, 0, 0, 0, [])
  | 465 => (.invokevirtual 53, 468, 78, 2, 0, [6])
  | 468 => (.aload_n 2, 469, 2, 0, 0, [])
  | 469 => (.aload_n 0, 470, 0, 0, 0, [])
  | 470 => (.iload_n 3, 471, 3, 0, 0, [])
  | 471 => (.iconst 1, 472, 0, 0, 1, [])
  | 472 => (.iadd, 473, 0, 0, 0, [])
  | 473 => (.iaload, 474, 0, 0, 0, [])
  | 474 => (.invokevirtual 56, 477, 146, 2, 0, [7])
  | 477 => (.if_icmp .eq 723, 480, 1200, 0, 0, [])
  | 480 => (.iconst 0, 481, 0, 0, 0, [])
  | 481 => (.ireturn, 482, 1, 0, 0, [])
  | 482 => (.aload_n 1, 483, 1, 0, 0, [])
  | 483 => (.aload_n 0, 484, 0, 0, 0, [])
  | 484 => (.iload_n 3, 485, 3, 0, 0, [])
  | 485 => (.iconst 1, 486, 0, 0, 1, [])
  | 486 => (.iadd, 487, 0, 0, 0, [])
  | 487 => (.iaload, 488, 0, 0, 0, [])
  | 488 => (.invokevirtual 57, 491, 79, 2, 0, [6])
  | 491 => (.aload_n 2, 492, 2, 0, 0, [])
  | 492 => (.aload_n 0, 493, 0, 0, 0, [])
  | 493 => (.iload_n 3, 494, 3, 0, 0, [])
  | 494 => (.iconst 1, 495, 0, 0, 1, [])
  | 495 => (.iadd, 496, 0, 0, 0, [])
  | 496 => (.iaload, 497, 0, 0, 0, [])
  | 497 => (.invokevirtual 60, 500, 147, 2, 0, [7])
  | 500 => (.if_icmp .eq 700, 503, 1200, 0, 0, [])
  | 503 => (.iconst 0, 504, 0, 0, 0, [])
  | 504 => (.ireturn, 505, 1, 0, 0, [])
  | 505 => (.aload_n 1, 506, 1, 0, 0, [])
  | 506 => (.aload_n 0, 507, 0, 0, 0, [])
  | 507 => (.iload_n 3, 508, 3, 0, 0, [])
  | 508 => (.iconst 1, 509, 0, 0, 1, [])
  | 509 => (.iadd, 510, 0, 0, 0, [])
  | 510 => (.iaload, 511, 0, 0, 0, [])
  | 511 => (.invokevirtual 61, 514, 80, 2, 0, [6])
  | 514 => (.aload_n 2, 515, 2, 0, 0, [])
  | 515 => (.aload_n 0, 516, 0, 0, 0, [])
  | 516 => (.iload_n 3, 517, 3, 0, 0, [])
  | 517 => (.iconst 1, 518, 0, 0, 1, [])
  | 518 => (.iadd, 519, 0, 0, 0, [])
  | 519 => (.iaload, 520, 0, 0, 0, [])
  | 520 => (.invokevirtual 64, 523, 148, 2, 0, [7])
  | 523 => (.if_icmp .eq 677, 526, 1200, 0, 0, [])
  | 526 => (.iconst 0, 527, 0, 0, 0, [])
  | 527 => (.ireturn, 528, 1, 0, 0, [])
  | 528 => (.aload_n 1, 529, 1, 0, 0, [])
  | 529 => (.invokevirtual 65, 532, 81, 1, 0, [6])
  | 532 => (.aload_n 2, 533, 2, 0, 0, [])
  | 533 => (.invokevirtual 68, 536, 149, 1, 0, [7])
  | 536 => (.if_icmp .eq 664, 539, 1200, 0, 0, [])
  | 539 => (.iconst 0, 540, 0, 0, 0, [])
  | 540 => (.ireturn, 541, 1, 0, 0, [])
  | 541 => (.aload_n 1, 542, 1, 0, 0, [])
  | 542 => (.aload_n 0, 543, 0, 0, 0, [])
  | 543 => (.iload_n 3, 544, 3, 0, 0, [])
  | 544 => (.iconst 1, 545, 0, 0, 1, [])
  | 545 => (.iadd, 546, 0, 0, 0, [])
  | 546 => (.iaload, 547, 0, 0, 0, [])
  | 547 => (.aload_n 0, 548, 0, 0, 0, [])
  | 548 => (.iload_n 3, 549, 3, 0, 0, [])
  | 549 => (.iconst 2, 550, 0, 0, 2, [])
  | 550 => (.iadd, 551, 0, 0, 0, [])
  | 551 => (.iaload, 552, 0, 0, 0, [])
  | 552 => (.invokevirtual 69, 555, 82, 3, 0, [6])
  | 555 => (.aload_n 2, 556, 2, 0, 0, [])
  | 556 => (.aload_n 0, 557, 0, 0, 0, [])
  | 557 => (.iload_n 3, 558, 3, 0, 0, [])
  | 558 => (.iconst 1, 559, 0, 0, 1, [])
  | 559 => (.iadd, 560, 0, 0, 0, [])
  | 560 => (.iaload, 561, 0, 0, 0, [])
  | 561 => (.aload_n 0, 562, 0, 0, 0, [])
  | 562 => (.iload_n 3, 563, 3, 0, 0, [])
  | 563 => (.iconst 2, 564, 0, 0, 2, [])
  | 564 => (.iadd, 565, 0, 0, 0, [])
  | 565 => (.iaload, 566, 0, 0, 0, [])
  | 566 => (.invokevirtual 73, 569, 150, 3, 0, [7])
  | 569 => (.if_icmp .eq 631, 572, 1200, 0, 0, [])
  | 572 => (.iconst 0, 573, 0, 0, 0, [])
  | 573 => (.ireturn, 574, 1, 0, 0, [])
  | 574 => (.aload_n 1, 575, 1, 0, 0, [])
  | 575 => (.aload_n 0, 576, 0, 0, 0, [])
  | 576 => (.iload_n 3, 577, 3, 0, 0, [])
  | 577 => (.iconst 1, 578, 0, 0, 1, [])
  | 578 => (.iadd, 579, 0, 0, 0, [])
  | 579 => (.iaload, 580, 0, 0, 0, [])
  | 580 => (.aload_n 0, 581, 0, 0, 0, [])
  | 581 => (.iload_n 3, 582, 3, 0, 0, [])
  | 582 => (.iconst 2, 583, 0, 0, 2, [])
  | 583 => (.iadd, 584, 0, 0, 0, [])
  | 584 => (.iaload, 585, 0, 0, 0, [])
  | 585 => (.invokevirtual 74, 588, 83, 3, 0, [6])
  | 588 => (.aload_n 2, 589, 2, 0, 0, [])
  | 589 => (.aload_n 0, 590, 0, 0, 0, [])
  | 590 => (.iload_n 3, 591, 3, 0, 0, [])
  | 591 => (.iconst 1, 592, 0, 0, 1, [])
  | 592 => (.iadd, 593, 0, 0, 0, [])
  | 593 => (.iaload, 594, 0, 0, 0, [])
  | 594 => (.aload_n 0, 595, 0, 0, 0, [])
  | 595 => (.iload_n 3, 596, 3, 0, 0, [])
  | 596 => (.iconst 2, 597, 0, 0, 2, [])
  | 597 => (.iadd, 598, 0, 0, 0, [])
  | 598 => (.iaload, 599, 0, 0, 0, [])
  | 599 => (.invokevirtual 77, 602, 151, 3, 0, [7])
  | 602 => (.if_icmp .eq 598, 605, 1200, 0, 0, [])
  | 605 => (.iconst 0, 606, 0, 0, 0, [])
  | 606 => (.ireturn, 607, 1, 0, 0, [])
  | 607 => (.aload_n 1, 608, 1, 0, 0, [])
  | 608 => (.aload_n 0, 609, 0, 0, 0, [])
  | 609 => (.iload_n 3, 610, 3, 0, 0, [])
  | 610 => (.iconst 1, 611, 0, 0, 1, [])
  | 611 => (.iadd, 612, 0, 0, 0, [])
  | 612 => (.iaload, 613, 0, 0, 0, [])
  | 613 => (.invokevirtual 78, 616, 84, 2, 0, [6])
  | 616 => (.aload_n 2, 617, 2, 0, 0, [])
  | 617 => (.aload_n 0, 618, 0, 0, 0, [])
  | 618 => (.iload_n 3, 619, 3, 0, 0, [])
  | 619 => (.iconst 1, 620, 0, 0, 1, [])
  | 620 => (.iadd, 621, 0, 0, 0, [])
  | 621 => (.iaload, 622, 0, 0, 0, [])
  | 622 => (.invokevirtual 81, 625, 152, 2, 0, [7])
  | 625 => (.if_icmp .eq 575, 628, 1200, 0, 0, [])
  | 628 => (.iconst 0, 629, 0, 0, 0, [])
  | 629 => (.ireturn, 630, 1, 0, 0, [])
  | 630 => (.aload_n 1, 631, 1, 0, 0, [])
  | 631 => (.aload_n 0, 632, 0, 0, 0, [])
  | 632 => (.iload_n 3, 633, 3, 0, 0, [])
  | 633 => (.iconst 1, 634, 0, 0, 1, [])
  | 634 => (.iadd, 635, 0, 0, 0, [])
  | 635 => (.iaload, 636, 0, 0, 0, [])
  | 636 => (.invokevirtual 82, 639, 85, 2, 0, [6])
  | 639 => (.aload_n 2, 640, 2, 0, 0, [])
  | 640 => (.aload_n 0, 641, 0, 0, 0, [])
  | 641 => (.iload_n 3, 642, 3, 0, 0, [])
  | 642 => (.iconst 1, 643, 0, 0, 1, [])
  | 643 => (.iadd, 644, 0, 0, 0, [])
  | 644 => (.iaload, 645, 0, 0, 0, [])
  | 645 => (.invokevirtual 85, 648, 157, 2, 0, [7])
  | 648 => (.if_icmp .eq 552, 651, 1200, 0, 0, [])
  | 651 => (.iconst 0, 652, 0, 0, 0, [])
  | 652 => (.ireturn, 653, 1, 0, 0, [])
  | 653 => (.aload_n 1, 654, 1, 0, 0, [])
  | 654 => (.aload_n 0, 655, 0, 0, 0, [])
  | 655 => (.iload_n 3, 656, 3, 0, 0, [])
  | 656 => (.iconst 1, 657, 0, 0, 1, [])
  | 657 => (.iadd, 658, 0, 0, 0, [])
  | 658 => (.iaload, 659, 0, 0, 0, [])
  | 659 => (.invokevirtual 86, 662, 86, 2, 0, [6])
  | 662 => (.aload_n 2, 663, 2, 0, 0, [])
  | 663 => (.aload_n 0, 664, 0, 0, 0, [])
  | 664 => (.iload_n 3, 665, 3, 0, 0, [])
  | 665 => (.iconst 1, 666, 0, 0, 1, [])
  | 666 => (.iadd, 667, 0, 0, 0, [])
  | 667 => (.iaload, 668, 0, 0, 0, [])
  | 668 => (.invokevirtual 89, 671, 158, 2, 0, [7])
  | 671 => (.if_icmp .eq 529, 674, 1200, 0, 0, [])
  | 674 => (.iconst 0, 675, 0, 0, 0, [])
  | 675 => (.ireturn, 676, 1, 0, 0, [])
  | 676 => (.aload_n 1, 677, 1, 0, 0, [])
  | 677 => (.aload_n 0, 678, 0, 0, 0, [])
  | 678 => (.iload_n 3, 679, 3, 0, 0, [])
  | 679 => (.iconst 1, 680, 0, 0, 1, [])
  | 680 => (.iadd, 681, 0, 0, 0, [])
  | 681 => (.iaload, 682, 0, 0, 0, [])
  | 682 => (.invokevirtual 90, 685, 87, 2, 0, [6])
  | 685 => (.aload_n 2, 686, 2, 0, 0, [])
  | 686 => (.aload_n 0, 687, 0, 0, 0, [])
  | 687 => (.iload_n 3, 688, 3, 0, 0, [])
  | 688 => (.iconst 1, 689, 0, 0, 1, [])
  | 689 => (.iadd, 690, 0, 0, 0, [])
  | 690 => (.iaload, 691, 0, 0, 0, [])
  | 691 => (.invokevirtual 93, 694, 159, 2, 0, [7])
  | 694 => (.if_icmp .eq 506, 697, 1200, 0, 0, [])
  | 697 => (.iconst 0, 698, 0, 0, 0, [])
  | 698 => (.ireturn, 699, 1, 0, 0, [])
  | 699 => (.aload_n 1, 700, 1, 0, 0, [])
  | 700 => (.aload_n 0, 701, 0, 0, 0, [])
  | 701 => (.iload_n 3, 702, 3, 0, 0, [])
  | 702 => (.iconst 1, 703, 0, 0, 1, [])
  | 703 => (.iadd, 704, 0, 0, 0, [])
  | 704 => (.iaload, 705, 0, 0, 0, [])
  | 705 => (.invokevirtual 94, 708, 88, 2, 0, [6])
  | 708 => (.aload_n 2, 709, 2, 0, 0, [])
  | 709 => (.aload_n 0, 710, 0, 0, 0, [])
  | 710 => (.iload_n 3, 711, 3, 0, 0, [])
  | 711 => (.iconst 1, 712, 0, 0, 1, [])
  | 712 => (.iadd, 713, 0, 0, 0, [])
  | 713 => (.iaload, 714, 0, 0, 0, [])
  | 714 => (.invokevirtual 97, 717, 161, 2, 0, [7])
  | 717 => (.if_icmp .eq 483, 720, 1200, 0, 0, [])
  | 720 => (.iconst 0, 721, 0, 0, 0, [])
  | 721 => (.ireturn, 722, 1, 0, 0, [])
  | 722 => (.aload_n 1, 723, 1, 0, 0, [])
  | 723 => (.aload_n 0, 724, 0, 0, 0, [])
  | 724 => (.iload_n 3, 725, 3, 0, 0, [])
  | 725 => (.iconst 1, 726, 0, 0, 1, [])
  | 726 => (.iadd, 727, 0, 0, 0, [])
  | 727 => (.iaload, 728, 0, 0, 0, [])
  | 728 => (.invokevirtual 98, 731, 89, 2, 0, [6])
  | 731 => (.aload_n 2, 732, 2, 0, 0, [])
  | 732 => (.aload_n 0, 733, 0, 0, 0, [])
  | 733 => (.iload_n 3, 734, 3, 0, 0, [])
  | 734 => (.iconst 1, 735, 0, 0, 1, [])
  | 735 => (.iadd, 736, 0, 0, 0, [])
  | 736 => (.iaload, 737, 0, 0, 0, [])
  | 737 => (.invokevirtual 101, 740, 163, 2, 0, [7])
  | 740 => (.if_icmp .eq 460, 743, 1200, 0, 0, [])
  | 743 => (.iconst 0, 744, 0, 0, 0, [])
  | 744 => (.ireturn, 745, 1, 0, 0, [])
  | 745 => (.aload_n 1, 746, 1, 0, 0, [])
  | 746 => (.invokevirtual 102, 749, 90, 1, 0, [6])
  | 749 => (.aload_n 2, 750, 2, 0, 0, [])
  | 750 => (.invokevirtual 105, 753, 164, 1, 0, [7])
  | 753 => (.if_icmp .eq 447, 756, 1200, 0, 0, [])
  | 756 => (.iconst 0, 757, 0, 0, 0, [])
  | 757 => (.ireturn, 758, 1, 0, 0, [])
  | 758 => (.aload_n 1, 759, 1, 0, 0, [])
  | 759 => (.aload_n 0, 760, 0, 0, 0, [])
  | 760 => (.iload_n 3, 761, 3, 0, 0, [])
  | 761 => (.iconst 1, 762, 0, 0, 1, [])
  | 762 => (.iadd, 763, 0, 0, 0, [])
  | 763 => (.iaload, 764, 0, 0, 0, [])
  | 764 => (.aload_n 0, 765, 0, 0, 0, [])
  | 765 => (.iload_n 3, 766, 3, 0, 0, [])
  | 766 => (.iconst 2, 767, 0, 0, 2, [])
  | 767 => (.iadd, 768, 0, 0, 0, [])
  | 768 => (.iaload, 769, 0, 0, 0, [])
  | 769 => (.invokevirtual 106, 772, 91, 3, 0, [6])
  | 772 => (.aload_n 2, 773, 2, 0, 0, [])
  | 773 => (.aload_n 0, 774, 0, 0, 0, [])
  | 774 => (.iload_n 3, 775, 3, 0, 0, [])
  | 775 => (.iconst 1, 776, 0, 0, 1, [])
  | 776 => (.iadd, 777, 0, 0, 0, [])
  | 777 => (.iaload, 778, 0, 0, 0, [])
  | 778 => (.aload_n 0, 779, 0, 0, 0, [])
  | 779 => (.iload_n 3, 780, 3, 0, 0, [])
  | 780 => (.iconst 2, 781, 0, 0, 2, [])
  | 781 => (.iadd, 782, 0, 0, 0, [])
  | 782 => (.iaload, 783, 0, 0, 0, [])
  | 783 => (.invokevirtual 109, 786, 165, 3, 0, [7])
  | 786 => (.if_icmp .eq 414, 789, 1200, 0, 0, [])
  | 789 => (.iconst 0, 790, 0, 0, 0, [])
  | 790 => (.ireturn, 791, 1, 0, 0, [])
  | 791 => (.aload_n 1, 792, 1, 0, 0, [])
  | 792 => (.aload_n 0, 793, 0, 0, 0, [])
  | 793 => (.iload_n 3, 794, 3, 0, 0, [])
  | 794 => (.iconst 1, 795, 0, 0, 1, [])
  | 795 => (.iadd, 796, 0, 0, 0, [])
  | 796 => (.iaload, 797, 0, 0, 0, [])
  | 797 => (.aload_n 0, 798, 0, 0, 0, [])
  | 798 => (.iload_n 3, 799, 3, 0, 0, [])
  | 799 => (.iconst 2, 800, 0, 0, 2, [])
  | 800 => (.iadd, 801, 0, 0, 0, [])
  | 801 => (.iaload, 802, 0, 0, 0, [])
  | 802 => (.invokevirtual 110, 805, 92, 3, 0, [6])
  | 805 => (.aload_n 2, 806, 2, 0, 0, [])
  | 806 => (.aload_n 0, 807, 0, 0, 0, [])
  | 807 => (.iload_n 3, 808, 3, 0, 0, [])
  | 808 => (.iconst 1, 809, 0, 0, 1, [])
  | 809 => (.iadd, 810, 0, 0, 0, [])
  | 810 => (.iaload, 811, 0, 0, 0, [])
  | 811 => (.aload_n 0, 812, 0, 0, 0, [])
  | 812 => (.iload_n 3, 813, 3, 0, 0, [])
  | 813 => (.iconst 2, 814, 0, 0, 2, [])
  | 814 => (.iadd, 815, 0, 0, 0, [])
  | 815 => (.iaload, 816, 0, 0, 0, [])
  | 816 => (.invokevirtual 113, 819, 166, 3, 0, [7])
  | 819 => (.if_icmp .eq 381, 822, 1200, 0, 0, [])
  | 822 => (.iconst 0, 823, 0, 0, 0, [])
  | 823 => (.ireturn, 824, 1, 0, 0, [])
  | 824 => (.aload_n 1, 825, 1, 0, 0, [])
  | 825 => (.aload_n 0, 826, 0, 0, 0, [])
  | 826 => (.iload_n 3, 827, 3, 0, 0, [])
  | 827 => (.iconst 1, 828, 0, 0, 1, [])
  | 828 => (.iadd, 829, 0, 0, 0, [])
  | 829 => (.iaload, 830, 0, 0, 0, [])
  | 830 => (.aload_n 0, 831, 0, 0, 0, [])
  | 831 => (.iload_n 3, 832, 3, 0, 0, [])
  | 832 => (.iconst 2, 833, 0, 0, 2, [])
  | 833 => (.iadd, 834, 0, 0, 0, [])
  | 834 => (.iaload, 835, 0, 0, 0, [])
  | 835 => (.invokevirtual 114, 838, 93, 3, 0, [6])
  | 838 => (.aload_n 2, 839, 2, 0, 0, [])
  | 839 => (.aload_n 0, 840, 0, 0, 0, [])
  | 840 => (.iload_n 3, 841, 3, 0, 0, [])
  | 841 => (.iconst 1, 842, 0, 0, 1, [])
  | 842 => (.iadd, 843, 0, 0, 0, [])
  | 843 => (.iaload, 844, 0, 0, 0, [])
  | 844 => (.aload_n 0, 845, 0, 0, 0, [])
  | 845 => (.iload_n 3, 846, 3, 0, 0, [])
  | 846 => (.iconst 2, 847, 0, 0, 2, [])
  | 847 => (.iadd, 848, 0, 0, 0, [])
  | 848 => (.iaload, 849, 0, 0, 0, [])
  | 849 => (.invokevirtual 117, 852, 168, 3, 0, [7])
  | 852 => (.if_icmp .eq 348, 855, 1200, 0, 0, [])
  | 855 => (.iconst 0, 856, 0, 0, 0, [])
  | 856 => (.ireturn, 857, 1, 0, 0, [])
  | 857 => (.aload_n 1, 858, 1, 0, 0, [])
  | 858 => (.aload_n 0, 859, 0, 0, 0, [])
  | 859 => (.iload_n 3, 860, 3, 0, 0, [])
  | 860 => (.iconst 1, 861, 0, 0, 1, [])
  | 861 => (.iadd, 862, 0, 0, 0, [])
  | 862 => (.iaload, 863, 0, 0, 0, [])
  | 863 => (.aload_n 0, 864, 0, 0, 0, [])
  | 864 => (.iload_n 3, 865, 3, 0, 0, [])
  | 865 => (.iconst 2, 866, 0, 0, 2, [])
  | 866 => (.iadd, 867, 0, 0, 0, [])
  | 867 => (.iaload, 868, 0, 0, 0, [])
  | 868 => (.aload_n 0, 869, 0, 0, 0, [])
  | 869 => (.iload_n 3, 870, 3, 0, 0, [])
  | 870 => (.iconst 3, 871, 0, 0, 3, [])
  | 871 => (.iadd, 872, 0, 0, 0, [])
  | 872 => (.iaload, 873, 0, 0, 0, [])
  | 873 => (.invokevirtual 118, 876, 94, 4, 0, [6])
  | 876 => (.aload_n 2, 877, 2, 0, 0, [])
  | 877 => (.aload_n 0, 878, 0, 0, 0, [])
  | 878 => (.iload_n 3, 879, 3, 0, 0, [])
  | 879 => (.iconst 1, 880, 0, 0, 1, [])
  | 880 => (.iadd, 881, 0, 0, 0, [])
  | 881 => (.iaload, 882, 0, 0, 0, [])
  | 882 => (.aload_n 0, 883, 0, 0, 0, [])
  | 883 => (.iload_n 3, 884, 3, 0, 0, [])
  | 884 => (.iconst 2, 885, 0, 0, 2, [])
  | 885 => (.iadd, 886, 0, 0, 0, [])
  | 886 => (.iaload, 887, 0, 0, 0, [])
  | 887 => (.aload_n 0, 888, 0, 0, 0, [])
  | 888 => (.iload_n 3, 889, 3, 0, 0, [])
  | 889 => (.iconst 3, 890, 0, 0, 3, [])
  | 890 => (.iadd, 891, 0, 0, 0, [])
  | 891 => (.iaload, 892, 0, 0, 0, [])
  | 892 => (.invokevirtual 121, 895, 169, 4, 0, [7])
  | 895 => (.if_icmp .eq 305, 898, 1200, 0, 0, [])
  | 898 => (.iconst 0, 899, 0, 0, 0, [])
  | 899 => (.ireturn, 900, 1, 0, 0, [])
  | 900 => (.aload_n 1, 901, 1, 0, 0, [])
  | 901 => (.aload_n 0, 902, 0, 0, 0, [])
  | 902 => (.iload_n 3, 903, 3, 0, 0, [])
  | 903 => (.iconst 1, 904, 0, 0, 1, [])
  | 904 => (.iadd, 905, 0, 0, 0, [])
  | 905 => (.iaload, 906, 0, 0, 0, [])
  | 906 => (.aload_n 0, 907, 0, 0, 0, [])
  | 907 => (.iload_n 3, 908, 3, 0, 0, [])
  | 908 => (.iconst 2, 909, 0, 0, 2, [])
  | 909 => (.iadd, 910, 0, 0, 0, [])
  | 910 => (.iaload, 911, 0, 0, 0, [])
  | 911 => (.aload_n 0, 912, 0, 0, 0, [])
  | 912 => (.iload_n 3, 913, 3, 0, 0, [])
  | 913 => (.iconst 3, 914, 0, 0, 3, [])
  | 914 => (.iadd, 915, 0, 0, 0, [])
  | 915 => (.iaload, 916, 0, 0, 0, [])
  | 916 => (.aload_n 0, 917, 0, 0, 0, [])
  | 917 => (.iload_n 3, 918, 3, 0, 0, [])
  | 918 => (.iconst 4, 919, 0, 0, 4, [])
  | 919 => (.iadd, 920, 0, 0, 0, [])
  | 920 => (.iaload, 921, 0, 0, 0, [])
  | 921 => (.invokevirtual 122, 924, 95, 5, 0, [6])
  | 924 => (.aload_n 2, 925, 2, 0, 0, [])
  | 925 => (.aload_n 0, 926, 0, 0, 0, [])
  | 926 => (.iload_n 3, 927, 3, 0, 0, [])
  | 927 => (.iconst 1, 928, 0, 0, 1, [])
  | 928 => (.iadd, 929, 0, 0, 0, [])
  | 929 => (.iaload, 930, 0, 0, 0, [])
  | 930 => (.aload_n 0, 931, 0, 0, 0, [])
  | 931 => (.iload_n 3, 932, 3, 0, 0, [])
  | 932 => (.iconst 2, 933, 0, 0, 2, [])
  | 933 => (.iadd, 934, 0, 0, 0, [])
  | 934 => (.iaload, 935, 0, 0, 0, [])
  | 935 => (.aload_n 0, 936, 0, 0, 0, [])
  | 936 => (.iload_n 3, 937, 3, 0, 0, [])
  | 937 => (.iconst 3, 938, 0, 0, 3, [])
  | 938 => (.iadd, 939, 0, 0, 0, [])
  | 939 => (.iaload, 940, 0, 0, 0, [])
  | 940 => (.aload_n 0, 941, 0, 0, 0, [])
  | 941 => (.iload_n 3, 942, 3, 0, 0, [])
  | 942 => (.iconst 4, 943, 0, 0, 4, [])
  | 943 => (.iadd, 944, 0, 0, 0, [])
  | 944 => (.iaload, 945, 0, 0, 0, [])
  | 945 => (.invokevirtual 126, 948, 172, 5, 0, [7])
  | 948 => (.if_icmp .eq 252, 951, 1200, 0, 0, [])
  | 951 => (.iconst 0, 952, 0, 0, 0, [])
  | 952 => (.ireturn, 953, 1, 0, 0, [])
  | 953 => (.aload_n 1, 954, 1, 0, 0, [])
  | 954 => (.aload_n 0, 955, 0, 0, 0, [])
  | 955 => (.iload_n 3, 956, 3, 0, 0, [])
  | 956 => (.iconst 1, 957, 0, 0, 1, [])
  | 957 => (.iadd, 958, 0, 0, 0, [])
  | 958 => (.iaload, 959, 0, 0, 0, [])
  | 959 => (.aload_n 0, 960, 0, 0, 0, [])
  | 960 => (.iload_n 3, 961, 3, 0, 0, [])
  | 961 => (.iconst 2, 962, 0, 0, 2, [])
  | 962 => (.iadd, 963, 0, 0, 0, [])
  | 963 => (.iaload, 964, 0, 0, 0, [])
  | 964 => (.aload_n 0, 965, 0, 0, 0, [])
  | 965 => (.iload_n 3, 966, 3, 0, 0, [])
  | 966 => (.iconst 3, 967, 0, 0, 3, [])
  | 967 => (.iadd, 968, 0, 0, 0, [])
  | 968 => (.iaload, 969, 0, 0, 0, [])
  | 969 => (.aload_n 0, 970, 0, 0, 0, [])
  | 970 => (.iload_n 3, 971, 3, 0, 0, [])
  | 971 => (.iconst 4, 972, 0, 0, 4, [])
  | 972 => (.iadd, 973, 0, 0, 0, [])
  | 973 => (.iaload, 974, 0, 0, 0, [])
  | 974 => (.invokevirtual 127, 977, 96, 5, 0, [6])
  | 977 => (.aload_n 2, 978, 2, 0, 0, [])
  | 978 => (.aload_n 0, 979, 0, 0, 0, [])
  | 979 => (.iload_n 3, 980, 3, 0, 0, [])
  | 980 => (.iconst 1, 981, 0, 0, 1, [])
  | 981 => (.iadd, 982, 0, 0, 0, [])
  | 982 => (.iaload, 983, 0, 0, 0, [])
  | 983 => (.aload_n 0, 984, 0, 0, 0, [])
  | 984 => (.iload_n 3, 985, 3, 0, 0, [])
  | 985 => (.iconst 2, 986, 0, 0, 2, [])
  | 986 => (.iadd, 987, 0, 0, 0, [])
  | 987 => (.iaload, 988, 0, 0, 0, [])
  | 988 => (.aload_n 0, 989, 0, 0, 0, [])
  | 989 => (.iload_n 3, 990, 3, 0, 0, [])
  | 990 => (.iconst 3, 991, 0, 0, 3, [])
  | 991 => (.iadd, 992, 0, 0, 0, [])
  | 992 => (.iaload, 993, 0, 0, 0, [])
  | 993 => (.aload_n 0, 994, 0, 0, 0, [])
  | 994 => (.iload_n 3, 995, 3, 0, 0, [])
  | 995 => (.iconst 4, 996, 0, 0, 4, [])
  | 996 => (.iadd, 997, 0, 0, 0, [])
  | 997 => (.iaload, 998, 0, 0, 0, [])
  | 998 => (.invokevirtual 130, 1001, 173, 5, 0, [7])
  | 1001 => (.if_icmp .eq 199, 1004, 1200, 0, 0, [])
  | 1004 => (.iconst 0, 1005, 0, 0, 0, [])
  | 1005 => (.ireturn, 1006, 1, 0, 0, [])
  | 1006 => (.aload_n 1, 1007, 1, 0, 0, [])
  | 1007 => (.aload_n 0, 1008, 0, 0, 0, [])
  | 1008 => (.iload_n 3, 1009, 3, 0, 0, [])
  | 1009 => (.iconst 1, 1010, 0, 0, 1, [])
  | 1010 => (.iadd, 1011, 0, 0, 0, [])
  | 1011 => (.iaload, 1012, 0, 0, 0, [])
  | 1012 => (.invokevirtual 131, 1015, 97, 2, 0, [6])
  | 1015 => (.aload_n 2, 1016, 2, 0, 0, [])
  | 1016 => (.aload_n 0, 1017, 0, 0, 0, [])
  | 1017 => (.iload_n 3, 1018, 3, 0, 0, [])
  | 1018 => (.iconst 1, 1019, 0, 0, 1, [])
  | 1019 => (.iadd, 1020, 0, 0, 0, [])
  | 1020 => (.iaload, 1021, 0, 0, 0, [])
  | 1021 => (.invokevirtual 134, 1024, 174, 2, 0, [7])
  | 1024 => (.if_icmp .eq 176, 1027, 1200, 0, 0, [])
  | 1027 => (.iconst 0, 1028, 0, 0, 0, [])
  | 1028 => (.ireturn, 1029, 1, 0, 0, [])
  | 1029 => (.aload_n 1, 1030, 1, 0, 0, [])
  | 1030 => (.aload_n 0, 1031, 0, 0, 0, [])
  | 1031 => (.iload_n 3, 1032, 3, 0, 0, [])
  | 1032 => (.iconst 1, 1033, 0, 0, 1, [])
  | 1033 => (.iadd, 1034, 0, 0, 0, [])
  | 1034 => (.iaload, 1035, 0, 0, 0, [])
  | 1035 => (.invokevirtual 135, 1038, 98, 2, 0, [6])
  | 1038 => (.aload_n 2, 1039, 2, 0, 0, [])
  | 1039 => (.aload_n 0, 1040, 0, 0, 0, [])
  | 1040 => (.iload_n 3, 1041, 3, 0, 0, [])
  | 1041 => (.iconst 1, 1042, 0, 0, 1, [])
  | 1042 => (.iadd, 1043, 0, 0, 0, [])
  | 1043 => (.iaload, 1044, 0, 0, 0, [])
  | 1044 => (.invokevirtual 138, 1047, 175, 2, 0, [7])
  | 1047 => (.if_icmp .eq 153, 1050, 1200, 0, 0, [])
  | 1050 => (.iconst 0, 1051, 0, 0, 0, [])
  | 1051 => (.ireturn, 1052, 1, 0, 0, [])
  | 1052 => (.aload_n 1, 1053, 1, 0, 0, [])
  | 1053 => (.aload_n 0, 1054, 0, 0, 0, [])
  | 1054 => (.iload_n 3, 1055, 3, 0, 0, [])
  | 1055 => (.iconst 1, 1056, 0, 0, 1, [])
  | 1056 => (.iadd, 1057, 0, 0, 0, [])
  | 1057 => (.iaload, 1058, 0, 0, 0, [])
  | 1058 => (.invokevirtual 139, 1061, 99, 2, 0, [6])
  | 1061 => (.aload_n 2, 1062, 2, 0, 0, [])
  | 1062 => (.aload_n 0, 1063, 0, 0, 0, [])
  | 1063 => (.iload_n 3, 1064, 3, 0, 0, [])
  | 1064 => (.iconst 1, 1065, 0, 0, 1, [])
  | 1065 => (.iadd, 1066, 0, 0, 0, [])
  | 1066 => (.iaload, 1067, 0, 0, 0, [])
  | 1067 => (.invokevirtual 142, 1070, 176, 2, 0, [7])
  | 1070 => (.if_icmp .eq 130, 1073, 1200, 0, 0, [])
  | 1073 => (.iconst 0, 1074, 0, 0, 0, [])
  | 1074 => (.ireturn, 1075, 1, 0, 0, [])
  | 1075 => (.aload_n 1, 1076, 1, 0, 0, [])
  | 1076 => (.aload_n 0, 1077, 0, 0, 0, [])
  | 1077 => (.iload_n 3, 1078, 3, 0, 0, [])
  | 1078 => (.iconst 1, 1079, 0, 0, 1, [])
  | 1079 => (.iadd, 1080, 0, 0, 0, [])
  | 1080 => (.iaload, 1081, 0, 0, 0, [])
  | 1081 => (.aload_n 0, 1082, 0, 0, 0, [])
  | 1082 => (.iload_n 3, 1083, 3, 0, 0, [])
  | 1083 => (.iconst 2, 1084, 0, 0, 2, [])
  | 1084 => (.iadd, 1085, 0, 0, 0, [])
  | 1085 => (.iaload, 1086, 0, 0, 0, [])
  | 1086 => (.invokevirtual 143, 1089, 100, 3, 0, [6])
  | 1089 => (.aload_n 2, 1090, 2, 0, 0, [])
  | 1090 => (.aload_n 0, 1091, 0, 0, 0, [])
  | 1091 => (.iload_n 3, 1092, 3, 0, 0, [])
  | 1092 => (.iconst 1, 1093, 0, 0, 1, [])
  | 1093 => (.iadd, 1094, 0, 0, 0, [])
  | 1094 => (.iaload, 1095, 0, 0, 0, [])
  | 1095 => (.aload_n 0, 1096, 0, 0, 0, [])
  | 1096 => (.iload_n 3, 1097, 3, 0, 0, [])
  | 1097 => (.iconst 2, 1098, 0, 0, 2, [])
  | 1098 => (.iadd, 1099, 0, 0, 0, [])
  | 1099 => (.iaload, 1100, 0, 0, 0, [])
  | 1100 => (.invokevirtual 146, 1103, 178, 3, 0, [7])
  | 1103 => (.if_icmp .eq 97, 1106, 1200, 0, 0, [])
  | 1106 => (.iconst 0, 1107, 0, 0, 0, [])
  | 1107 => (.ireturn, 1108, 1, 0, 0, [])
  | 1108 => (.aload_n 1, 1109, 1, 0, 0, [])
  | 1109 => (.aload_n 0, 1110, 0, 0, 0, [])
  | 1110 => (.iload_n 3, 1111, 3, 0, 0, [])
  | 1111 => (.iconst 1, 1112, 0, 0, 1, [])
  | 1112 => (.iadd, 1113, 0, 0, 0, [])
  | 1113 => (.iaload, 1114, 0, 0, 0, [])
  | 1114 => (.aload_n 0, 1115, 0, 0, 0, [])
  | 1115 => (.iload_n 3, 1116, 3, 0, 0, [])
  | 1116 => (.iconst 2, 1117, 0, 0, 2, [])
  | 1117 => (.iadd, 1118, 0, 0, 0, [])
  | 1118 => (.iaload, 1119, 0, 0, 0, [])
  | 1119 => (.invokevirtual 147, 1122, 101, 3, 0, [6])
  | 1122 => (.aload_n 2, 1123, 2, 0, 0, [])
  | 1123 => (.aload_n 0, 1124, 0, 0, 0, [])
  | 1124 => (.iload_n 3, 1125, 3, 0, 0, [])
  | 1125 => (.iconst 1, 1126, 0, 0, 1, [])
  | 1126 => (.iadd, 1127, 0, 0, 0, [])
  | 1127 => (.iaload, 1128, 0, 0, 0, [])
  | 1128 => (.aload_n 0, 1129, 0, 0, 0, [])
  | 1129 => (.iload_n 3, 1130, 3, 0, 0, [])
  | 1130 => (.iconst 2, 1131, 0, 0, 2, [])
  | 1131 => (.iadd, 1132, 0, 0, 0, [])
  | 1132 => (.iaload, 1133, 0, 0, 0, [])
  | 1133 => (.invokevirtual 150, 1136, 187, 3, 0, [7])
  | 1136 => (.if_icmp .eq 64, 1139, 1200, 0, 0, [])
  | 1139 => (.iconst 0, 1140, 0, 0, 0, [])
  | 1140 => (.ireturn, 1141, 1, 0, 0, [])
  | 1141 => (.aload_n 1, 1142, 1, 0, 0, [])
  | 1142 => (.aload_n 0, 1143, 0, 0, 0, [])
  | 1143 => (.iload_n 3, 1144, 3, 0, 0, [])
  | 1144 => (.iconst 1, 1145, 0, 0, 1, [])
  | 1145 => (.iadd, 1146, 0, 0, 0, [])
  | 1146 => (.iaload, 1147, 0, 0, 0, [])
  | 1147 => (.invokevirtual 151, 1150, 102, 2, 0, [6])
  | 1150 => (.aload_n 2, 1151, 2, 0, 0, [])
  | 1151 => (.aload_n 0, 1152, 0, 0, 0, [])
  | 1152 => (.iload_n 3, 1153, 3, 0, 0, [])
  | 1153 => (.iconst 1, 1154, 0, 0, 1, [])
  | 1154 => (.iadd, 1155, 0, 0, 0, [])
  | 1155 => (.iaload, 1156, 0, 0, 0, [])
  | 1156 => (.invokevirtual 154, 1159, 188, 2, 0, [7])
  | 1159 => (.if_icmp .eq 41, 1162, 1200, 0, 0, [])
  | 1162 => (.iconst 0, 1163, 0, 0, 0, [])
  | 1163 => (.ireturn, 1164, 1, 0, 0, [])
  | 1164 => (.aload_n 1, 1165, 1, 0, 0, [])
  | 1165 => (.aload_n 0, 1166, 0, 0, 0, [])
  | 1166 => (.iload_n 3, 1167, 3, 0, 0, [])
  | 1167 => (.iconst 1, 1168, 0, 0, 1, [])
  | 1168 => (.iadd, 1169, 0, 0, 0, [])
  | 1169 => (.iaload, 1170, 0, 0, 0, [])
  | 1170 => (.invokevirtual 155, 1173, 103, 2, 0, [6])
  | 1173 => (.aload_n 2, 1174, 2, 0, 0, [])
  | 1174 => (.aload_n 0, 1175, 0, 0, 0, [])
  | 1175 => (.iload_n 3, 1176, 3, 0, 0, [])
  | 1176 => (.iconst 1, 1177, 0, 0, 1, [])
  | 1177 => (.iadd, 1178, 0, 0, 0, [])
  | 1178 => (.iaload, 1179, 0, 0, 0, [])
  | 1179 => (.invokevirtual 158, 1182, 189, 2, 0, [7])
  | 1182 => (.if_icmp .eq 18, 1185, 1200, 0, 0, [])
  | 1185 => (.iconst 0, 1186, 0, 0, 0, [])
  | 1186 => (.ireturn, 1187, 1, 0, 0, [])
  | 1187 => (.aload_n 1, 1188, 1, 0, 0, [])
  | 1188 => (.invokevirtual 159, 1191, 104, 1, 0, [6])
  | 1191 => (.aload_n 2, 1192, 2, 0, 0, [])
  | 1192 => (.invokevirtual 162, 1195, 190, 1, 0, [7])
  | 1195 => (.if_icmp .eq 5, 1198, 1200, 0, 0, [])
  | 1198 => (.iconst 0, 1199, 0, 0, 0, [])
  | 1199 => (.ireturn, 1200, 1, 0, 0, [])
  | 1200 => (.iinc 3 6, 1203, 3, 0, 6, [])
  | 1203 => (.goto (-1185), 1206, 18, 0, 0, [])
  | 1206 => (.iconst 1, 1207, 0, 0, 1, [])
  | 1207 => (.ireturn, 1208, 1, 0, 0, [])
  | _ => (.nop, 1, 0, 0, 0, [])
end
section
def kt_list : List (Nat → kx_E) := [kt_Acts_init, kt_Acts_forgetAll, kt_Acts_keep, kt_Acts_revertLatest, kt_Asker_init, kt_Asker_numberAt, kt_Asker_answer, kt_Asker_runBody, kt_Asker_askAnew, kt_Asker_leaveNumber, kt_Fore_init, kt_Fore_holderBehind, kt_Fore_stepsUntilHolder, kt_Fore_holdersWithin, kt_Fore_repetition, kt_Fore_stepOfDone, kt_Fore_orderDoneFirst, kt_Fore_workWithin, kt_Fore_bestGift, kt_Fore_windsThatBring, kt_Fore_giftsThatGoAs, kt_Fore_keepsThatGoAs, kt_Fore_go, kt_Fore_stepsUntilDone, kt_Fore_goesAs, kt_Fore_markOfTrial, kt_Fore_earliestWithMarkOf, kt_Kinds_told, kt_Kinds_isOne, kt_Kinds_bodyOf, kt_Row_init, kt_Row_isMissing, kt_Row_lay, kt_Row_remove, kt_Row_hasPlaces, kt_Row_put, kt_Row_cutToLane, kt_Tape_init, kt_Tape_isFull, kt_Tape_add, kt_Tape_empty, kt_Tape_readInto, kt_Tape_readLaw, kt_Tape_readHeads, kt_Tape_readHead, kt_Tape_readOrders, kt_Tape_readOrder, kt_Tape_take, kt_Tape_takeNumber, kt_Tape_figuresAhead, kt_Tape_next, kt_Tape_refuse, kt_Town_init, kt_Town_clear, kt_Town_becomeLike, kt_Town_addHead, kt_Town_addOrder, kt_Town_hasHead, kt_Town_hasOrder, kt_Town_ordersThatAre, kt_Town_handTo, kt_Town_takeStep, kt_Town_revertStep, kt_Town_orderToWorkOn, kt_Town_workOn, kt_Town_patience, kt_Town_stride, kt_Town_seat, kt_X_init, kt_X_row, kt_X_set, kt_X_copy, kt_X_drop, kt_X_feed, kt_X_town, kt_X_fault, kt_X_steps, kt_X_wind, kt_X_give, kt_X_order, kt_X_back, kt_X_undo, kt_X_head, kt_X_orderHas, kt_X_hat, kt_X_who, kt_X_gets, kt_X_ever, kt_X_round, kt_X_done, kt_X_first, kt_X_by, kt_X_toGive, kt_X_winds, kt_X_lot, kt_X_seen, kt_X_keeps, kt_X_image, kt_X_restore, kt_X_kind, kt_X_as, kt_X_ask, kt_X_trace, kt_X_count, kt_X_status, kt_X_finding, kt_X_noFinding, kt_X_findingOf, kt_X_rowsThere, kt_X_isNoTown, kt_X_isRow, kt_X_isImage, kt_X_isSpan, kt_X_isBetween, kt_X_inLowestTerms, kt_M_init, kt_M_in, kt_M_has, kt_M_find, kt_M_well, kt_M_isRow, kt_M_row, kt_M_asLane, kt_M_set, kt_M_copy, kt_M_drop, kt_M_feed, kt_M_nextToken, kt_M_faults, kt_M_isLetter, kt_M_takes, kt_M_takesNumber, kt_M_readHead, kt_M_readOrder, kt_M_readTown, kt_M_town, kt_M_fault, kt_M_isHead, kt_M_isOrder, kt_M_outMany, kt_M_work, kt_M_oneStep, kt_M_note, kt_M_steps, kt_M_wind, kt_M_giveTo, kt_M_give, kt_M_order, kt_M_back, kt_M_undo, kt_M_head, kt_M_orderHas, kt_M_hat, kt_M_putAside, kt_M_takeBack, kt_M_goOn, kt_M_isFar, kt_M_who, kt_M_gets, kt_M_ever, kt_M_isAlike, kt_M_round, kt_M_doneIn, kt_M_done, kt_M_first, kt_M_by, kt_M_toGive, kt_M_windsBy, kt_M_winds, kt_M_lot, kt_M_lacks, kt_M_goesSo, kt_M_seen, kt_M_keeps, kt_M_image, kt_M_restore, kt_M_kind, kt_M_isKind, kt_M_as, kt_M_begin, kt_M_lent, kt_M_firmMark, kt_M_windySize, kt_M_sizeOfWindy, kt_M_markOf, kt_M_firmSize, kt_M_sizeOf, kt_M_ask, kt_M_trace, kt_M_count, kt_M_status, kt_Integer_bitCount, kt_Math_floorMod, kt_Math_min, kt_Arrays_fill, kt_Math_max, kt_Str_length, kt_Str_indexOf, kt_Str_indexOf2, kt_Str_coder, kt_Str_isLatin1, kt_SL1_canEncode, kt_SL1_indexOf, kt_SL1_indexOfChar, kt_Law_law]
def kt_all (m : Nat) : Nat → kx_E := kt_list.getD m (fun _ => (.nop, 1, 0, 0, 0, []))
def kt_mls : List Nat := [1, 1, 5, 3, 1, 2, 4, 6, 5, 2, 2, 2, 3, 4, 4, 2, 3, 3, 7, 5, 8, 7, 3, 4, 5, 4, 3, 2, 4, 5, 1, 1, 3, 2, 3, 3, 2, 1, 1, 2, 1, 2, 2, 4, 4, 3, 2, 2, 6, 2, 1, 2, 1, 1, 2, 4, 3, 2, 2, 4, 2, 2, 4, 2, 2, 2, 1, 2, 2, 4, 5, 8, 2, 2, 2, 1, 5, 3, 3, 3, 2, 1, 3, 3, 2, 2, 2, 2, 2, 2, 1, 3, 3, 3, 6, 6, 6, 2, 2, 2, 3, 3, 2, 2, 1, 2, 2, 4, 3, 1, 1, 1, 1, 3, 4, 2, 6, 2, 2, 2, 1, 5, 2, 4, 7, 3, 2, 1, 2, 2, 2, 5, 3, 3, 3, 3, 1, 2, 2, 3, 4, 4, 2, 3, 3, 2, 3, 3, 2, 2, 3, 3, 2, 2, 2, 3, 1, 3, 4, 4, 5, 4, 4, 3, 5, 5, 7, 5, 3, 6, 4, 5, 10, 8, 3, 3, 2, 2, 3, 2, 3, 2, 2, 2, 4, 3, 3, 3, 2, 5, 1, 1, 3, 2, 4, 2, 1, 2, 3, 1, 1, 1, 4, 6, 4]
def kt_ml (m : Nat) : Nat := kt_mls.getD m 0
abbrev ke (d : Nat) : Nat → List kx_V → kx_G → kx_M → Option kx_V → kx_G → kx_M → Prop := kx_ev kt_all kt_ml d
theorem ke_start {d m : Nat} {as : List kx_V} {tb : Nat → kx_E} {ls : kx_L} {G : kx_G} {μ : kx_M} {Q : Option kx_V → kx_G → kx_M → Prop} (h1 : kt_all m = tb) (h2 : kx_pad (kx_ent as) (kt_ml m) = ls) (h : kx_wx (ke d) tb Q 0 ls [] G μ) (hf : (kx_ent as).length ≤ kt_ml m := by exact Nat.le_of_ble_eq_true rfl) : kx_cx (ke (d + 1)) m as G μ Q := by
  obtain ⟨n, v, G', μ', h3, h4⟩ := h
  refine ⟨v, G', μ', ⟨hf, n, ?_⟩, h4⟩
  rw [h1, h2]
  exact h3
end
section
/-- the cells: which there are once both objects are made (1 the object, 77 the reference; 101 to 103 the tables, 104 the script, of L numbers, 105 the text) -/
def kg_sh (L : Nat) : Nat → Nat × Nat
  | 1 => (1, 6) | 2 => (5, 8)
  | 3 => (1, 3) | 4 => (2, 40) | 5 => (1, 3) | 6 => (2, 40) | 7 => (1, 3) | 8 => (2, 40) | 9 => (1, 3) | 10 => (2, 40)
  | 11 => (1, 3) | 12 => (2, 40) | 13 => (1, 3) | 14 => (2, 40) | 15 => (1, 3) | 16 => (2, 40) | 17 => (1, 3) | 18 => (2, 40)
  | 19 => (1, 4) | 20 => (2, 120)
  | 21 => (1, 5) | 22 => (2, 6) | 23 => (2, 6) | 24 => (2, 6) | 25 => (2, 6) | 26 => (2, 4) | 27 => (2, 4) | 28 => (2, 4) | 29 => (2, 4)
  | 30 => (1, 5) | 31 => (2, 6) | 32 => (2, 6) | 33 => (2, 6) | 34 => (2, 6) | 35 => (2, 4) | 36 => (2, 4) | 37 => (2, 4) | 38 => (2, 4)
  | 39 => (1, 0) | 40 => (2, 24) | 41 => (2, 24) | 42 => (2, 24) | 43 => (2, 24)
  | 44 => (1, 2)
  | 45 => (1, 5) | 46 => (2, 6) | 47 => (2, 6) | 48 => (2, 6) | 49 => (2, 6) | 50 => (2, 4) | 51 => (2, 4) | 52 => (2, 4) | 53 => (2, 4)
  | 54 => (3, 61) | 55 => (1, 1) | 56 => (2, 16) | 57 => (6, 2)
  | 58 => (1, 5) | 59 => (2, 6) | 60 => (2, 6) | 61 => (2, 6) | 62 => (2, 6) | 63 => (2, 4) | 64 => (2, 4) | 65 => (2, 4) | 66 => (2, 4)
  | 67 => (1, 5) | 68 => (2, 6) | 69 => (2, 6) | 70 => (2, 6) | 71 => (2, 6) | 72 => (2, 4) | 73 => (2, 4) | 74 => (2, 4) | 75 => (2, 4)
  | 76 => (4, 2)
  | 77 => (1, 7) | 78 => (2, 8) | 79 => (2, 8) | 80 => (2, 320) | 81 => (2, 46) | 82 => (2, 40) | 83 => (2, 120) | 84 => (2, 46) | 85 => (2, 1104) | 86 => (2, 46) | 87 => (2, 366) | 88 => (4, 2) | 89 => (2, 92) | 90 => (2, 16)
  | 101 => (7, 6) | 102 => (7, 6) | 103 => (7, 6) | 104 => (7, L) | 105 => (8, 0)
  | _ => (0, 0)
def kg_rl : Nat → List Nat
  | 1 => [2, 19, 21, 30, 39, 44, 55, 57, 76]
  | 2 => [3, 5, 7, 9, 11, 13, 15, 17]
  | 3 => [4] | 5 => [6] | 7 => [8] | 9 => [10] | 11 => [12] | 13 => [14] | 15 => [16] | 17 => [18]
  | 19 => [20]
  | 21 => [22, 23, 24, 25, 26, 27, 28, 29]
  | 30 => [31, 32, 33, 34, 35, 36, 37, 38]
  | 39 => [40, 41, 42, 43]
  | 44 => [30, 45, 54]
  | 45 => [46, 47, 48, 49, 50, 51, 52, 53]
  | 55 => [56]
  | 57 => [58, 67]
  | 58 => [59, 60, 61, 62, 63, 64, 65, 66]
  | 67 => [68, 69, 70, 71, 72, 73, 74, 75]
  | 77 => [78, 79, 80, 0, 0, 81, 82, 83, 0, 0, 0, 0, 0, 0, 0, 84, 85, 0, 86, 87, 88, 89, 90, 0]
  | _ => []
def kg_rf (a : Nat) (i : Int) : Nat := if 0 ≤ i then (kg_rl a).getD i.toNat 0 else 0
def kg (L : Nat) : kx_G := (kg_sh L, 91, kg_rf)
/-- a town's cells -/
def kg_T (L a : Nat) : Prop := (kg L).1 a = (1, 5) ∧ (kg L).2.2 a 0 = a + 1 ∧ (kg L).2.2 a 1 = a + 2 ∧ (kg L).2.2 a 2 = a + 3 ∧ (kg L).2.2 a 3 = a + 4 ∧ (kg L).2.2 a 4 = a + 5 ∧ (kg L).2.2 a 5 = a + 6 ∧ (kg L).2.2 a 6 = a + 7 ∧ (kg L).2.2 a 7 = a + 8 ∧ (kg L).1 (a + 1) = (2, 6) ∧ (kg L).1 (a + 2) = (2, 6) ∧ (kg L).1 (a + 3) = (2, 6) ∧ (kg L).1 (a + 4) = (2, 6) ∧ (kg L).1 (a + 5) = (2, 4) ∧ (kg L).1 (a + 6) = (2, 4) ∧ (kg L).1 (a + 7) = (2, 4) ∧ (kg L).1 (a + 8) = (2, 4)
theorem kg_T21 (L : Nat) : kg_T L 21 := ⟨rfl, rfl, rfl, rfl, rfl, rfl, rfl, rfl, rfl, rfl, rfl, rfl, rfl, rfl, rfl, rfl, rfl⟩
theorem kg_T30 (L : Nat) : kg_T L 30 := ⟨rfl, rfl, rfl, rfl, rfl, rfl, rfl, rfl, rfl, rfl, rfl, rfl, rfl, rfl, rfl, rfl, rfl⟩
theorem kg_T45 (L : Nat) : kg_T L 45 := ⟨rfl, rfl, rfl, rfl, rfl, rfl, rfl, rfl, rfl, rfl, rfl, rfl, rfl, rfl, rfl, rfl, rfl⟩
theorem kg_T58 (L : Nat) : kg_T L 58 := ⟨rfl, rfl, rfl, rfl, rfl, rfl, rfl, rfl, rfl, rfl, rfl, rfl, rfl, rfl, rfl, rfl, rfl⟩
theorem kg_T67 (L : Nat) : kg_T L 67 := ⟨rfl, rfl, rfl, rfl, rfl, rfl, rfl, rfl, rfl, rfl, rfl, rfl, rfl, rfl, rfl, rfl, rfl⟩
/-- a row's cells -/
def kg_R (L a : Nat) : Prop := (kg L).1 a = (1, 3) ∧ (kg L).2.2 a 0 = a + 1 ∧ (kg L).1 (a + 1) = (2, 40)
theorem kg_rows (L : Nat) {i : Int} (h0 : 0 ≤ i) (h1 : i < 8) : (kg L).2.2 2 i = 3 + 2 * i.toNat ∧ kg_R L (3 + 2 * i.toNat) := by
  obtain ⟨n, rfl⟩ := Int.eq_ofNat_of_zero_le h0
  have h : n < 8 := by omega
  match n, h with
  | 0, _ => exact ⟨rfl, rfl, rfl, rfl⟩
  | 1, _ => exact ⟨rfl, rfl, rfl, rfl⟩
  | 2, _ => exact ⟨rfl, rfl, rfl, rfl⟩
  | 3, _ => exact ⟨rfl, rfl, rfl, rfl⟩
  | 4, _ => exact ⟨rfl, rfl, rfl, rfl⟩
  | 5, _ => exact ⟨rfl, rfl, rfl, rfl⟩
  | 6, _ => exact ⟨rfl, rfl, rfl, rfl⟩
  | 7, _ => exact ⟨rfl, rfl, rfl, rfl⟩
theorem kg_imgs (L : Nat) {i : Int} (h0 : 0 ≤ i) (h1 : i < 2) : (kg L).2.2 57 i = 58 + 9 * i.toNat ∧ kg_T L (58 + 9 * i.toNat) := by
  obtain ⟨n, rfl⟩ := Int.eq_ofNat_of_zero_le h0
  have h : n < 2 := by omega
  match n, h with
  | 0, _ => exact ⟨rfl, kg_T58 L⟩
  | 1, _ => exact ⟨rfl, kg_T67 L⟩
theorem kx_ifs {c A B : Prop} [Decidable c] (h1 : c → A) (h0 : ¬ c → B) : if c then A else B := by
  split
  · exact h1 ‹_›
  · exact h0 ‹_›
theorem kx_up_row {μ : kx_M} {a b : Nat} {i v : Int} (h : b ≠ a) : kx_up μ a i v b = μ b := by
  funext j
  simp [kx_up, h]
def up1 (f : Int → Int) (i v : Int) : Int → Int := fun j => if j = i then v else f j
theorem up1_at (f : Int → Int) (i v j : Int) : up1 f i v j = if j = i then v else f j := rfl
def kx_row (μ : kx_M) (c : Nat) (f : Int → Int) : kx_M := fun b j => if b = c then f j else μ b j
theorem kx_row_at (μ : kx_M) (c : Nat) (f : Int → Int) (b : Nat) (j : Int) : kx_row μ c f b j = if b = c then f j else μ b j := rfl
theorem kx_row_self (μ : kx_M) (c : Nat) (f : Int → Int) : kx_row μ c f c = f := by funext j; simp [kx_row]
theorem kx_row_ne {μ : kx_M} {c b : Nat} {f : Int → Int} (h : b ≠ c) : kx_row μ c f b = μ b := by funext j; simp [kx_row, h]
theorem kx_row_id (μ : kx_M) (c : Nat) : kx_row μ c (μ c) = μ := by
  funext b j; by_cases h : b = c <;> simp [kx_row, h]
theorem kx_row_row (μ : kx_M) (c : Nat) (f g : Int → Int) : kx_row (kx_row μ c f) c g = kx_row μ c g := by
  funext b j; by_cases h : b = c <;> simp [kx_row, h]
theorem kx_up_up1 (μ : kx_M) (a : Nat) (i v : Int) : kx_up μ a i v = kx_row μ a (up1 (μ a) i v) := by
  funext b j
  by_cases h : b = a
  · subst h; simp [kx_up, kx_row, up1]
  · simp [kx_up, kx_row, h]
theorem kx_up_row_row (μ : kx_M) (a : Nat) (f : Int → Int) (i v : Int) : kx_up (kx_row μ a f) a i v = kx_row μ a (up1 f i v) := by
  rw [kx_up_up1, kx_row_self, kx_row_row]
theorem kx_and_in (a b : Int) : kx_in (kx_and a b) := by
  have h1 := Int32.le_toInt (Int32.ofInt a &&& Int32.ofInt b)
  have h2 := Int32.toInt_lt (Int32.ofInt a &&& Int32.ofInt b)
  unfold kx_and
  exact ⟨by omega, by omega⟩
theorem kx_or_in (a b : Int) : kx_in (kx_or a b) := by
  have h1 := Int32.le_toInt (Int32.ofInt a ||| Int32.ofInt b)
  have h2 := Int32.toInt_lt (Int32.ofInt a ||| Int32.ofInt b)
  unfold kx_or
  exact ⟨by omega, by omega⟩
/-! the law's start: the outer cells, the classes, the first world -/
/-- the shapes before anything is made -/
def kg_ish (L : Nat) : Nat → Nat × Nat
  | 101 => (7, 6) | 102 => (7, 6) | 103 => (7, 6) | 104 => (7, L) | 105 => (8, 0) | _ => (0, 0)
def kg_i (L : Nat) : kx_G := (kg_ish L, 1, fun _ _ => 0)
/-- the numbers of the outer cells -/
def kg_m (xs : Nat → Int32) : kx_M := fun c j => match c with
  | 101 => ([0, 0, 1, 1, 0, 4] : List Int).getD j.toNat 0
  | 102 => ([10, 11, 12, 0, 13, 14] : List Int).getD j.toNat 0
  | 103 => ([20, 21, 24, 22, 23, 0] : List Int).getD j.toNat 0
  | 104 => (xs j.toNat).toInt
  | 106 => ([102, 115, 116, 119, 98] : List Int).getD j.toNat 0
  | _ => 0
end
section
section SM
variable {d L : Nat} {G : kx_G} {μ : kx_M} {Q : Option kx_V → kx_G → kx_M → Prop}
theorem r_isBetween {v lo hi : Int} (hv : kx_in v) (hl : kx_in lo) (hh : kx_in hi) (t1 : lo ≤ v ∧ v ≤ hi → Q (some (kI 1)) G μ) (t0 : ¬ (lo ≤ v ∧ v ≤ hi) → Q (some (kI 0)) G μ) : kx_cx (ke (d + 1)) 113 [kI v, kI lo, kI hi] G μ Q := by
  obtain ⟨_, _⟩ := hv; obtain ⟨_, _⟩ := hl; obtain ⟨_, _⟩ := hh
  refine ke_start (tb := kt_X_isBetween) (ls := [some (kI v), some (kI lo), some (kI hi)]) rfl rfl ?_
  refine ks_iload_n rfl rfl ?_
  refine ks_iload_n rfl rfl ?_
  refine ks_icmp_gt rfl ⟨by omega, by omega⟩ ⟨by omega, by omega⟩ (fun h1 => ?_) (fun h1 => ?_)
  · refine ks_iconst rfl ?_
    refine ks_zreturn rfl (by omega) ?_
    first | exact t1 (by omega) | exact t0 (by omega)
  · refine ks_iload_n rfl rfl ?_
    refine ks_iload_n rfl rfl ?_
    refine ks_icmp_gt rfl ⟨by omega, by omega⟩ ⟨by omega, by omega⟩ (fun h2 => ?_) (fun h2 => ?_)
    · refine ks_iconst rfl ?_
      refine ks_zreturn rfl (by omega) ?_
      first | exact t1 (by omega) | exact t0 (by omega)
    · refine ks_iconst rfl ?_
      refine ks_goto rfl ?_
      refine ks_zreturn rfl (by omega) ?_
      first | exact t1 (by omega) | exact t0 (by omega)
theorem r_isRow {v : Int} (hv : kx_in v) (t1 : 0 ≤ v ∧ v ≤ 7 → Q (some (kI 1)) G μ) (t0 : ¬ (0 ≤ v ∧ v ≤ 7) → Q (some (kI 0)) G μ) : kx_cx (ke (d + 2)) 110 [kI v] G μ Q := by
  obtain ⟨_, _⟩ := hv
  refine ke_start (tb := kt_X_isRow) (ls := [some (kI v)]) rfl rfl ?_
  refine ks_iload_n rfl rfl ?_
  refine ks_iconst rfl ?_
  refine ks_bipush rfl ?_
  refine ks_calls_3 rfl (Nat.le_of_ble_eq_true rfl) ?_
  refine r_isBetween ⟨by omega, by omega⟩ ⟨by omega, by omega⟩ ⟨by omega, by omega⟩ (fun h1 => ?_) (fun h1 => ?_)
  · show kx_wx _ _ _ _ _ (_ :: _) _ _
    refine ks_zreturn rfl (by omega) ?_
    first | exact t1 (by omega) | exact t0 (by omega)
  · show kx_wx _ _ _ _ _ (_ :: _) _ _
    refine ks_zreturn rfl (by omega) ?_
    first | exact t1 (by omega) | exact t0 (by omega)
theorem r_isImage {v : Int} (hv : kx_in v) (t1 : 0 ≤ v ∧ v ≤ 1 → Q (some (kI 1)) G μ) (t0 : ¬ (0 ≤ v ∧ v ≤ 1) → Q (some (kI 0)) G μ) : kx_cx (ke (d + 2)) 111 [kI v] G μ Q := by
  obtain ⟨_, _⟩ := hv
  refine ke_start (tb := kt_X_isImage) (ls := [some (kI v)]) rfl rfl ?_
  refine ks_iload_n rfl rfl ?_
  refine ks_iconst rfl ?_
  refine ks_iconst rfl ?_
  refine ks_calls_3 rfl (Nat.le_of_ble_eq_true rfl) ?_
  refine r_isBetween ⟨by omega, by omega⟩ ⟨by omega, by omega⟩ ⟨by omega, by omega⟩ (fun h1 => ?_) (fun h1 => ?_)
  · show kx_wx _ _ _ _ _ (_ :: _) _ _
    refine ks_zreturn rfl (by omega) ?_
    first | exact t1 (by omega) | exact t0 (by omega)
  · show kx_wx _ _ _ _ _ (_ :: _) _ _
    refine ks_zreturn rfl (by omega) ?_
    first | exact t1 (by omega) | exact t0 (by omega)
theorem r_isSpan {v : Int} (hv : kx_in v) (t1 : 0 ≤ v ∧ v ≤ 60 → Q (some (kI 1)) G μ) (t0 : ¬ (0 ≤ v ∧ v ≤ 60) → Q (some (kI 0)) G μ) : kx_cx (ke (d + 2)) 112 [kI v] G μ Q := by
  obtain ⟨_, _⟩ := hv
  refine ke_start (tb := kt_X_isSpan) (ls := [some (kI v)]) rfl rfl ?_
  refine ks_iload_n rfl rfl ?_
  refine ks_iconst rfl ?_
  refine ks_bipush rfl ?_
  refine ks_calls_3 rfl (Nat.le_of_ble_eq_true rfl) ?_
  refine r_isBetween ⟨by omega, by omega⟩ ⟨by omega, by omega⟩ ⟨by omega, by omega⟩ (fun h1 => ?_) (fun h1 => ?_)
  · show kx_wx _ _ _ _ _ (_ :: _) _ _
    refine ks_zreturn rfl (by omega) ?_
    first | exact t1 (by omega) | exact t0 (by omega)
  · show kx_wx _ _ _ _ _ (_ :: _) _ _
    refine ks_zreturn rfl (by omega) ?_
    first | exact t1 (by omega) | exact t0 (by omega)
theorem r_finding {n : Int} (t : Q (some (kI (-1000010 - n))) (kg L) (kx_up μ 1 10 n)) : kx_cx (ke (d + 1)) 105 [kR 1, kI n] (kg L) μ Q := by
  refine ke_start (tb := kt_X_finding) (ls := [some (kR 1), some (kI n)]) rfl rfl ?_
  refine ks_aload_n rfl rfl ?_
  refine ks_iload_n rfl rfl ?_
  refine ks_puti rfl rfl ?_
  refine ks_ldc_w rfl ?_
  refine ks_iload_n rfl rfl ?_
  refine ks_isub rfl ?_
  refine ks_ireturn rfl ?_
  exact t
theorem r_noFinding {n : Int} (t : Q (some (kI n)) (kg L) (kx_up μ 1 10 0)) : kx_cx (ke (d + 1)) 106 [kR 1, kI n] (kg L) μ Q := by
  refine ke_start (tb := kt_X_noFinding) (ls := [some (kR 1), some (kI n)]) rfl rfl ?_
  refine ks_aload_n rfl rfl ?_
  refine ks_iconst rfl ?_
  refine ks_puti rfl rfl ?_
  refine ks_iload_n rfl rfl ?_
  refine ks_ireturn rfl ?_
  exact t
theorem r_isNoTown (hb : kx_in (μ 30 8)) (t1 : μ 30 8 = 0 → Q (some (kI 1)) (kg L) μ) (t0 : ¬ μ 30 8 = 0 → Q (some (kI 0)) (kg L) μ) : kx_cx (ke (d + 1)) 109 [kR 1] (kg L) μ Q := by
  obtain ⟨_, _⟩ := hb
  refine ke_start (tb := kt_X_isNoTown) (ls := [some (kR 1)]) rfl rfl ?_
  refine ks_aload_n rfl rfl ?_
  refine ks_getr (b := 30) rfl rfl rfl rfl (by decide) ?_
  refine ks_geti rfl rfl rfl rfl (by (try simp only [kx_up_at, kx_row_at, up1_at, Nat.reduceEqDiff, Int.reduceEq, Int.reduceNeg, and_true, true_and, and_false, false_and, and_self, reduceIte, Nat.add_left_cancel_iff, Nat.add_eq_left, Nat.left_eq_add, Nat.reduceAdd, Int.add_left_inj, Int.add_right_inj]); rfl) ?_
  refine ks_if_ne rfl ⟨by omega, by omega⟩ (fun h1 => ?_) (fun h1 => ?_)
  · refine ks_iconst rfl ?_
    refine ks_goto rfl ?_
    refine ks_zreturn rfl (by omega) ?_
    first | exact t1 (by omega) | exact t0 (by omega)
  · refine ks_iconst rfl ?_
    refine ks_zreturn rfl (by omega) ?_
    first | exact t1 (by omega) | exact t0 (by omega)
theorem r_in {v lo hi : Int} (hv : kx_inL v) (hl : kx_inL lo) (hh : kx_inL hi) (t1 : lo ≤ v ∧ v ≤ hi → Q (some (kI 1)) G μ) (t0 : ¬ (lo ≤ v ∧ v ≤ hi) → Q (some (kI 0)) G μ) : kx_cx (ke (d + 1)) 116 [kL v, kL lo, kL hi] G μ Q := by
  obtain ⟨_, _⟩ := hv; obtain ⟨_, _⟩ := hl; obtain ⟨_, _⟩ := hh
  refine ke_start (tb := kt_M_in) (ls := [some (kL v), none, some (kL lo), none, some (kL hi), none]) rfl rfl ?_
  refine ks_lload_n rfl rfl ?_
  refine ks_lload_n rfl rfl ?_
  refine ks_lcmp rfl ⟨by omega, by omega⟩ ⟨by omega, by omega⟩ (fun hl => ?_) (fun hl => ?_) (fun hl => ?_)
  · refine ks_if_lt_m rfl ?_
    refine ks_iconst rfl ?_
    refine ks_zreturn rfl (by omega) ?_
    first | exact t1 (by omega) | exact t0 (by omega)
  · refine ks_if_lt_0 rfl ?_
    refine ks_lload_n rfl rfl ?_
    refine ks_lload rfl rfl ?_
    refine ks_lcmp rfl ⟨by omega, by omega⟩ ⟨by omega, by omega⟩ (fun hl => ?_) (fun hl => ?_) (fun hl => ?_)
    · refine ks_if_gt_m rfl ?_
      refine ks_iconst rfl ?_
      refine ks_goto rfl ?_
      refine ks_zreturn rfl (by omega) ?_
      first | exact t1 (by omega) | exact t0 (by omega)
    · refine ks_if_gt_0 rfl ?_
      refine ks_iconst rfl ?_
      refine ks_goto rfl ?_
      refine ks_zreturn rfl (by omega) ?_
      first | exact t1 (by omega) | exact t0 (by omega)
    · refine ks_if_gt_1 rfl ?_
      refine ks_iconst rfl ?_
      refine ks_zreturn rfl (by omega) ?_
      first | exact t1 (by omega) | exact t0 (by omega)
  · refine ks_if_lt_1 rfl ?_
    refine ks_lload_n rfl rfl ?_
    refine ks_lload rfl rfl ?_
    refine ks_lcmp rfl ⟨by omega, by omega⟩ ⟨by omega, by omega⟩ (fun hl => ?_) (fun hl => ?_) (fun hl => ?_)
    · refine ks_if_gt_m rfl ?_
      refine ks_iconst rfl ?_
      refine ks_goto rfl ?_
      refine ks_zreturn rfl (by omega) ?_
      first | exact t1 (by omega) | exact t0 (by omega)
    · refine ks_if_gt_0 rfl ?_
      refine ks_iconst rfl ?_
      refine ks_goto rfl ?_
      refine ks_zreturn rfl (by omega) ?_
      first | exact t1 (by omega) | exact t0 (by omega)
    · refine ks_if_gt_1 rfl ?_
      refine ks_iconst rfl ?_
      refine ks_zreturn rfl (by omega) ?_
      first | exact t1 (by omega) | exact t0 (by omega)
theorem r_MisRow {v : Int} (hv : kx_in v) (t1 : 0 ≤ v ∧ v ≤ 7 → Q (some (kI 1)) G μ) (t0 : ¬ (0 ≤ v ∧ v ≤ 7) → Q (some (kI 0)) G μ) : kx_cx (ke (d + 2)) 120 [kI v] G μ Q := by
  obtain ⟨_, _⟩ := hv
  refine ke_start (tb := kt_M_isRow) (ls := [some (kI v)]) rfl rfl ?_
  refine ks_iload_n rfl rfl ?_
  refine ks_i2l rfl ⟨by omega, by omega⟩ ?_
  refine ks_lconst rfl ?_
  refine ks_ldc2_w rfl ?_
  refine ks_calls_3 rfl (Nat.le_of_ble_eq_true rfl) ?_
  refine r_in ⟨by omega, by omega⟩ ⟨by omega, by omega⟩ ⟨by omega, by omega⟩ (fun h1 => ?_) (fun h1 => ?_)
  · show kx_wx _ _ _ _ _ (_ :: _) _ _
    refine ks_zreturn rfl (by omega) ?_
    first | exact t1 (by omega) | exact t0 (by omega)
  · show kx_wx _ _ _ _ _ (_ :: _) _ _
    refine ks_zreturn rfl (by omega) ?_
    first | exact t1 (by omega) | exact t0 (by omega)
theorem r_isFar {v : Int} (hv : kx_in v) (t1 : 0 ≤ v ∧ v ≤ 60 → Q (some (kI 1)) G μ) (t0 : ¬ (0 ≤ v ∧ v ≤ 60) → Q (some (kI 0)) G μ) : kx_cx (ke (d + 2)) 156 [kI v] G μ Q := by
  obtain ⟨_, _⟩ := hv
  refine ke_start (tb := kt_M_isFar) (ls := [some (kI v)]) rfl rfl ?_
  refine ks_iload_n rfl rfl ?_
  refine ks_i2l rfl ⟨by omega, by omega⟩ ?_
  refine ks_lconst rfl ?_
  refine ks_ldc2_w rfl ?_
  refine ks_calls_3 rfl (Nat.le_of_ble_eq_true rfl) ?_
  refine r_in ⟨by omega, by omega⟩ ⟨by omega, by omega⟩ ⟨by omega, by omega⟩ (fun h1 => ?_) (fun h1 => ?_)
  · show kx_wx _ _ _ _ _ (_ :: _) _ _
    refine ks_zreturn rfl (by omega) ?_
    first | exact t1 (by omega) | exact t0 (by omega)
  · show kx_wx _ _ _ _ _ (_ :: _) _ _
    refine ks_zreturn rfl (by omega) ?_
    first | exact t1 (by omega) | exact t0 (by omega)
theorem r_find {n : Int} (t : Q (some (kI (-1000010 - n))) (kg L) (kx_up μ 77 3 n)) : kx_cx (ke (d + 1)) 118 [kR 77, kI n] (kg L) μ Q := by
  refine ke_start (tb := kt_M_find) (ls := [some (kR 77), some (kI n)]) rfl rfl ?_
  refine ks_aload_n rfl rfl ?_
  refine ks_iload_n rfl rfl ?_
  refine ks_puti rfl rfl ?_
  refine ks_ldc rfl ?_
  refine ks_iload_n rfl rfl ?_
  refine ks_isub rfl ?_
  refine ks_ireturn rfl ?_
  exact t
theorem r_well {n : Int} (t : Q (some (kI n)) (kg L) (kx_up μ 77 3 0)) : kx_cx (ke (d + 1)) 119 [kR 77, kI n] (kg L) μ Q := by
  refine ke_start (tb := kt_M_well) (ls := [some (kR 77), some (kI n)]) rfl rfl ?_
  refine ks_aload_n rfl rfl ?_
  refine ks_iconst rfl ?_
  refine ks_puti rfl rfl ?_
  refine ks_iload_n rfl rfl ?_
  refine ks_ireturn rfl ?_
  exact t
theorem r_isHead {v : Int} (hv : kx_in v) (hb : kx_in (μ 81 1 - 1)) (t1 : 0 ≤ v ∧ v < μ 81 1 → Q (some (kI 1)) (kg L) μ) (t0 : ¬ (0 ≤ v ∧ v < μ 81 1) → Q (some (kI 0)) (kg L) μ) : kx_cx (ke (d + 2)) 137 [kR 77, kI v] (kg L) μ Q := by
  obtain ⟨_, _⟩ := hv; obtain ⟨_, _⟩ := hb
  refine ke_start (tb := kt_M_isHead) (ls := [some (kR 77), some (kI v)]) rfl rfl ?_
  refine ks_iload_n rfl rfl ?_
  refine ks_i2l rfl ⟨by omega, by omega⟩ ?_
  refine ks_lconst rfl ?_
  refine ks_aload_n rfl rfl ?_
  refine ks_getr (b := 81) rfl rfl rfl rfl (by decide) ?_
  refine ks_iconst rfl ?_
  refine ks_iaload rfl rfl (by omega) (by omega) (by (try simp only [kx_up_at, kx_row_at, up1_at, Nat.reduceEqDiff, Int.reduceEq, Int.reduceNeg, and_true, true_and, and_false, false_and, and_self, reduceIte, Nat.add_left_cancel_iff, Nat.add_eq_left, Nat.left_eq_add, Nat.reduceAdd, Int.add_left_inj, Int.add_right_inj]); rfl) ?_
  refine ks_iconst rfl ?_
  refine ks_isub rfl ?_
  refine ks_i2l rfl ⟨by omega, by omega⟩ ?_
  refine ks_calls_3 rfl (Nat.le_of_ble_eq_true rfl) ?_
  refine r_in ⟨by omega, by omega⟩ ⟨by omega, by omega⟩ ⟨by omega, by omega⟩ (fun h1 => ?_) (fun h1 => ?_)
  · show kx_wx _ _ _ _ _ (_ :: _) _ _
    refine ks_zreturn rfl (by omega) ?_
    first | exact t1 (by omega) | exact t0 (by omega)
  · show kx_wx _ _ _ _ _ (_ :: _) _ _
    refine ks_zreturn rfl (by omega) ?_
    first | exact t1 (by omega) | exact t0 (by omega)
theorem r_isOrder {v : Int} (hv : kx_in v) (hb : kx_in (μ 81 2 - 1)) (t1 : 0 ≤ v ∧ v < μ 81 2 → Q (some (kI 1)) (kg L) μ) (t0 : ¬ (0 ≤ v ∧ v < μ 81 2) → Q (some (kI 0)) (kg L) μ) : kx_cx (ke (d + 2)) 138 [kR 77, kI v] (kg L) μ Q := by
  obtain ⟨_, _⟩ := hv; obtain ⟨_, _⟩ := hb
  refine ke_start (tb := kt_M_isOrder) (ls := [some (kR 77), some (kI v)]) rfl rfl ?_
  refine ks_iload_n rfl rfl ?_
  refine ks_i2l rfl ⟨by omega, by omega⟩ ?_
  refine ks_lconst rfl ?_
  refine ks_aload_n rfl rfl ?_
  refine ks_getr (b := 81) rfl rfl rfl rfl (by decide) ?_
  refine ks_iconst rfl ?_
  refine ks_iaload rfl rfl (by omega) (by omega) (by (try simp only [kx_up_at, kx_row_at, up1_at, Nat.reduceEqDiff, Int.reduceEq, Int.reduceNeg, and_true, true_and, and_false, false_and, and_self, reduceIte, Nat.add_left_cancel_iff, Nat.add_eq_left, Nat.left_eq_add, Nat.reduceAdd, Int.add_left_inj, Int.add_right_inj]); rfl) ?_
  refine ks_iconst rfl ?_
  refine ks_isub rfl ?_
  refine ks_i2l rfl ⟨by omega, by omega⟩ ?_
  refine ks_calls_3 rfl (Nat.le_of_ble_eq_true rfl) ?_
  refine r_in ⟨by omega, by omega⟩ ⟨by omega, by omega⟩ ⟨by omega, by omega⟩ (fun h1 => ?_) (fun h1 => ?_)
  · show kx_wx _ _ _ _ _ (_ :: _) _ _
    refine ks_zreturn rfl (by omega) ?_
    first | exact t1 (by omega) | exact t0 (by omega)
  · show kx_wx _ _ _ _ _ (_ :: _) _ _
    refine ks_zreturn rfl (by omega) ?_
    first | exact t1 (by omega) | exact t0 (by omega)
theorem r_hasHead {a : Nat} {v : Int} (hT : kg_T L a) (hv : kx_in v) (hb : kx_in (μ a 8)) (t1 : 0 ≤ v ∧ v < μ a 8 → Q (some (kI 1)) (kg L) μ) (t0 : ¬ (0 ≤ v ∧ v < μ a 8) → Q (some (kI 0)) (kg L) μ) : kx_cx (ke (d + 1)) 57 [kR a, kI v] (kg L) μ Q := by
  obtain ⟨_, _⟩ := hv; obtain ⟨_, _⟩ := hb
  obtain ⟨_, _⟩ := hT
  refine ke_start (tb := kt_Town_hasHead) (ls := [some (kR a), some (kI v)]) rfl rfl ?_
  refine ks_iconst rfl ?_
  refine ks_iload_n rfl rfl ?_
  refine ks_icmp_gt rfl ⟨by omega, by omega⟩ ⟨by omega, by omega⟩ (fun h1 => ?_) (fun h1 => ?_)
  · refine ks_iconst rfl ?_
    refine ks_zreturn rfl (by omega) ?_
    first | exact t1 (by omega) | exact t0 (by omega)
  · refine ks_iload_n rfl rfl ?_
    refine ks_aload_n rfl rfl ?_
    refine ks_geti rfl rfl (by assumption) rfl (by (try simp only [kx_up_at, kx_row_at, up1_at, Nat.reduceEqDiff, Int.reduceEq, Int.reduceNeg, and_true, true_and, and_false, false_and, and_self, reduceIte, Nat.add_left_cancel_iff, Nat.add_eq_left, Nat.left_eq_add, Nat.reduceAdd, Int.add_left_inj, Int.add_right_inj]); rfl) ?_
    refine ks_icmp_ge rfl ⟨by omega, by omega⟩ ⟨by omega, by omega⟩ (fun h2 => ?_) (fun h2 => ?_)
    · refine ks_iconst rfl ?_
      refine ks_goto rfl ?_
      refine ks_zreturn rfl (by omega) ?_
      first | exact t1 (by omega) | exact t0 (by omega)
    · refine ks_iconst rfl ?_
      refine ks_zreturn rfl (by omega) ?_
      first | exact t1 (by omega) | exact t0 (by omega)
theorem r_hasOrder {a : Nat} {v : Int} (hT : kg_T L a) (hv : kx_in v) (hb : kx_in (μ a 9)) (t1 : 0 ≤ v ∧ v < μ a 9 → Q (some (kI 1)) (kg L) μ) (t0 : ¬ (0 ≤ v ∧ v < μ a 9) → Q (some (kI 0)) (kg L) μ) : kx_cx (ke (d + 1)) 58 [kR a, kI v] (kg L) μ Q := by
  obtain ⟨_, _⟩ := hv; obtain ⟨_, _⟩ := hb
  obtain ⟨_, _⟩ := hT
  refine ke_start (tb := kt_Town_hasOrder) (ls := [some (kR a), some (kI v)]) rfl rfl ?_
  refine ks_iconst rfl ?_
  refine ks_iload_n rfl rfl ?_
  refine ks_icmp_gt rfl ⟨by omega, by omega⟩ ⟨by omega, by omega⟩ (fun h1 => ?_) (fun h1 => ?_)
  · refine ks_iconst rfl ?_
    refine ks_zreturn rfl (by omega) ?_
    first | exact t1 (by omega) | exact t0 (by omega)
  · refine ks_iload_n rfl rfl ?_
    refine ks_aload_n rfl rfl ?_
    refine ks_geti rfl rfl (by assumption) rfl (by (try simp only [kx_up_at, kx_row_at, up1_at, Nat.reduceEqDiff, Int.reduceEq, Int.reduceNeg, and_true, true_and, and_false, false_and, and_self, reduceIte, Nat.add_left_cancel_iff, Nat.add_eq_left, Nat.left_eq_add, Nat.reduceAdd, Int.add_left_inj, Int.add_right_inj]); rfl) ?_
    refine ks_icmp_ge rfl ⟨by omega, by omega⟩ ⟨by omega, by omega⟩ (fun h2 => ?_) (fun h2 => ?_)
    · refine ks_iconst rfl ?_
      refine ks_goto rfl ?_
      refine ks_zreturn rfl (by omega) ?_
      first | exact t1 (by omega) | exact t0 (by omega)
    · refine ks_iconst rfl ?_
      refine ks_zreturn rfl (by omega) ?_
      first | exact t1 (by omega) | exact t0 (by omega)
theorem r_isMissing {a : Nat} (hR : kg_R L a) (hb : kx_in (μ a 2)) (t1 : μ a 2 = -1 → Q (some (kI 1)) (kg L) μ) (t0 : ¬ μ a 2 = -1 → Q (some (kI 0)) (kg L) μ) : kx_cx (ke (d + 1)) 31 [kR a] (kg L) μ Q := by
  obtain ⟨_, _⟩ := hb
  obtain ⟨_, _⟩ := hR
  refine ke_start (tb := kt_Row_isMissing) (ls := [some (kR a)]) rfl rfl ?_
  refine ks_aload_n rfl rfl ?_
  refine ks_geti rfl rfl (by assumption) rfl (by (try simp only [kx_up_at, kx_row_at, up1_at, Nat.reduceEqDiff, Int.reduceEq, Int.reduceNeg, and_true, true_and, and_false, false_and, and_self, reduceIte, Nat.add_left_cancel_iff, Nat.add_eq_left, Nat.left_eq_add, Nat.reduceAdd, Int.add_left_inj, Int.add_right_inj]); rfl) ?_
  refine ks_iconst rfl ?_
  refine ks_icmp_ne rfl ⟨by omega, by omega⟩ ⟨by omega, by omega⟩ (fun h1 => ?_) (fun h1 => ?_)
  · refine ks_iconst rfl ?_
    refine ks_goto rfl ?_
    refine ks_zreturn rfl (by omega) ?_
    first | exact t1 (by omega) | exact t0 (by omega)
  · refine ks_iconst rfl ?_
    refine ks_zreturn rfl (by omega) ?_
    first | exact t1 (by omega) | exact t0 (by omega)
theorem r_hasPlaces {a : Nat} {i n : Int} (hR : kg_R L a) (hi : kx_in i) (hn : kx_in n) (hb : kx_in (μ a 2)) (t1 : 0 ≤ i ∧ 0 ≤ n ∧ i + n ≤ μ a 2 → Q (some (kI 1)) (kg L) μ) (t0 : ¬ (0 ≤ i ∧ 0 ≤ n ∧ i + n ≤ μ a 2) → Q (some (kI 0)) (kg L) μ) : kx_cx (ke (d + 1)) 34 [kR a, kI i, kI n] (kg L) μ Q := by
  obtain ⟨_, _⟩ := hb; obtain ⟨_, _⟩ := hi; obtain ⟨_, _⟩ := hn
  obtain ⟨_, _⟩ := hR
  refine ke_start (tb := kt_Row_hasPlaces) (ls := [some (kR a), some (kI i), some (kI n)]) rfl rfl ?_
  refine ks_iload_n rfl rfl ?_
  refine ks_if_lt rfl ⟨by omega, by omega⟩ (fun h1 => ?_) (fun h1 => ?_)
  · refine ks_iconst rfl ?_
    refine ks_zreturn rfl (by omega) ?_
    first | exact t1 (by omega) | exact t0 (by omega)
  · refine ks_iload_n rfl rfl ?_
    refine ks_if_lt rfl ⟨by omega, by omega⟩ (fun h2 => ?_) (fun h2 => ?_)
    · refine ks_iconst rfl ?_
      refine ks_zreturn rfl (by omega) ?_
      first | exact t1 (by omega) | exact t0 (by omega)
    · refine ks_iload_n rfl rfl ?_
      refine ks_i2l rfl ⟨by omega, by omega⟩ ?_
      refine ks_iload_n rfl rfl ?_
      refine ks_i2l rfl ⟨by omega, by omega⟩ ?_
      refine ks_ladd rfl ?_
      refine ks_aload_n rfl rfl ?_
      refine ks_geti rfl rfl (by assumption) rfl (by (try simp only [kx_up_at, kx_row_at, up1_at, Nat.reduceEqDiff, Int.reduceEq, Int.reduceNeg, and_true, true_and, and_false, false_and, and_self, reduceIte, Nat.add_left_cancel_iff, Nat.add_eq_left, Nat.left_eq_add, Nat.reduceAdd, Int.add_left_inj, Int.add_right_inj]); rfl) ?_
      refine ks_i2l rfl ⟨by omega, by omega⟩ ?_
      refine ks_lcmp rfl ⟨by omega, by omega⟩ ⟨by omega, by omega⟩ (fun hl => ?_) (fun hl => ?_) (fun hl => ?_)
      · refine ks_if_gt_m rfl ?_
        refine ks_iconst rfl ?_
        refine ks_goto rfl ?_
        refine ks_zreturn rfl (by omega) ?_
        first | exact t1 (by omega) | exact t0 (by omega)
      · refine ks_if_gt_0 rfl ?_
        refine ks_iconst rfl ?_
        refine ks_goto rfl ?_
        refine ks_zreturn rfl (by omega) ?_
        first | exact t1 (by omega) | exact t0 (by omega)
      · refine ks_if_gt_1 rfl ?_
        refine ks_iconst rfl ?_
        refine ks_zreturn rfl (by omega) ?_
        first | exact t1 (by omega) | exact t0 (by omega)
end SM
end
section
/-! rows of numbers, and what a town does, as functions -/
/-- bit k of x, as both programs look at it -/
def tw_has (x k : Int) : Prop := kx_and (x.bmod 4294967296 / 2 ^ k.toNat) 1 = 1
/-- order k can be worked on by head h -/
def tw_P (s : Int → Int) (h k : Int) : Prop := s (38 + k) = 0 ∧ tw_has (s (18 + h)) k
def tw_dec (s : Int → Int) (h k : Int) : Decidable (tw_P s h k) := by unfold tw_P tw_has; exact inferInstanceAs (Decidable (_ ∧ _))
/-- the order that is found among the first n, from the last down -/
def tw_f (s : Int → Int) (h : Int) : Nat → Int → Int
  | 0, f => f
  | n + 1, f => tw_f s h n (if s (38 + n) = 0 ∧ kx_and ((s (18 + h)).bmod 4294967296 / 2 ^ (n : Int).toNat) 1 = 1 then n else f)
def tw_found (s : Int → Int) (h : Int) : Int := tw_f s h (s 2).toNat (-1)
/-- how many of the first n are out -/
def tw_oc (s : Int → Int) : Nat → Int
  | 0 => 0
  | n + 1 => tw_oc s n + (if s (38 + n) = 0 then 1 else 0)
def tw_out (s : Int → Int) : Int := tw_oc s (s 2).toNat
/-- head h does 1 of order f -/
def tw_work (s : Int → Int) (h f : Int) : Int → Int :=
  if f < 0 then s else
  if s (34 + f) - 1 = 0 then up1 (up1 (up1 (up1 s (34 + f) (s (34 + f) - 1)) (24 + h) (s (24 + h) + 1)) (38 + f) 1) (42 + f) (s 3 + 1)
  else up1 (up1 s (34 + f) (s (34 + f) - 1)) (24 + h) (s (24 + h) + 1)
def tw_on (s : Int → Int) (h : Int) : Int :=
  if s (6 + h) = 2 then (h + 2) % s 1 else if s (6 + h) = 4 then (h + s 0) % s 1 else if s (6 + h) = 5 then (h - s 0) % s 1 else (h + 1) % s 1
/-- one step more of time -/
def tw_tick (s : Int → Int) : Int → Int := up1 (up1 s 5 (s 5 + 1)) 3 (s 3 + 1)
def tw_goes (s : Int → Int) (h : Int) : Int → Int :=
  if s 5 < s (12 + h) + (if s (6 + h) = 3 then tw_out s else 0) then s else up1 (up1 s 4 (tw_on s h)) 5 0
def tw_step (s : Int → Int) : Int → Int := tw_goes (tw_tick (tw_work s (s 4) (tw_found s (s 4)))) (s 4)
def tw_go (s : Int → Int) : Nat → Int → Int
  | 0 => s
  | n + 1 => tw_step (tw_go s n)
/-- a town as it must be; its step is at most B -/
def tw_W (B : Int) (s : Int → Int) : Prop := (1 ≤ s 1 ∧ s 1 ≤ 6) ∧ (0 ≤ s 2 ∧ s 2 ≤ 4) ∧ (0 ≤ s 4 ∧ s 4 < s 1) ∧ (0 ≤ s 0 ∧ s 0 ≤ 5) ∧ (0 ≤ s 3 ∧ s 3 ≤ B) ∧ (0 ≤ s 5 ∧ s 5 ≤ 13) ∧
  (∀ i, 0 ≤ i → i < s 1 → (1 ≤ s (6 + i) ∧ s (6 + i) ≤ 5) ∧ (1 ≤ s (12 + i) ∧ s (12 + i) ≤ 9) ∧ (0 ≤ s (18 + i) ∧ s (18 + i) ≤ 15) ∧ (0 ≤ s (24 + i) ∧ s (24 + i) ≤ s 3)) ∧
  (∀ k, 0 ≤ k → k < s 2 → (1 ≤ s (30 + k) ∧ s (30 + k) ≤ 40) ∧ (0 ≤ s (34 + k) ∧ s (34 + k) ≤ 40) ∧ (0 ≤ s (38 + k) ∧ s (38 + k) ≤ 2) ∧ (s (38 + k) = 0 → 1 ≤ s (34 + k)) ∧ (s (38 + k) = 1 → 1 ≤ s (42 + k) ∧ s (42 + k) ≤ s 3))
theorem tw_f_in (s : Int → Int) (h : Int) : ∀ (n : Nat) (f : Int), tw_f s h n f = f ∨ ∃ k : Nat, k < n ∧ tw_f s h n f = k ∧ tw_P s h k := by
  intro n
  induction n with
  | zero => intro f; exact Or.inl rfl
  | succ n ih =>
    intro f
    simp only [tw_f]
    by_cases hc : s (38 + n) = 0 ∧ kx_and ((s (18 + h)).bmod 4294967296 / 2 ^ (n : Int).toNat) 1 = 1
    · rw [if_pos hc]
      rcases ih n with q | ⟨k, q1, q2, q3⟩
      · exact Or.inr ⟨n, by omega, q, hc⟩
      · exact Or.inr ⟨k, by omega, q2, q3⟩
    · rw [if_neg hc]
      rcases ih f with q | ⟨k, q1, q2, q3⟩
      · exact Or.inl q
      · exact Or.inr ⟨k, by omega, q2, q3⟩
theorem tw_found_in (s : Int → Int) (h : Int) : tw_found s h = -1 ∨ (0 ≤ tw_found s h ∧ tw_found s h < s 2 ∧ tw_P s h (tw_found s h)) := by
  rcases tw_f_in s h (s 2).toNat (-1) with q | ⟨k, q1, q2, q3⟩
  · exact Or.inl q
  · refine Or.inr ?_
    unfold tw_found
    rw [q2]
    exact ⟨by omega, by omega, q3⟩
theorem tw_oc_in (s : Int → Int) : ∀ n : Nat, 0 ≤ tw_oc s n ∧ tw_oc s n ≤ n := by
  intro n
  induction n with
  | zero => exact ⟨Int.le_refl 0, Int.le_refl 0⟩
  | succ n ih => simp only [tw_oc]; split <;> omega
theorem tw_oc_congr {s t : Int → Int} : ∀ n : Nat, (∀ k : Nat, k < n → (s (38 + k) = 0 ↔ t (38 + k) = 0)) → tw_oc s n = tw_oc t n := by
  intro n
  induction n with
  | zero => intro _; rfl
  | succ n ih =>
    intro h
    simp only [tw_oc]
    rw [ih (fun k hk => h k (by omega))]
    have := h n (by omega)
    by_cases e : s (38 + n) = 0
    · rw [if_pos e, if_pos (this.mp e)]
    · rw [if_neg e, if_neg (fun q => e (this.mpr q))]
theorem tw_work_lo {s : Int → Int} {h f : Int} (hh : 0 ≤ h ∧ h < 6) (hf : f < 4) {j : Int} (hj : j < 24 ∨ 30 ≤ j ∧ j < 34) : tw_work s h f j = s j := by
  unfold tw_work
  split
  · rfl
  · split
    · simp only [up1_at]
      rw [if_neg (by omega), if_neg (by omega), if_neg (by omega), if_neg (by omega)]
    · simp only [up1_at]
      rw [if_neg (by omega), if_neg (by omega)]
theorem tw_work_how {s : Int → Int} {B h f : Int} (hw : tw_W B s) (hh : 0 ≤ h ∧ h < s 1) (hf : f = -1 ∨ 0 ≤ f ∧ f < s 2) {k : Int} (h0 : 0 ≤ k) (h1 : k < s 2) : 0 ≤ tw_work s h f (38 + k) ∧ tw_work s h f (38 + k) ≤ 2 := by
  obtain ⟨w1, w2, w3, w4, w5, w6, w7, w8⟩ := hw
  have := w8 k h0 h1
  unfold tw_work
  split
  · omega
  · split
    · simp only [up1_at]
      rw [if_neg (by omega)]
      split
      · omega
      · rw [if_neg (by omega), if_neg (by omega)]; omega
    · simp only [up1_at]
      rw [if_neg (by omega), if_neg (by omega)]; omega
theorem tw_tick_at {s : Int → Int} {j : Int} (h : j ≠ 5 ∧ j ≠ 3) : tw_tick s j = s j := by
  unfold tw_tick
  simp only [up1_at]
  rw [if_neg h.2, if_neg h.1]
theorem tw_mod {x n : Int} (h0 : 0 ≤ x) (hn : 0 < n) : x.tmod n = x % n := by rw [Int.tmod_eq_emod_of_nonneg h0]
end
section
section MT
variable {d L : Nat} {G : kx_G} {μ : kx_M} {Q : Option kx_V → kx_G → kx_M → Prop}
theorem r_has {x k : Int} (h0 : 0 ≤ k) (h1 : k < 32) (t1 : kx_and (x.bmod 4294967296 / 2 ^ k.toNat) 1 = 1 → Q (some (kI 1)) G μ) (t0 : ¬ kx_and (x.bmod 4294967296 / 2 ^ k.toNat) 1 = 1 → Q (some (kI 0)) G μ) : kx_cx (ke (d + 1)) 117 [kI x, kI k] G μ Q := by
  obtain ⟨_, _⟩ := kx_and_in (x.bmod 4294967296 / 2 ^ k.toNat) 1
  refine ke_start (tb := kt_M_has) (ls := [some (kI x), some (kI k)]) rfl rfl ?_
  refine ks_iload_n rfl rfl ?_
  refine ks_iload_n rfl rfl ?_
  refine ks_ishr rfl (by omega) (by omega) ?_
  refine ks_iconst rfl ?_
  refine ks_iand rfl ?_
  refine ks_iconst rfl ?_
  refine ks_icmp_ne rfl ⟨by omega, by omega⟩ ⟨by omega, by omega⟩ (fun h1 => ?_) (fun h1 => ?_)
  · refine ks_iconst rfl ?_
    refine ks_goto rfl ?_
    refine ks_zreturn rfl (by omega) ?_
    first | exact t1 (by omega) | exact t0 (by omega)
  · refine ks_iconst rfl ?_
    refine ks_zreturn rfl (by omega) ?_
    first | exact t1 (by omega) | exact t0 (by omega)
theorem l_outMany {s : Int → Int} (hs : μ 81 = s) (hk : ∀ k, 0 ≤ k → k < s 2 → 0 ≤ s (38 + k) ∧ s (38 + k) ≤ 2) (h2 : 0 ≤ s 2 ∧ s 2 ≤ 4) (t : Q (some (kI (tw_out s))) (kg L) μ) : ∀ (r j : Nat), j + r = (s 2).toNat → kx_wx (ke d) kt_M_outMany Q 4 [some (kR 77), some (kI (tw_oc s j)), some (kI j)] [] (kg L) μ := by
  intro r
  induction r with
  | zero =>
    intro j hj
    refine ks_iload_n rfl rfl ?_
    refine ks_aload_n rfl rfl ?_
    refine ks_getr (b := 81) rfl rfl rfl rfl (by decide) ?_
    refine ks_iconst rfl ?_
    refine ks_iaload rfl rfl (by omega) (by omega) (by (try simp only [kx_up_at, kx_row_at, up1_at, Nat.reduceEqDiff, Int.reduceEq, Int.reduceNeg, and_true, true_and, and_false, false_and, and_self, reduceIte, Nat.add_left_cancel_iff, Nat.add_eq_left, Nat.left_eq_add, Nat.reduceAdd, Int.add_left_inj, Int.add_right_inj, hs]); rfl) ?_
    -- at 11: if ge -> 40 else 14 st [None, None]
    refine ks_icmp_ge rfl ⟨by omega, by omega⟩ ⟨by omega, by omega⟩ (fun h => ?_) (fun h => ?_)
    · exact absurd h (by omega)
    · refine ks_iload_n rfl rfl ?_
      refine ks_ireturn rfl ?_
      -- at 41: ret  st [None]
      unfold tw_out at t
      rw [← hj] at t
      exact t
  | succ r ih =>
    intro j hj
    have hkj := hk j (by omega) (by omega)
    refine ks_iload_n rfl rfl ?_
    refine ks_aload_n rfl rfl ?_
    refine ks_getr (b := 81) rfl rfl rfl rfl (by decide) ?_
    refine ks_iconst rfl ?_
    refine ks_iaload rfl rfl (by omega) (by omega) (by (try simp only [kx_up_at, kx_row_at, up1_at, Nat.reduceEqDiff, Int.reduceEq, Int.reduceNeg, and_true, true_and, and_false, false_and, and_self, reduceIte, Nat.add_left_cancel_iff, Nat.add_eq_left, Nat.left_eq_add, Nat.reduceAdd, Int.add_left_inj, Int.add_right_inj, hs]); rfl) ?_
    -- at 11: if ge -> 40 else 14 st [None, None]
    refine ks_icmp_ge rfl ⟨by omega, by omega⟩ ⟨by omega, by omega⟩ (fun h => ?_) (fun h => ?_)
    · refine ks_iload_n rfl rfl ?_
      refine ks_aload_n rfl rfl ?_
      refine ks_getr (b := 81) rfl rfl rfl rfl (by decide) ?_
      refine ks_bipush rfl ?_
      refine ks_iload_n rfl rfl ?_
      refine ks_iadd rfl ?_
      refine ks_iaload rfl rfl (by omega) (by omega) (by (try simp only [kx_up_at, kx_row_at, up1_at, Nat.reduceEqDiff, Int.reduceEq, Int.reduceNeg, and_true, true_and, and_false, false_and, and_self, reduceIte, Nat.add_left_cancel_iff, Nat.add_eq_left, Nat.left_eq_add, Nat.reduceAdd, Int.add_left_inj, Int.add_right_inj, hs]); rfl) ?_
      -- at 24: if ne -> 31 else 27 st [None, None]
      refine ks_if_ne rfl ⟨by omega, by omega⟩ (fun h => ?_) (fun h => ?_)
      · refine ks_iconst rfl ?_
        refine ks_goto rfl ?_
        refine ks_iadd rfl ?_
        refine ks_istore_n_1 rfl rfl ?_
        refine ks_iinc_2 rfl rfl ?_
        refine ks_goto rfl ?_
        -- at 4: stop  st []
        have e : tw_oc s j + 1 = tw_oc s (j + 1) := by simp only [tw_oc]; rw [if_pos h]
        rw [e]
        exact ih (j + 1) (by omega)
      · refine ks_iconst rfl ?_
        refine ks_iadd rfl ?_
        refine ks_istore_n_1 rfl rfl ?_
        refine ks_iinc_2 rfl rfl ?_
        refine ks_goto rfl ?_
        -- at 4: stop  st []
        have e : tw_oc s j + 0 = tw_oc s (j + 1) := by simp only [tw_oc]; rw [if_neg h]
        rw [e]
        exact ih (j + 1) (by omega)
    · exact absurd h (by omega)
theorem r_outMany {s : Int → Int} (hs : μ 81 = s) (hk : ∀ k, 0 ≤ k → k < s 2 → 0 ≤ s (38 + k) ∧ s (38 + k) ≤ 2) (h2 : 0 ≤ s 2 ∧ s 2 ≤ 4) (t : Q (some (kI (tw_out s))) (kg L) μ) : kx_cx (ke (d + 1)) 139 [kR 77] (kg L) μ Q := by
  refine ke_start (tb := kt_M_outMany) (ls := [some (kR 77), none, none]) rfl rfl ?_
  refine ks_iconst rfl ?_
  refine ks_istore_n_1 rfl rfl ?_
  refine ks_iconst rfl ?_
  refine ks_istore_n_2 rfl rfl ?_
  -- at 4: stop  st []
  exact l_outMany hs hk h2 t (s 2).toNat 0 (by omega)
theorem l_work {s : Int → Int} {B h : Int} (hs : μ 81 = s) (hw : tw_W B s) (hh : 0 ≤ h ∧ h < s 1) (t : kx_wx (ke (d + 1)) kt_M_work Q 55 [some (kR 77), some (kI h), some (kI (tw_found s h)), some (kI (-1))] [] (kg L) μ) : ∀ (j : Nat) (f : Int), j ≤ (s 2).toNat → tw_f s h j f = tw_found s h → kx_wx (ke (d + 1)) kt_M_work Q 11 [some (kR 77), some (kI h), some (kI f), some (kI (j - 1))] [] (kg L) μ := by
  obtain ⟨w1, w2, w3, w4, w5, w6, w7, w8⟩ := hw
  have q7 := w7 h hh.1 hh.2
  intro j
  induction j with
  | zero =>
    intro f hj hf
    refine ks_iload_n rfl rfl ?_
    -- at 12: if lt -> 55 else 15 st [None]
    refine ks_if_lt rfl ⟨by omega, by omega⟩ (fun h => ?_) (fun h => ?_)
    · have := t
      simp only [tw_f] at hf
      rw [← hf] at this
      exact this
    · exact absurd h (by omega)
  | succ j ih =>
    intro f hj hf
    have e : ((j + 1 : Nat) : Int) - 1 = j := by omega
    rw [e]
    have q8 := w8 j (by omega) (by omega)
    simp only [tw_f] at hf
    refine ks_iload_n rfl rfl ?_
    -- at 12: if lt -> 55 else 15 st [None]
    refine ks_if_lt rfl ⟨by omega, by omega⟩ (fun h => absurd h (by omega)) (fun h => ?_)
    refine ks_aload_n rfl rfl ?_
    refine ks_getr (b := 81) rfl rfl rfl rfl (by decide) ?_
    refine ks_bipush rfl ?_
    refine ks_iload_n rfl rfl ?_
    refine ks_iadd rfl ?_
    refine ks_iaload rfl rfl (by omega) (by omega) (by (try simp only [kx_up_at, kx_row_at, up1_at, Nat.reduceEqDiff, Int.reduceEq, Int.reduceNeg, and_true, true_and, and_false, false_and, and_self, reduceIte, Nat.add_left_cancel_iff, Nat.add_eq_left, Nat.left_eq_add, Nat.reduceAdd, Int.add_left_inj, Int.add_right_inj, hs]); rfl) ?_
    -- at 24: if ne -> 47 else 27 st [None]
    refine ks_if_ne rfl ⟨by omega, by omega⟩ (fun h1 => ?_) (fun h1 => ?_)
    · refine ks_aload_n rfl rfl ?_
      refine ks_getr (b := 81) rfl rfl rfl rfl (by decide) ?_
      refine ks_bipush rfl ?_
      refine ks_iload_n rfl rfl ?_
      refine ks_iadd rfl ?_
      refine ks_iaload rfl rfl (by omega) (by omega) (by (try simp only [kx_up_at, kx_row_at, up1_at, Nat.reduceEqDiff, Int.reduceEq, Int.reduceNeg, and_true, true_and, and_false, false_and, and_self, reduceIte, Nat.add_left_cancel_iff, Nat.add_eq_left, Nat.left_eq_add, Nat.reduceAdd, Int.add_left_inj, Int.add_right_inj, hs]); rfl) ?_
      refine ks_iload_n rfl rfl ?_
      refine ks_calls_2 rfl (Nat.le_of_ble_eq_true rfl) ?_
      -- at 37: call M_has st []
      refine r_has (by omega) (by omega) (fun h2 => ?_) (fun h2 => ?_)
      · show kx_wx _ _ _ _ _ (_ :: _) _ _
        refine ks_if_eq_1 rfl ?_
        refine ks_iload_n rfl rfl ?_
        refine ks_goto rfl ?_
        refine ks_istore_n_2 rfl rfl ?_
        refine ks_iinc_3 rfl rfl ?_
        refine ks_goto rfl ?_
        -- at 11: stop  st []
        rw [if_pos ⟨h1, h2⟩] at hf
        exact ih j (by omega) hf
      · show kx_wx _ _ _ _ _ (_ :: _) _ _
        refine ks_if_eq_0 rfl ?_
        refine ks_iload_n rfl rfl ?_
        refine ks_istore_n_2 rfl rfl ?_
        refine ks_iinc_3 rfl rfl ?_
        refine ks_goto rfl ?_
        -- at 11: stop  st []
        rw [if_neg (fun q => h2 q.2)] at hf
        exact ih f (by omega) hf
    · refine ks_iload_n rfl rfl ?_
      refine ks_istore_n_2 rfl rfl ?_
      refine ks_iinc_3 rfl rfl ?_
      refine ks_goto rfl ?_
      -- at 11: stop  st []
      rw [if_neg (fun q => h1 q.1)] at hf
      exact ih f (by omega) hf
theorem r_work {s : Int → Int} {B h : Int} (hs : μ 81 = s) (hw : tw_W B s) (hh : 0 ≤ h ∧ h < s 1) (t : Q none (kg L) (kx_row μ 81 (tw_work s h (tw_found s h)))) : kx_cx (ke (d + 2)) 140 [kR 77, kI h] (kg L) μ Q := by
  refine ke_start (tb := kt_M_work) (ls := [some (kR 77), some (kI h), none, none]) rfl rfl ?_
  have hw0 := hw
  obtain ⟨w1, w2, w3, w4, w5, w6, w7, w8⟩ := hw
  refine ks_iconst rfl ?_
  refine ks_istore_n_2 rfl rfl ?_
  refine ks_aload_n rfl rfl ?_
  refine ks_getr (b := 81) rfl rfl rfl rfl (by decide) ?_
  refine ks_iconst rfl ?_
  refine ks_iaload rfl rfl (by omega) (by omega) (by (try simp only [kx_up_at, kx_row_at, up1_at, Nat.reduceEqDiff, Int.reduceEq, Int.reduceNeg, and_true, true_and, and_false, false_and, and_self, reduceIte, Nat.add_left_cancel_iff, Nat.add_eq_left, Nat.left_eq_add, Nat.reduceAdd, Int.add_left_inj, Int.add_right_inj, hs]); rfl) ?_
  refine ks_iconst rfl ?_
  refine ks_isub rfl ?_
  refine ks_istore_n_3 rfl rfl ?_
  -- at 11: stop  st []
  have e0 : s 2 - 1 = ((s 2).toNat : Int) - 1 := by omega
  rw [e0]
  refine l_work hs hw0 hh ?_ (s 2).toNat (-1) (Nat.le_refl _) rfl
  generalize hf : tw_found s h = f at t
  have hfi := tw_found_in s h
  rw [hf] at hfi
  refine ks_iload_n rfl rfl ?_
  -- at 56: if lt -> 124 else 59 st [None]
  refine ks_if_lt rfl ⟨by omega, by omega⟩ (fun h1 => ?_) (fun h1 => ?_)
  · refine ks_return rfl ?_
    -- at 124: ret  st []
    unfold tw_work at t
    rw [if_pos h1, ← hs, kx_row_id] at t
    exact t
  · obtain ⟨f1, f2, f3⟩ := hfi.resolve_left (by omega)
    have q8 := w8 f f1 f2
    have n1 : ¬ (24 + h = 34 + f) := by omega
    have n2 : ¬ (34 + f = 24 + h) := by omega
    have n3 : ¬ ((3 : Int) = 24 + h) := by omega
    have n4 : ¬ ((3 : Int) = 34 + f) := by omega
    have n5 : ¬ ((3 : Int) = 38 + f) := by omega
    refine ks_aload_n rfl rfl ?_
    refine ks_getr (b := 81) rfl rfl rfl rfl (by decide) ?_
    refine ks_bipush rfl ?_
    refine ks_iload_n rfl rfl ?_
    refine ks_iadd rfl ?_
    refine ks_dup2 rfl ?_
    refine ks_iaload rfl rfl (by omega) (by omega) (by (try simp only [kx_up_at, kx_row_at, up1_at, Nat.reduceEqDiff, Int.reduceEq, Int.reduceNeg, and_true, true_and, and_false, false_and, and_self, reduceIte, Nat.add_left_cancel_iff, Nat.add_eq_left, Nat.left_eq_add, Nat.reduceAdd, Int.add_left_inj, Int.add_right_inj, hs, n1, n2, n3, n4, n5]); rfl) ?_
    refine ks_iconst rfl ?_
    refine ks_isub rfl ?_
    refine ks_iastore rfl rfl (by omega) (by omega) ?_
    refine ks_aload_n rfl rfl ?_
    refine ks_getr (b := 81) rfl rfl rfl rfl (by decide) ?_
    refine ks_bipush rfl ?_
    refine ks_iload_n rfl rfl ?_
    refine ks_iadd rfl ?_
    refine ks_dup2 rfl ?_
    refine ks_iaload rfl rfl (by omega) (by omega) (by (try simp only [kx_up_at, kx_row_at, up1_at, Nat.reduceEqDiff, Int.reduceEq, Int.reduceNeg, and_true, true_and, and_false, false_and, and_self, reduceIte, Nat.add_left_cancel_iff, Nat.add_eq_left, Nat.left_eq_add, Nat.reduceAdd, Int.add_left_inj, Int.add_right_inj, hs, n1, n2, n3, n4, n5]); rfl) ?_
    refine ks_iconst rfl ?_
    refine ks_iadd rfl ?_
    refine ks_iastore rfl rfl (by omega) (by omega) ?_
    refine ks_aload_n rfl rfl ?_
    refine ks_getr (b := 81) rfl rfl rfl rfl (by decide) ?_
    refine ks_bipush rfl ?_
    refine ks_iload_n rfl rfl ?_
    refine ks_iadd rfl ?_
    refine ks_iaload rfl rfl (by omega) (by omega) (by (try simp only [kx_up_at, kx_row_at, up1_at, Nat.reduceEqDiff, Int.reduceEq, Int.reduceNeg, and_true, true_and, and_false, false_and, and_self, reduceIte, Nat.add_left_cancel_iff, Nat.add_eq_left, Nat.left_eq_add, Nat.reduceAdd, Int.add_left_inj, Int.add_right_inj, hs, n1, n2, n3, n4, n5]); rfl) ?_
    -- at 94: if ne -> 124 else 97 st [None]
    refine ks_if_ne rfl ⟨by omega, by omega⟩ (fun h2 => ?_) (fun h2 => ?_)
    · refine ks_aload_n rfl rfl ?_
      refine ks_getr (b := 81) rfl rfl rfl rfl (by decide) ?_
      refine ks_bipush rfl ?_
      refine ks_iload_n rfl rfl ?_
      refine ks_iadd rfl ?_
      refine ks_iconst rfl ?_
      refine ks_iastore rfl rfl (by omega) (by omega) ?_
      refine ks_aload_n rfl rfl ?_
      refine ks_getr (b := 81) rfl rfl rfl rfl (by decide) ?_
      refine ks_bipush rfl ?_
      refine ks_iload_n rfl rfl ?_
      refine ks_iadd rfl ?_
      refine ks_aload_n rfl rfl ?_
      refine ks_getr (b := 81) rfl rfl rfl rfl (by decide) ?_
      refine ks_iconst rfl ?_
      refine ks_iaload rfl rfl (by omega) (by omega) (by (try simp only [kx_up_at, kx_row_at, up1_at, Nat.reduceEqDiff, Int.reduceEq, Int.reduceNeg, and_true, true_and, and_false, false_and, and_self, reduceIte, Nat.add_left_cancel_iff, Nat.add_eq_left, Nat.left_eq_add, Nat.reduceAdd, Int.add_left_inj, Int.add_right_inj, hs, n1, n2, n3, n4, n5]); rfl) ?_
      refine ks_iconst rfl ?_
      refine ks_iadd rfl ?_
      refine ks_iastore rfl rfl (by omega) (by omega) ?_
      refine ks_return rfl ?_
      -- at 124: ret  st []
      unfold tw_work at t
      rw [if_neg h1, if_pos h2] at t
      simp only [kx_up_up1, kx_row_self, kx_row_row, hs]
      exact t
    · refine ks_return rfl ?_
      -- at 124: ret  st []
      unfold tw_work at t
      rw [if_neg h1, if_neg h2] at t
      simp only [kx_up_up1, kx_row_self, kx_row_row, hs, up1_at, n1, if_false]
      exact t
theorem r_oneStep {s : Int → Int} {B : Int} (hB : B ≤ 100000) (hs : μ 81 = s) (hw : tw_W B s) (t : Q none (kg L) (kx_row μ 81 (tw_step s))) : kx_cx (ke (d + 3)) 141 [kR 77] (kg L) μ Q := by
  refine ke_start (tb := kt_M_oneStep) (ls := [some (kR 77), none, none, none]) rfl rfl ?_
  have hw0 := hw
  obtain ⟨w1, w2, w3, w4, w5, w6, w7, w8⟩ := hw
  generalize hh : s 4 = h at *
  have q7 := w7 h w3.1 w3.2
  refine ks_aload_n rfl rfl ?_
  refine ks_getr (b := 81) rfl rfl rfl rfl (by decide) ?_
  refine ks_iconst rfl ?_
  refine ks_iaload rfl rfl (by omega) (by omega) (by (try simp only [kx_up_at, kx_row_at, up1_at, Nat.reduceEqDiff, Int.reduceEq, Int.reduceNeg, and_true, true_and, and_false, false_and, and_self, reduceIte, Nat.add_left_cancel_iff, Nat.add_eq_left, Nat.left_eq_add, Nat.reduceAdd, Int.add_left_inj, Int.add_right_inj, hs, hh]); rfl) ?_
  refine ks_istore_n_1 rfl rfl ?_
  refine ks_aload_n rfl rfl ?_
  refine ks_getr (b := 81) rfl rfl rfl rfl (by decide) ?_
  refine ks_bipush rfl ?_
  refine ks_iload_n rfl rfl ?_
  refine ks_iadd rfl ?_
  refine ks_iaload rfl rfl (by omega) (by omega) (by (try simp only [kx_up_at, kx_row_at, up1_at, Nat.reduceEqDiff, Int.reduceEq, Int.reduceNeg, and_true, true_and, and_false, false_and, and_self, reduceIte, Nat.add_left_cancel_iff, Nat.add_eq_left, Nat.left_eq_add, Nat.reduceAdd, Int.add_left_inj, Int.add_right_inj, hs, hh]); rfl) ?_
  refine ks_istore_n_2 rfl rfl ?_
  refine ks_aload_n rfl rfl ?_
  refine ks_iload_n rfl rfl ?_
  refine ks_callv_2 rfl rfl rfl (Nat.le_of_ble_eq_true rfl) ?_
  -- at 19: call M_work st []
  refine r_work hs hw0 w3 ?_
  show kx_wx _ _ _ _ _ _ _ _
  unfold tw_step at t
  rw [hh] at t
  have hfi := tw_found_in s h
  have hlo : ∀ j : Int, j < 24 ∨ 30 ≤ j ∧ j < 34 → tw_work s h (tw_found s h) j = s j := fun j hj => tw_work_lo (by omega) (by omega) hj
  have hho : ∀ k : Int, 0 ≤ k → k < s 2 → 0 ≤ tw_work s h (tw_found s h) (38 + k) ∧ tw_work s h (tw_found s h) (38 + k) ≤ 2 := fun k a b => tw_work_how hw0 w3 (by omega) a b
  generalize tw_work s h (tw_found s h) = s1 at *
  refine ks_aload_n rfl rfl ?_
  refine ks_getr (b := 81) rfl rfl rfl rfl (by decide) ?_
  refine ks_iconst rfl ?_
  refine ks_dup2 rfl ?_
  refine ks_iaload rfl rfl (by omega) (by omega) (by (try simp only [kx_up_at, kx_row_at, up1_at, Nat.reduceEqDiff, Int.reduceEq, Int.reduceNeg, and_true, true_and, and_false, false_and, and_self, reduceIte, Nat.add_left_cancel_iff, Nat.add_eq_left, Nat.left_eq_add, Nat.reduceAdd, Int.add_left_inj, Int.add_right_inj]); rfl) ?_
  refine ks_iconst rfl ?_
  refine ks_iadd rfl ?_
  refine ks_iastore rfl rfl (by omega) (by omega) ?_
  refine ks_aload_n rfl rfl ?_
  refine ks_getr (b := 81) rfl rfl rfl rfl (by decide) ?_
  refine ks_iconst rfl ?_
  refine ks_dup2 rfl ?_
  refine ks_iaload rfl rfl (by omega) (by omega) (by (try simp only [kx_up_at, kx_row_at, up1_at, Nat.reduceEqDiff, Int.reduceEq, Int.reduceNeg, and_true, true_and, and_false, false_and, and_self, reduceIte, Nat.add_left_cancel_iff, Nat.add_eq_left, Nat.left_eq_add, Nat.reduceAdd, Int.add_left_inj, Int.add_right_inj]); rfl) ?_
  refine ks_iconst rfl ?_
  refine ks_iadd rfl ?_
  refine ks_iastore rfl rfl (by omega) (by omega) ?_
  -- at 42: stop  st []
  have em : kx_up (kx_up (kx_row μ 81 s1) 81 5 (s1 5 + 1)) 81 3 (s1 3 + 1) = kx_row μ 81 (tw_tick s1) := by
    rw [kx_up_row_row, kx_up_row_row]; rfl
  rw [em]
  have a5 : tw_tick s1 5 = s 5 + 1 := by rw [← hlo 5 (by omega)]; rfl
  have ao : ∀ j : Int, j ≠ 5 ∧ j ≠ 3 → tw_tick s1 j = s1 j := fun j hj => tw_tick_at hj
  have a1 : tw_tick s1 1 = s 1 := by rw [ao 1 (by omega), hlo 1 (by omega)]
  have a2 : tw_tick s1 2 = s 2 := by rw [ao 2 (by omega), hlo 2 (by omega)]
  have a0 : tw_tick s1 0 = s 0 := by rw [ao 0 (by omega), hlo 0 (by omega)]
  have ak : tw_tick s1 (6 + h) = s (6 + h) := by rw [ao _ (by omega), hlo _ (by omega)]
  have ap : tw_tick s1 (12 + h) = s (12 + h) := by rw [ao _ (by omega), hlo _ (by omega)]
  have ah : ∀ k : Int, 0 ≤ k → k < tw_tick s1 2 → 0 ≤ tw_tick s1 (38 + k) ∧ tw_tick s1 (38 + k) ≤ 2 := fun k b c => by rw [ao (38 + k) (by omega)]; exact hho k b (by omega)
  generalize tw_tick s1 = s2 at *
  have ou := tw_oc_in s2 (s2 2).toNat
  have ou' : tw_oc s2 (s2 2).toNat = tw_out s2 := rfl
  have fin : ∀ (on : Int) (x : Option kx_V), 0 ≤ h + on → h + on ≤ 1000 → (h + on) % s 1 = tw_on s2 h → ¬ s2 5 < s2 (12 + h) + (if s2 (6 + h) = 3 then tw_out s2 else 0) → kx_wx (ke (d + 2)) kt_M_oneStep Q 122 [some (kR 77), some (kI h), some (kI (s (6 + h))), x] [kI on] (kg L) (kx_row μ 81 s2) := by
    intro on x c0 c1 c2 c3
    refine ks_istore_n_3 rfl rfl ?_
    refine ks_aload_n rfl rfl ?_
    refine ks_getr (b := 81) rfl rfl rfl rfl (by decide) ?_
    refine ks_iconst rfl ?_
    refine ks_iload_n rfl rfl ?_
    refine ks_iload_n rfl rfl ?_
    refine ks_iadd rfl ?_
    refine ks_aload_n rfl rfl ?_
    refine ks_getr (b := 81) rfl rfl rfl rfl (by decide) ?_
    refine ks_iconst rfl ?_
    refine ks_iaload rfl rfl (by omega) (by omega) (by (try simp only [kx_up_at, kx_row_at, up1_at, Nat.reduceEqDiff, Int.reduceEq, Int.reduceNeg, and_true, true_and, and_false, false_and, and_self, reduceIte, Nat.add_left_cancel_iff, Nat.add_eq_left, Nat.left_eq_add, Nat.reduceAdd, Int.add_left_inj, Int.add_right_inj, a1]); rfl) ?_
    refine ks_irem rfl ⟨by omega, by omega⟩ ⟨by omega, by omega⟩ (by omega) ?_
    refine ks_iastore rfl rfl (by omega) (by omega) ?_
    refine ks_aload_n rfl rfl ?_
    refine ks_getr (b := 81) rfl rfl rfl rfl (by decide) ?_
    refine ks_iconst rfl ?_
    refine ks_iconst rfl ?_
    refine ks_iastore rfl rfl (by omega) (by omega) ?_
    refine ks_return rfl ?_
    -- at 146: ret  st []
    unfold tw_goes at t
    rw [if_neg c3] at t
    rw [kx_up_row_row, kx_up_row_row, tw_mod c0 (by omega), c2]
    exact t
  have key : ∀ (o : Int), o = (if s2 (6 + h) = 3 then tw_out s2 else 0) → kx_wx (ke (d + 2)) kt_M_oneStep Q 70 [some (kR 77), some (kI h), some (kI (s (6 + h))), none] [kI o, kI (s2 (12 + h)), kI (s2 5)] (kg L) (kx_row μ 81 s2) := by
    intro o ho
    have hob : 0 ≤ o ∧ o ≤ 4 := by rw [ho]; split <;> omega
    refine ks_iadd rfl ?_
    -- at 71: if lt -> 146 else 74 st [None, None]
    refine ks_icmp_lt rfl ⟨by omega, by omega⟩ ⟨by omega, by omega⟩ (fun c1 => ?_) (fun c1 => ?_)
    · refine ks_return rfl ?_
      -- at 146: ret  st []
      unfold tw_goes at t
      rw [if_pos (by rw [← ho]; exact c1)] at t
      exact t
    · rw [ho] at c1
      refine ks_iload_n rfl rfl ?_
      refine ks_iconst rfl ?_
      -- at 76: if ne -> 83 else 79 st ['2', None]
      refine ks_icmp_ne rfl ⟨by omega, by omega⟩ ⟨by omega, by omega⟩ (fun c2 => ?_) (fun c2 => ?_)
      · refine ks_iconst rfl ?_
        refine ks_goto rfl ?_
        -- at 122: stop  st ['2']
        refine fin 2 _ (by omega) (by omega) ?_ c1
        unfold tw_on
        rw [ak, if_pos c2, a1]
      · refine ks_iload_n rfl rfl ?_
        refine ks_iconst rfl ?_
        -- at 85: if ne -> 97 else 88 st ['4', None]
        refine ks_icmp_ne rfl ⟨by omega, by omega⟩ ⟨by omega, by omega⟩ (fun c3 => ?_) (fun c3 => ?_)
        · refine ks_aload_n rfl rfl ?_
          refine ks_getr (b := 81) rfl rfl rfl rfl (by decide) ?_
          refine ks_iconst rfl ?_
          refine ks_iaload rfl rfl (by omega) (by omega) (by (try simp only [kx_up_at, kx_row_at, up1_at, Nat.reduceEqDiff, Int.reduceEq, Int.reduceNeg, and_true, true_and, and_false, false_and, and_self, reduceIte, Nat.add_left_cancel_iff, Nat.add_eq_left, Nat.left_eq_add, Nat.reduceAdd, Int.add_left_inj, Int.add_right_inj, a0]); rfl) ?_
          refine ks_goto rfl ?_
          -- at 122: stop  st [None]
          refine fin (s 0) _ (by omega) (by omega) ?_ c1
          unfold tw_on
          rw [ak, if_neg c2, if_pos c3, a1, a0]
        · refine ks_iload_n rfl rfl ?_
          refine ks_iconst rfl ?_
          -- at 99: if ne -> 121 else 102 st ['5', None]
          refine ks_icmp_ne rfl ⟨by omega, by omega⟩ ⟨by omega, by omega⟩ (fun c4 => ?_) (fun c4 => ?_)
          · refine ks_aload_n rfl rfl ?_
            refine ks_getr (b := 81) rfl rfl rfl rfl (by decide) ?_
            refine ks_iconst rfl ?_
            refine ks_iaload rfl rfl (by omega) (by omega) (by (try simp only [kx_up_at, kx_row_at, up1_at, Nat.reduceEqDiff, Int.reduceEq, Int.reduceNeg, and_true, true_and, and_false, false_and, and_self, reduceIte, Nat.add_left_cancel_iff, Nat.add_eq_left, Nat.left_eq_add, Nat.reduceAdd, Int.add_left_inj, Int.add_right_inj, a0, a1]); rfl) ?_
            refine ks_bipush rfl ?_
            refine ks_imul rfl ?_
            refine ks_aload_n rfl rfl ?_
            refine ks_getr (b := 81) rfl rfl rfl rfl (by decide) ?_
            refine ks_iconst rfl ?_
            refine ks_iaload rfl rfl (by omega) (by omega) (by (try simp only [kx_up_at, kx_row_at, up1_at, Nat.reduceEqDiff, Int.reduceEq, Int.reduceNeg, and_true, true_and, and_false, false_and, and_self, reduceIte, Nat.add_left_cancel_iff, Nat.add_eq_left, Nat.left_eq_add, Nat.reduceAdd, Int.add_left_inj, Int.add_right_inj, a0, a1]); rfl) ?_
            refine ks_isub rfl ?_
            refine ks_goto rfl ?_
            -- at 122: stop  st [None]
            refine fin (s 1 * 6 - s 0) _ (by omega) (by omega) ?_ c1
            unfold tw_on
            rw [ak, if_neg c2, if_neg c3, if_pos c4, a1, a0]
            rw [show h + (s 1 * 6 - s 0) = (h - s 0) + s 1 * 6 by omega, Int.add_mul_emod_self_left]
          · refine ks_iconst rfl ?_
            -- at 122: stop  st ['1']
            refine fin 1 _ (by omega) (by omega) ?_ c1
            unfold tw_on
            rw [ak, if_neg c2, if_neg c3, if_neg c4, a1]
  refine ks_aload_n rfl rfl ?_
  refine ks_getr (b := 81) rfl rfl rfl rfl (by decide) ?_
  refine ks_iconst rfl ?_
  refine ks_iaload rfl rfl (by omega) (by omega) (by (try simp only [kx_up_at, kx_row_at, up1_at, Nat.reduceEqDiff, Int.reduceEq, Int.reduceNeg, and_true, true_and, and_false, false_and, and_self, reduceIte, Nat.add_left_cancel_iff, Nat.add_eq_left, Nat.left_eq_add, Nat.reduceAdd, Int.add_left_inj, Int.add_right_inj]); rfl) ?_
  refine ks_aload_n rfl rfl ?_
  refine ks_getr (b := 81) rfl rfl rfl rfl (by decide) ?_
  refine ks_bipush rfl ?_
  refine ks_iload_n rfl rfl ?_
  refine ks_iadd rfl ?_
  refine ks_iaload rfl rfl (by omega) (by omega) (by (try simp only [kx_up_at, kx_row_at, up1_at, Nat.reduceEqDiff, Int.reduceEq, Int.reduceNeg, and_true, true_and, and_false, false_and, and_self, reduceIte, Nat.add_left_cancel_iff, Nat.add_eq_left, Nat.left_eq_add, Nat.reduceAdd, Int.add_left_inj, Int.add_right_inj]); rfl) ?_
  refine ks_iload_n rfl rfl ?_
  refine ks_iconst rfl ?_
  -- at 59: if ne -> 69 else 62 st ['3', None, None, None]
  refine ks_icmp_ne rfl ⟨by omega, by omega⟩ ⟨by omega, by omega⟩ (fun c1 => ?_) (fun c1 => ?_)
  · refine ks_aload_n rfl rfl ?_
    refine ks_callv_1 rfl rfl rfl (Nat.le_of_ble_eq_true rfl) ?_
    -- at 63: call M_outMany st [None, None]
    refine r_outMany (s := s2) (kx_row_self _ _ _) ah (by omega) ?_
    show kx_wx _ _ _ _ _ (_ :: _) _ _
    refine ks_goto rfl ?_
    -- at 70: stop  st [None, None, None]
    exact key _ (by rw [ak, if_pos c1])
  · refine ks_iconst rfl ?_
    -- at 70: stop  st ['0', None, None]
    exact key _ (by rw [ak, if_neg c1])
end MT
end
section
/-! the class's town -/
/-- the town at cell a shows s on its visible places; its step is z -/
def TRx (μ : kx_M) (a : Nat) (s : Int → Int) (z : Int) : Prop := μ a 8 = s 1 ∧ μ a 9 = s 2 ∧ μ a 10 = s 0 ∧ μ a 11 = s 4 ∧ μ a 12 = s 5 ∧ μ a 13 = z ∧
  (∀ i, 0 ≤ i → i < s 1 → μ (a + 1) i = s (6 + i) ∧ μ (a + 2) i = s (12 + i) ∧ μ (a + 3) i = s (18 + i) ∧ μ (a + 4) i = s (24 + i)) ∧
  (∀ k, 0 ≤ k → k < s 2 → μ (a + 5) k = s (30 + k) ∧ μ (a + 6) k = s (34 + k) ∧ μ (a + 7) k = s (38 + k) ∧ μ (a + 8) k = if s (38 + k) = 1 then s (42 + k) else -1000000)
def TR (μ : kx_M) (a : Nat) (s : Int → Int) : Prop := TRx μ a s (s 3)
/-- nothing but the town at a is written -/
def Fr (a : Nat) (μ μ' : kx_M) : Prop := ∀ c, c < a ∨ a + 8 < c → μ' c = μ c
theorem Fr_rf (a : Nat) (μ : kx_M) : Fr a μ μ := fun _ _ => rfl
theorem Fr_tr {a : Nat} {μ μ1 μ2 : kx_M} (h : Fr a μ μ1) (k : Fr a μ1 μ2) : Fr a μ μ2 := fun c hc => (k c hc).trans (h c hc)
theorem Fr_up {a b : Nat} {μ μ1 : kx_M} {i v : Int} (h : Fr a μ μ1) (hb : a ≤ b ∧ b ≤ a + 8) : Fr a μ (kx_up μ1 b i v) := fun c hc => by rw [kx_up_row (by omega)]; exact h c hc
theorem tw_f_none {s : Int → Int} {h : Int} : ∀ (n : Nat) (f : Int), (∀ j : Nat, j < n → ¬ tw_P s h j) → tw_f s h n f = f := by
  intro n
  induction n with
  | zero => intro f _; rfl
  | succ n ih =>
    intro f hn
    have hq := hn n (by omega)
    simp only [tw_f]
    unfold tw_P tw_has at hq
    rw [if_neg hq]
    exact ih f (fun j hj => hn j (by omega))
theorem tw_f_first {s : Int → Int} {h : Int} {k : Nat} : ∀ (n : Nat) (f : Int), k < n → tw_P s h k → (∀ j : Nat, j < k → ¬ tw_P s h j) → tw_f s h n f = k := by
  intro n
  induction n with
  | zero => intro f hk; omega
  | succ n ih =>
    intro f hk hp hn
    simp only [tw_f]
    by_cases e : k = n
    · subst e
      have hq := hp
      unfold tw_P tw_has at hq
      rw [if_pos hq]
      exact tw_f_none _ _ hn
    · exact ih _ (by omega) hp hn
theorem kx_xor_neg {x n : Int} (h0 : -6 ≤ x) (h1 : x ≤ 12) (h2 : 1 ≤ n) (h3 : n ≤ 6) : (kx_xor x n < 0 ↔ x < 0) ∧ kx_in (kx_xor x n) := by
  have key : ∀ i : Nat, i < 19 → ∀ j : Nat, j < 6 → (kx_xor ((i : Int) - 6) ((j : Int) + 1) < 0 ↔ (i : Int) - 6 < 0) ∧ kx_in (kx_xor ((i : Int) - 6) ((j : Int) + 1)) := by decide
  have := key (x + 6).toNat (by omega) (n - 1).toNat (by omega)
  rw [show (((x + 6).toNat : Nat) : Int) - 6 = x by omega, show (((n - 1).toNat : Nat) : Int) + 1 = n by omega] at this
  exact this
section CT
variable {d L : Nat} {G : kx_G} {μ : kx_M} {Q : Option kx_V → kx_G → kx_M → Prop} {a : Nat} {s : Int → Int} {B z : Int}
theorem r_floorMod {x n : Int} (h0 : -6 ≤ x) (h1 : x ≤ 12) (h2 : 1 ≤ n) (h3 : n ≤ 6) (t : Q (some (kI (x % n))) G μ) : kx_cx (ke (d + 1)) 192 [kI x, kI n] G μ Q := by
  refine ke_start (tb := kt_Math_floorMod) (ls := [some (kI x), some (kI n), none]) rfl rfl ?_
  obtain ⟨k1, k2⟩ := kx_xor_neg h0 h1 h2 h3
  obtain ⟨_, _⟩ := k2
  have hm : x.tmod n = x % n ∧ 0 ≤ x ∨ x < 0 ∧ x.tmod n = 0 ∧ x % n = 0 ∨ x < 0 ∧ x.tmod n ≠ 0 ∧ x.tmod n + n = x % n := by
    have key : ∀ i : Nat, i < 19 → ∀ j : Nat, j < 6 → (((i : Int) - 6).tmod ((j : Int) + 1) = ((i : Int) - 6) % ((j : Int) + 1) ∧ 0 ≤ ((i : Int) - 6) ∨ ((i : Int) - 6) < 0 ∧ ((i : Int) - 6).tmod ((j : Int) + 1) = 0 ∧ ((i : Int) - 6) % ((j : Int) + 1) = 0 ∨ ((i : Int) - 6) < 0 ∧ ((i : Int) - 6).tmod ((j : Int) + 1) ≠ 0 ∧ ((i : Int) - 6).tmod ((j : Int) + 1) + ((j : Int) + 1) = ((i : Int) - 6) % ((j : Int) + 1)) := by decide
    have := key (x + 6).toNat (by omega) (n - 1).toNat (by omega)
    rw [show (((x + 6).toNat : Nat) : Int) - 6 = x by omega, show (((n - 1).toNat : Nat) : Int) + 1 = n by omega] at this
    exact this
  have hb : -6 ≤ x.tmod n ∧ x.tmod n ≤ 12 := by
    have a1 := Int.tmod_lt_of_pos x (show 0 < n by omega)
    have a2 := Int.lt_tmod_of_pos x (show 0 < n by omega)
    omega
  refine ks_iload_n rfl rfl ?_
  refine ks_iload_n rfl rfl ?_
  refine ks_irem rfl ⟨by omega, by omega⟩ ⟨by omega, by omega⟩ (by omega) ?_
  refine ks_istore_n_2 rfl rfl ?_
  refine ks_iload_n rfl rfl ?_
  refine ks_iload_n rfl rfl ?_
  refine ks_ixor rfl ?_
  -- at 7: if ge -> 18 else 10 st [None]
  refine ks_if_ge rfl ⟨by omega, by omega⟩ (fun c1 => ?_) (fun c1 => ?_)
  · refine ks_iload_n rfl rfl ?_
    -- at 11: if eq -> 18 else 14 st [None]
    refine ks_if_eq rfl ⟨by omega, by omega⟩ (fun c2 => ?_) (fun c2 => ?_)
    · refine ks_iload_n rfl rfl ?_
      refine ks_ireturn rfl ?_
      -- at 19: ret  st [None]
      rw [show x.tmod n = x % n by omega]
      exact t
    · refine ks_iload_n rfl rfl ?_
      refine ks_iload_n rfl rfl ?_
      refine ks_iadd rfl ?_
      refine ks_ireturn rfl ?_
      -- at 17: ret  st [None]
      rw [show x.tmod n + n = x % n by omega]
      exact t
  · refine ks_iload_n rfl rfl ?_
    refine ks_ireturn rfl ?_
    -- at 19: ret  st [None]
    rw [show x.tmod n = x % n by omega]
    exact t
theorem l_orderToWorkOn (hK : kg_T L a) (hT : TRx μ a s z) (hw : tw_W B s) (t : Q (some (kI (tw_found s (s 4)))) (kg L) μ) : ∀ (r j : Nat), j + r = (s 2).toNat → (∀ i : Nat, i < j → ¬ tw_P s (s 4) i) → kx_wx (ke d) kt_Town_orderToWorkOn Q 2 [some (kR a), some (kI j)] [] (kg L) μ := by
  obtain ⟨g0, g1, g2, g3, g4, g5, g6, g7, g8, g9, g10, g11, g12, g13, g14, g15, g16⟩ := hK
  obtain ⟨e8, e9, e10, e11, e12, e13, eh, eo⟩ := hT
  obtain ⟨w1, w2, w3, w4, w5, w6, w7, w8⟩ := hw
  have q7 := w7 (s 4) w3.1 w3.2
  have eh4 := (eh (s 4) w3.1 w3.2).2.2.1
  intro r
  induction r with
  | zero =>
    intro j hj hn
    refine ks_iload_n rfl rfl ?_
    refine ks_aload_n rfl rfl ?_
    refine ks_geti rfl rfl (by assumption) rfl (by (try simp only [kx_up_at, kx_row_at, up1_at, Nat.reduceEqDiff, Int.reduceEq, Int.reduceNeg, and_true, true_and, and_false, false_and, and_self, reduceIte, Nat.add_left_cancel_iff, Nat.add_eq_left, Nat.left_eq_add, Nat.reduceAdd, Int.add_left_inj, Int.add_right_inj, e9]); rfl) ?_
    -- at 7: if ge -> 44 else 10 st [None, None]
    refine ks_icmp_ge rfl ⟨by omega, by omega⟩ ⟨by omega, by omega⟩ (fun h => absurd h (by omega)) (fun h => ?_)
    refine ks_iconst rfl ?_
    refine ks_ireturn rfl ?_
    -- at 45: ret  st ['-1']
    unfold tw_found at t
    rw [Nat.add_zero] at hj
    rw [← hj, tw_f_none _ _ hn] at t
    exact t
  | succ r ih =>
    intro j hj hn
    have q8 := w8 j (by omega) (by omega)
    have eok := (eo j (by omega) (by omega)).2.2.1
    refine ks_iload_n rfl rfl ?_
    refine ks_aload_n rfl rfl ?_
    refine ks_geti rfl rfl (by assumption) rfl (by (try simp only [kx_up_at, kx_row_at, up1_at, Nat.reduceEqDiff, Int.reduceEq, Int.reduceNeg, and_true, true_and, and_false, false_and, and_self, reduceIte, Nat.add_left_cancel_iff, Nat.add_eq_left, Nat.left_eq_add, Nat.reduceAdd, Int.add_left_inj, Int.add_right_inj, e9]); rfl) ?_
    -- at 7: if ge -> 44 else 10 st [None, None]
    refine ks_icmp_ge rfl ⟨by omega, by omega⟩ ⟨by omega, by omega⟩ (fun h => ?_) (fun h => absurd h (by omega))
    refine ks_aload_n rfl rfl ?_
    refine ks_getr (b := a + 7) rfl rfl (by assumption) (by assumption) (Nat.succ_ne_zero _) ?_
    refine ks_iload_n rfl rfl ?_
    refine ks_iaload rfl (by assumption) (by omega) (by omega) (by (try simp only [kx_up_at, kx_row_at, up1_at, Nat.reduceEqDiff, Int.reduceEq, Int.reduceNeg, and_true, true_and, and_false, false_and, and_self, reduceIte, Nat.add_left_cancel_iff, Nat.add_eq_left, Nat.left_eq_add, Nat.reduceAdd, Int.add_left_inj, Int.add_right_inj, eok]); rfl) ?_
    -- at 16: if ne -> 38 else 19 st [None]
    refine ks_if_ne rfl ⟨by omega, by omega⟩ (fun h1 => ?_) (fun h1 => ?_)
    · obtain ⟨_, _⟩ := kx_and_in ((s (18 + s 4)).bmod 4294967296 / 2 ^ (j : Int).toNat) 1
      refine ks_aload_n rfl rfl ?_
      refine ks_getr (b := a + 3) rfl rfl (by assumption) (by assumption) (Nat.succ_ne_zero _) ?_
      refine ks_aload_n rfl rfl ?_
      refine ks_geti rfl rfl (by assumption) rfl (by (try simp only [kx_up_at, kx_row_at, up1_at, Nat.reduceEqDiff, Int.reduceEq, Int.reduceNeg, and_true, true_and, and_false, false_and, and_self, reduceIte, Nat.add_left_cancel_iff, Nat.add_eq_left, Nat.left_eq_add, Nat.reduceAdd, Int.add_left_inj, Int.add_right_inj, e11, eh4]); rfl) ?_
      refine ks_iaload rfl (by assumption) (by omega) (by omega) (by (try simp only [kx_up_at, kx_row_at, up1_at, Nat.reduceEqDiff, Int.reduceEq, Int.reduceNeg, and_true, true_and, and_false, false_and, and_self, reduceIte, Nat.add_left_cancel_iff, Nat.add_eq_left, Nat.left_eq_add, Nat.reduceAdd, Int.add_left_inj, Int.add_right_inj, e11, eh4]); rfl) ?_
      refine ks_iload_n rfl rfl ?_
      refine ks_ishr rfl (by omega) (by omega) ?_
      refine ks_iconst rfl ?_
      refine ks_iand rfl ?_
      refine ks_iconst rfl ?_
      -- at 33: if ne -> 38 else 36 st ['1', None]
      refine ks_icmp_ne rfl ⟨by omega, by omega⟩ ⟨by omega, by omega⟩ (fun h2 => ?_) (fun h2 => ?_)
      · refine ks_iload_n rfl rfl ?_
        refine ks_ireturn rfl ?_
        -- at 37: ret  st [None]
        unfold tw_found at t
        rw [tw_f_first (k := j) _ _ (by omega) ⟨h1, h2⟩ hn] at t
        exact t
      · refine ks_iinc_1 rfl rfl ?_
        refine ks_goto rfl ?_
        -- at 2: stop  st []
        exact ih (j + 1) (by omega) (fun i hi => by
          by_cases e : i = j
          · subst e; exact fun q => h2 q.2
          · exact hn i (by omega))
    · refine ks_iinc_1 rfl rfl ?_
      refine ks_goto rfl ?_
      -- at 2: stop  st []
      exact ih (j + 1) (by omega) (fun i hi => by
        by_cases e : i = j
        · subst e; exact fun q => h1 q.1
        · exact hn i (by omega))
theorem r_orderToWorkOn (hK : kg_T L a) (hT : TRx μ a s z) (hw : tw_W B s) (t : Q (some (kI (tw_found s (s 4)))) (kg L) μ) : kx_cx (ke (d + 1)) 63 [kR a] (kg L) μ Q := by
  refine ke_start (tb := kt_Town_orderToWorkOn) (ls := [some (kR a), none]) rfl rfl ?_
  refine ks_iconst rfl ?_
  refine ks_istore_n_1 rfl rfl ?_
  -- at 2: stop  st []
  have w2 := hw.2.1
  exact l_orderToWorkOn hK hT hw t (s 2).toNat 0 (by omega) (fun i hi => by omega)
end CT
end
section
/-! the class's town takes a step -/
/-- how many of the first n orders stand in state x -/
def tw_ox (s : Int → Int) (x : Int) : Nat → Int
  | 0 => 0
  | n + 1 => tw_ox s x n + (if s (38 + n) = x then 1 else 0)
theorem tw_ox_in (s : Int → Int) (x : Int) : ∀ n : Nat, 0 ≤ tw_ox s x n ∧ tw_ox s x n ≤ n := by
  intro n
  induction n with
  | zero => exact ⟨Int.le_refl 0, Int.le_refl 0⟩
  | succ n ih => simp only [tw_ox]; split <;> omega
theorem tw_ox_oc (s : Int → Int) : ∀ n : Nat, tw_ox s 0 n = tw_oc s n := by
  intro n
  induction n with
  | zero => rfl
  | succ n ih => simp only [tw_ox, tw_oc]; rw [ih]
/-- what the small questions of a town rest on -/
def tw_U (s : Int → Int) : Prop := (1 ≤ s 1 ∧ s 1 ≤ 6) ∧ (0 ≤ s 2 ∧ s 2 ≤ 4) ∧ (0 ≤ s 4 ∧ s 4 < s 1) ∧ (0 ≤ s 0 ∧ s 0 ≤ 5) ∧ (∀ i, 0 ≤ i → i < s 1 → (1 ≤ s (6 + i) ∧ s (6 + i) ≤ 5) ∧ (1 ≤ s (12 + i) ∧ s (12 + i) ≤ 9)) ∧ (∀ k, 0 ≤ k → k < s 2 → 0 ≤ s (38 + k) ∧ s (38 + k) ≤ 2)
theorem tw_U_of {B : Int} {s : Int → Int} (h : tw_W B s) : tw_U s := by
  obtain ⟨w1, w2, w3, w4, w5, w6, w7, w8⟩ := h
  exact ⟨w1, w2, w3, w4, fun i a b => ⟨(w7 i a b).1, (w7 i a b).2.1⟩, fun k a b => (w8 k a b).2.2.1⟩
section CU
variable {d L : Nat} {G : kx_G} {μ : kx_M} {Q : Option kx_V → kx_G → kx_M → Prop} {a : Nat} {s : Int → Int} {B z : Int}
theorem l_ordersThatAre {x : Int} (hx : 0 ≤ x ∧ x ≤ 2) (hK : kg_T L a) (hT : TRx μ a s z) (hw : tw_U s) (t : Q (some (kI (tw_ox s x (s 2).toNat))) (kg L) μ) : ∀ (r j : Nat), j + r = (s 2).toNat → kx_wx (ke d) kt_Town_ordersThatAre Q 4 [some (kR a), some (kI x), some (kI (tw_ox s x j)), some (kI j)] [] (kg L) μ := by
  obtain ⟨g0, g1, g2, g3, g4, g5, g6, g7, g8, g9, g10, g11, g12, g13, g14, g15, g16⟩ := hK
  obtain ⟨e8, e9, e10, e11, e12, e13, eh, eo⟩ := hT
  obtain ⟨w1, w2, w3, w4, w7, w8⟩ := hw
  intro r
  induction r with
  | zero =>
    intro j hj
    refine ks_iload_n rfl rfl ?_
    refine ks_aload_n rfl rfl ?_
    refine ks_geti rfl rfl (by assumption) rfl (by (try simp only [kx_up_at, kx_row_at, up1_at, Nat.reduceEqDiff, Int.reduceEq, Int.reduceNeg, and_true, true_and, and_false, false_and, and_self, reduceIte, Nat.add_left_cancel_iff, Nat.add_eq_left, Nat.left_eq_add, Nat.reduceAdd, Int.add_left_inj, Int.add_right_inj, e9]); rfl) ?_
    -- at 9: if ge -> 31 else 12 st [None, None]
    refine ks_icmp_ge rfl ⟨by omega, by omega⟩ ⟨by omega, by omega⟩ (fun h => absurd h (by omega)) (fun h => ?_)
    refine ks_iload_n rfl rfl ?_
    refine ks_ireturn rfl ?_
    -- at 32: ret  st [None]
    rw [Nat.add_zero] at hj
    rw [← hj] at t
    exact t
  | succ r ih =>
    intro j hj
    have q8 := w8 j (by omega) (by omega)
    have eok := (eo j (by omega) (by omega)).2.2.1
    have ob := tw_ox_in s x j
    refine ks_iload_n rfl rfl ?_
    refine ks_aload_n rfl rfl ?_
    refine ks_geti rfl rfl (by assumption) rfl (by (try simp only [kx_up_at, kx_row_at, up1_at, Nat.reduceEqDiff, Int.reduceEq, Int.reduceNeg, and_true, true_and, and_false, false_and, and_self, reduceIte, Nat.add_left_cancel_iff, Nat.add_eq_left, Nat.left_eq_add, Nat.reduceAdd, Int.add_left_inj, Int.add_right_inj, e9]); rfl) ?_
    -- at 9: if ge -> 31 else 12 st [None, None]
    refine ks_icmp_ge rfl ⟨by omega, by omega⟩ ⟨by omega, by omega⟩ (fun h => ?_) (fun h => absurd h (by omega))
    refine ks_aload_n rfl rfl ?_
    refine ks_getr (b := a + 7) rfl rfl (by assumption) (by assumption) (Nat.succ_ne_zero _) ?_
    refine ks_iload_n rfl rfl ?_
    refine ks_iaload rfl (by assumption) (by omega) (by omega) (by (try simp only [kx_up_at, kx_row_at, up1_at, Nat.reduceEqDiff, Int.reduceEq, Int.reduceNeg, and_true, true_and, and_false, false_and, and_self, reduceIte, Nat.add_left_cancel_iff, Nat.add_eq_left, Nat.left_eq_add, Nat.reduceAdd, Int.add_left_inj, Int.add_right_inj, eok]); rfl) ?_
    refine ks_iload_n rfl rfl ?_
    -- at 19: if ne -> 25 else 22 st [None, None]
    refine ks_icmp_ne rfl ⟨by omega, by omega⟩ ⟨by omega, by omega⟩ (fun h1 => ?_) (fun h1 => ?_)
    · refine ks_iinc_2 rfl rfl ?_
      refine ks_iinc_3 rfl rfl ?_
      refine ks_goto rfl ?_
      -- at 4: stop  st []
      have e : tw_ox s x j + 1 = tw_ox s x (j + 1) := by simp only [tw_ox]; rw [if_pos h1]
      rw [e]
      exact ih (j + 1) (by omega)
    · refine ks_iinc_3 rfl rfl ?_
      refine ks_goto rfl ?_
      -- at 4: stop  st []
      have e : tw_ox s x j = tw_ox s x (j + 1) := by simp only [tw_ox]; rw [if_neg h1, Int.add_zero]
      rw [e]
      exact ih (j + 1) (by omega)
theorem r_ordersThatAre {x : Int} (hx : 0 ≤ x ∧ x ≤ 2) (hK : kg_T L a) (hT : TRx μ a s z) (hw : tw_U s) (t : Q (some (kI (tw_ox s x (s 2).toNat))) (kg L) μ) : kx_cx (ke (d + 1)) 59 [kR a, kI x] (kg L) μ Q := by
  refine ke_start (tb := kt_Town_ordersThatAre) (ls := [some (kR a), some (kI x), none, none]) rfl rfl ?_
  refine ks_iconst rfl ?_
  refine ks_istore_n_2 rfl rfl ?_
  refine ks_iconst rfl ?_
  refine ks_istore_n_3 rfl rfl ?_
  -- at 4: stop  st []
  have w2 := hw.2.1
  exact l_ordersThatAre hx hK hT hw t (s 2).toNat 0 (by omega)
theorem r_patience (hK : kg_T L a) (hT : TRx μ a s z) (hw : tw_U s) (t : Q (some (kI (s (12 + s 4) + if s (6 + s 4) = 3 then tw_out s else 0))) (kg L) μ) : kx_cx (ke (d + 2)) 65 [kR a] (kg L) μ Q := by
  refine ke_start (tb := kt_Town_patience) (ls := [some (kR a), none]) rfl rfl ?_
  have hK0 := hK
  have hT0 := hT
  have hw0 := hw
  obtain ⟨g0, g1, g2, g3, g4, g5, g6, g7, g8, g9, g10, g11, g12, g13, g14, g15, g16⟩ := hK
  obtain ⟨e8, e9, e10, e11, e12, e13, eh, eo⟩ := hT
  obtain ⟨w1, w2, w3, w4, w7, w8⟩ := hw
  have q7 := w7 (s 4) w3.1 w3.2
  obtain ⟨ek, ep, el, ew⟩ := eh (s 4) w3.1 w3.2
  have ob := tw_ox_in s 0 (s 2).toNat
  refine ks_aload_n rfl rfl ?_
  refine ks_getr (b := a + 1) rfl rfl (by assumption) (by assumption) (Nat.succ_ne_zero _) ?_
  refine ks_aload_n rfl rfl ?_
  refine ks_geti rfl rfl (by assumption) rfl (by (try simp only [kx_up_at, kx_row_at, up1_at, Nat.reduceEqDiff, Int.reduceEq, Int.reduceNeg, and_true, true_and, and_false, false_and, and_self, reduceIte, Nat.add_left_cancel_iff, Nat.add_eq_left, Nat.left_eq_add, Nat.reduceAdd, Int.add_left_inj, Int.add_right_inj, e11, ek]); rfl) ?_
  refine ks_iaload rfl (by assumption) (by omega) (by omega) (by (try simp only [kx_up_at, kx_row_at, up1_at, Nat.reduceEqDiff, Int.reduceEq, Int.reduceNeg, and_true, true_and, and_false, false_and, and_self, reduceIte, Nat.add_left_cancel_iff, Nat.add_eq_left, Nat.left_eq_add, Nat.reduceAdd, Int.add_left_inj, Int.add_right_inj, e11, ek]); rfl) ?_
  refine ks_iconst rfl ?_
  -- at 10: if ne -> 21 else 13 st ['3', None]
  refine ks_icmp_ne rfl ⟨by omega, by omega⟩ ⟨by omega, by omega⟩ (fun h1 => ?_) (fun h1 => ?_)
  · refine ks_aload_n rfl rfl ?_
    refine ks_iconst rfl ?_
    refine ks_callv_2 rfl rfl (by assumption) (Nat.le_of_ble_eq_true rfl) ?_
    -- at 15: call Town_ordersThatAre st []
    refine r_ordersThatAre (by omega) hK0 hT0 hw0 ?_
    show kx_wx _ _ _ _ _ (_ :: _) _ _
    refine ks_goto rfl ?_
    refine ks_istore_n_1 rfl rfl ?_
    refine ks_aload_n rfl rfl ?_
    refine ks_getr (b := a + 2) rfl rfl (by assumption) (by assumption) (Nat.succ_ne_zero _) ?_
    refine ks_aload_n rfl rfl ?_
    refine ks_geti rfl rfl (by assumption) rfl (by (try simp only [kx_up_at, kx_row_at, up1_at, Nat.reduceEqDiff, Int.reduceEq, Int.reduceNeg, and_true, true_and, and_false, false_and, and_self, reduceIte, Nat.add_left_cancel_iff, Nat.add_eq_left, Nat.left_eq_add, Nat.reduceAdd, Int.add_left_inj, Int.add_right_inj, e11, ep]); rfl) ?_
    refine ks_iaload rfl (by assumption) (by omega) (by omega) (by (try simp only [kx_up_at, kx_row_at, up1_at, Nat.reduceEqDiff, Int.reduceEq, Int.reduceNeg, and_true, true_and, and_false, false_and, and_self, reduceIte, Nat.add_left_cancel_iff, Nat.add_eq_left, Nat.left_eq_add, Nat.reduceAdd, Int.add_left_inj, Int.add_right_inj, e11, ep]); rfl) ?_
    refine ks_iload_n rfl rfl ?_
    refine ks_iadd rfl ?_
    refine ks_ireturn rfl ?_
    -- at 34: ret  st [None]
    rw [if_pos h1] at t
    rw [tw_ox_oc]
    exact t
  · refine ks_iconst rfl ?_
    refine ks_istore_n_1 rfl rfl ?_
    refine ks_aload_n rfl rfl ?_
    refine ks_getr (b := a + 2) rfl rfl (by assumption) (by assumption) (Nat.succ_ne_zero _) ?_
    refine ks_aload_n rfl rfl ?_
    refine ks_geti rfl rfl (by assumption) rfl (by (try simp only [kx_up_at, kx_row_at, up1_at, Nat.reduceEqDiff, Int.reduceEq, Int.reduceNeg, and_true, true_and, and_false, false_and, and_self, reduceIte, Nat.add_left_cancel_iff, Nat.add_eq_left, Nat.left_eq_add, Nat.reduceAdd, Int.add_left_inj, Int.add_right_inj, e11, ep]); rfl) ?_
    refine ks_iaload rfl (by assumption) (by omega) (by omega) (by (try simp only [kx_up_at, kx_row_at, up1_at, Nat.reduceEqDiff, Int.reduceEq, Int.reduceNeg, and_true, true_and, and_false, false_and, and_self, reduceIte, Nat.add_left_cancel_iff, Nat.add_eq_left, Nat.left_eq_add, Nat.reduceAdd, Int.add_left_inj, Int.add_right_inj, e11, ep]); rfl) ?_
    refine ks_iload_n rfl rfl ?_
    refine ks_iadd rfl ?_
    refine ks_ireturn rfl ?_
    -- at 34: ret  st [None]
    rw [if_neg h1] at t
    exact t
theorem r_stride (hK : kg_T L a) (hT : TRx μ a s z) (hw : tw_U s) (t : ∀ v : Int, -5 ≤ v → v ≤ 5 → (s 4 + v) % s 1 = tw_on s (s 4) → Q (some (kI v)) (kg L) μ) : kx_cx (ke (d + 1)) 66 [kR a] (kg L) μ Q := by
  refine ke_start (tb := kt_Town_stride) (ls := [some (kR a)]) rfl rfl ?_
  obtain ⟨g0, g1, g2, g3, g4, g5, g6, g7, g8, g9, g10, g11, g12, g13, g14, g15, g16⟩ := hK
  obtain ⟨e8, e9, e10, e11, e12, e13, eh, eo⟩ := hT
  obtain ⟨w1, w2, w3, w4, w7, w8⟩ := hw
  have q7 := w7 (s 4) w3.1 w3.2
  obtain ⟨ek, ep, el, ew⟩ := eh (s 4) w3.1 w3.2
  unfold tw_on at t
  refine ks_aload_n rfl rfl ?_
  refine ks_getr (b := a + 1) rfl rfl (by assumption) (by assumption) (Nat.succ_ne_zero _) ?_
  refine ks_aload_n rfl rfl ?_
  refine ks_geti rfl rfl (by assumption) rfl (by (try simp only [kx_up_at, kx_row_at, up1_at, Nat.reduceEqDiff, Int.reduceEq, Int.reduceNeg, and_true, true_and, and_false, false_and, and_self, reduceIte, Nat.add_left_cancel_iff, Nat.add_eq_left, Nat.left_eq_add, Nat.reduceAdd, Int.add_left_inj, Int.add_right_inj, e11, ek]); rfl) ?_
  refine ks_iaload rfl (by assumption) (by omega) (by omega) (by (try simp only [kx_up_at, kx_row_at, up1_at, Nat.reduceEqDiff, Int.reduceEq, Int.reduceNeg, and_true, true_and, and_false, false_and, and_self, reduceIte, Nat.add_left_cancel_iff, Nat.add_eq_left, Nat.left_eq_add, Nat.reduceAdd, Int.add_left_inj, Int.add_right_inj, e11, ek]); rfl) ?_
  -- at 9: sw  st [None]
  refine ks_tsw rfl ⟨by omega, by omega⟩ ?_
  simp only [kx_sw, Int.reduceAdd]
  refine kx_ifs (fun h1 => ?_) (fun h1 => ?_)
  · refine ks_iconst rfl ?_
    refine ks_ireturn rfl ?_
    -- at 41: ret  st ['2']
    exact t 2 (by omega) (by omega) (by rw [if_pos h1])
  refine kx_ifs (fun h2 => ?_) (fun h2 => ?_)
  · refine ks_iconst rfl ?_
    refine ks_ireturn rfl ?_
    -- at 54: ret  st ['1']
    exact t 1 (by omega) (by omega) (by rw [if_neg h1, if_neg (by omega), if_neg (by omega)])
  refine kx_ifs (fun h3 => ?_) (fun h3 => ?_)
  · refine ks_aload_n rfl rfl ?_
    refine ks_geti rfl rfl (by assumption) rfl (by (try simp only [kx_up_at, kx_row_at, up1_at, Nat.reduceEqDiff, Int.reduceEq, Int.reduceNeg, and_true, true_and, and_false, false_and, and_self, reduceIte, Nat.add_left_cancel_iff, Nat.add_eq_left, Nat.left_eq_add, Nat.reduceAdd, Int.add_left_inj, Int.add_right_inj, e10]); rfl) ?_
    refine ks_ireturn rfl ?_
    -- at 46: ret  st [None]
    exact t (s 0) (by omega) (by omega) (by rw [if_neg h1, if_pos h3])
  refine kx_ifs (fun h4 => ?_) (fun h4 => ?_)
  · refine ks_aload_n rfl rfl ?_
    refine ks_geti rfl rfl (by assumption) rfl (by (try simp only [kx_up_at, kx_row_at, up1_at, Nat.reduceEqDiff, Int.reduceEq, Int.reduceNeg, and_true, true_and, and_false, false_and, and_self, reduceIte, Nat.add_left_cancel_iff, Nat.add_eq_left, Nat.left_eq_add, Nat.reduceAdd, Int.add_left_inj, Int.add_right_inj, e10]); rfl) ?_
    refine ks_ineg rfl ?_
    refine ks_ireturn rfl ?_
    -- at 52: ret  st [None]
    exact t (- s 0) (by omega) (by omega) (by rw [if_neg h1, if_neg h3, if_pos h4, ← Int.sub_eq_add_neg])
  · refine ks_iconst rfl ?_
    refine ks_ireturn rfl ?_
    -- at 54: ret  st ['1']
    exact t 1 (by omega) (by omega) (by rw [if_neg h1, if_neg (by omega), if_neg (by omega)])
theorem r_seat {x : Int} (h0 : -6 ≤ x) (h1 : x ≤ 12) (hK : kg_T L a) (e8 : μ a 8 = s 1) (w1 : 1 ≤ s 1 ∧ s 1 ≤ 6) (t : Q (some (kI (x % s 1))) (kg L) μ) : kx_cx (ke (d + 2)) 67 [kR a, kI x] (kg L) μ Q := by
  refine ke_start (tb := kt_Town_seat) (ls := [some (kR a), some (kI x)]) rfl rfl ?_
  obtain ⟨g0, g1, g2, g3, g4, g5, g6, g7, g8, g9, g10, g11, g12, g13, g14, g15, g16⟩ := hK
  refine ks_aload_n rfl rfl ?_
  refine ks_geti rfl rfl (by assumption) rfl (by (try simp only [kx_up_at, kx_row_at, up1_at, Nat.reduceEqDiff, Int.reduceEq, Int.reduceNeg, and_true, true_and, and_false, false_and, and_self, reduceIte, Nat.add_left_cancel_iff, Nat.add_eq_left, Nat.left_eq_add, Nat.reduceAdd, Int.add_left_inj, Int.add_right_inj, e8]); rfl) ?_
  -- at 4: if le -> 18 else 7 st [None]
  refine ks_if_le rfl ⟨by omega, by omega⟩ (fun c1 => ?_) (fun c1 => absurd c1 (by omega))
  refine ks_iload_n rfl rfl ?_
  refine ks_aload_n rfl rfl ?_
  refine ks_geti rfl rfl (by assumption) rfl (by (try simp only [kx_up_at, kx_row_at, up1_at, Nat.reduceEqDiff, Int.reduceEq, Int.reduceNeg, and_true, true_and, and_false, false_and, and_self, reduceIte, Nat.add_left_cancel_iff, Nat.add_eq_left, Nat.left_eq_add, Nat.reduceAdd, Int.add_left_inj, Int.add_right_inj, e8]); rfl) ?_
  refine ks_calls_2 rfl (Nat.le_of_ble_eq_true rfl) ?_
  -- at 12: call Math_floorMod st []
  refine r_floorMod h0 h1 w1.1 w1.2 ?_
  show kx_wx _ _ _ _ _ (_ :: _) _ _
  refine ks_goto rfl ?_
  refine ks_ireturn rfl ?_
  -- at 19: ret  st [None]
  exact t
theorem r_handTo {h : Int} (hK : kg_T L a) (t : Q none (kg L) (kx_up (kx_up μ a 11 h) a 12 0)) : kx_cx (ke (d + 1)) 60 [kR a, kI h] (kg L) μ Q := by
  refine ke_start (tb := kt_Town_handTo) (ls := [some (kR a), some (kI h)]) rfl rfl ?_
  obtain ⟨g0, g1, g2, g3, g4, g5, g6, g7, g8, g9, g10, g11, g12, g13, g14, g15, g16⟩ := hK
  refine ks_aload_n rfl rfl ?_
  refine ks_iload_n rfl rfl ?_
  refine ks_puti rfl (by assumption) ?_
  refine ks_aload_n rfl rfl ?_
  refine ks_iconst rfl ?_
  refine ks_puti rfl (by assumption) ?_
  refine ks_return rfl ?_
  -- at 10: ret  st []
  exact t
theorem r_workOn {f : Int} (hB : B ≤ 100000) (hK : kg_T L a) (hT : TRx μ a s (s 3 + 1)) (hw : tw_W B s) (hf : 0 ≤ f ∧ f < s 2) (hz : s (38 + f) = 0) (t : ∀ μ', TRx μ' a (tw_work s (s 4) f) (s 3 + 1) → Fr a μ μ' → Q none (kg L) μ') : kx_cx (ke (d + 1)) 64 [kR a, kI f] (kg L) μ Q := by
  refine ke_start (tb := kt_Town_workOn) (ls := [some (kR a), some (kI f)]) rfl rfl ?_
  obtain ⟨g0, g1, g2, g3, g4, g5, g6, g7, g8, g9, g10, g11, g12, g13, g14, g15, g16⟩ := hK
  obtain ⟨e8, e9, e10, e11, e12, e13, eh, eo⟩ := hT
  obtain ⟨w1, w2, w3, w4, w5, w6, w7, w8⟩ := hw
  have q7 := w7 (s 4) w3.1 w3.2
  have q8 := w8 f hf.1 hf.2
  obtain ⟨ek, ep, el, ew⟩ := eh (s 4) w3.1 w3.2
  obtain ⟨on, ol, os, od⟩ := eo f hf.1 hf.2
  have f0 : ¬ f < 0 := by omega
  have lo : ∀ j : Int, j < 24 ∨ 30 ≤ j ∧ j < 34 → tw_work s (s 4) f j = s j := fun j hj => tw_work_lo (by omega) (by omega) hj
  refine ks_aload_n rfl rfl ?_
  refine ks_getr (b := a + 6) rfl rfl (by assumption) (by assumption) (Nat.succ_ne_zero _) ?_
  refine ks_iload_n rfl rfl ?_
  refine ks_dup2 rfl ?_
  refine ks_iaload rfl (by assumption) (by omega) (by omega) (by (try simp only [kx_up_at, kx_row_at, up1_at, Nat.reduceEqDiff, Int.reduceEq, Int.reduceNeg, and_true, true_and, and_false, false_and, and_self, reduceIte, Nat.add_left_cancel_iff, Nat.add_eq_left, Nat.left_eq_add, Nat.reduceAdd, Int.add_left_inj, Int.add_right_inj, e11, ol, ew]); rfl) ?_
  refine ks_iconst rfl ?_
  refine ks_isub rfl ?_
  refine ks_iastore rfl (by assumption) (by omega) (by omega) ?_
  refine ks_aload_n rfl rfl ?_
  refine ks_getr (b := a + 4) rfl rfl (by assumption) (by assumption) (Nat.succ_ne_zero _) ?_
  refine ks_aload_n rfl rfl ?_
  refine ks_geti rfl rfl (by assumption) rfl (by (try simp only [kx_up_at, kx_row_at, up1_at, Nat.reduceEqDiff, Int.reduceEq, Int.reduceNeg, and_true, true_and, and_false, false_and, and_self, reduceIte, Nat.add_left_cancel_iff, Nat.add_eq_left, Nat.left_eq_add, Nat.reduceAdd, Int.add_left_inj, Int.add_right_inj, e11, ol, ew]); rfl) ?_
  refine ks_dup2 rfl ?_
  refine ks_iaload rfl (by assumption) (by omega) (by omega) (by (try simp only [kx_up_at, kx_row_at, up1_at, Nat.reduceEqDiff, Int.reduceEq, Int.reduceNeg, and_true, true_and, and_false, false_and, and_self, reduceIte, Nat.add_left_cancel_iff, Nat.add_eq_left, Nat.left_eq_add, Nat.reduceAdd, Int.add_left_inj, Int.add_right_inj, e11, ol, ew]); rfl) ?_
  refine ks_iconst rfl ?_
  refine ks_iadd rfl ?_
  refine ks_iastore rfl (by assumption) (by omega) (by omega) ?_
  refine ks_aload_n rfl rfl ?_
  refine ks_getr (b := a + 6) rfl rfl (by assumption) (by assumption) (Nat.succ_ne_zero _) ?_
  refine ks_iload_n rfl rfl ?_
  refine ks_iaload rfl (by assumption) (by omega) (by omega) (by (try simp only [kx_up_at, kx_row_at, up1_at, Nat.reduceEqDiff, Int.reduceEq, Int.reduceNeg, and_true, true_and, and_false, false_and, and_self, reduceIte, Nat.add_left_cancel_iff, Nat.add_eq_left, Nat.left_eq_add, Nat.reduceAdd, Int.add_left_inj, Int.add_right_inj, e11, ol, ew]); rfl) ?_
  -- at 29: if ne -> 49 else 32 st [None]
  refine ks_if_ne rfl ⟨by omega, by omega⟩ (fun h1 => ?_) (fun h1 => ?_)
  · refine ks_aload_n rfl rfl ?_
    refine ks_getr (b := a + 7) rfl rfl (by assumption) (by assumption) (Nat.succ_ne_zero _) ?_
    refine ks_iload_n rfl rfl ?_
    refine ks_iconst rfl ?_
    refine ks_iastore rfl (by assumption) (by omega) (by omega) ?_
    refine ks_aload_n rfl rfl ?_
    refine ks_getr (b := a + 8) rfl rfl (by assumption) (by assumption) (Nat.succ_ne_zero _) ?_
    refine ks_iload_n rfl rfl ?_
    refine ks_aload_n rfl rfl ?_
    refine ks_geti rfl rfl (by assumption) rfl (by (try simp only [kx_up_at, kx_row_at, up1_at, Nat.reduceEqDiff, Int.reduceEq, Int.reduceNeg, and_true, true_and, and_false, false_and, and_self, reduceIte, Nat.add_left_cancel_iff, Nat.add_eq_left, Nat.left_eq_add, Nat.reduceAdd, Int.add_left_inj, Int.add_right_inj, e13]); rfl) ?_
    refine ks_iastore rfl (by assumption) (by omega) (by omega) ?_
    refine ks_return rfl ?_
    -- at 49: ret  st []
    refine t _ ?_ ?_
    · refine ⟨?_, ?_, ?_, ?_, ?_, ?_, ?_, ?_⟩
      · rw [lo 1 (by omega)]; simp [kx_up_at]; exact e8
      · rw [lo 2 (by omega)]; simp [kx_up_at]; exact e9
      · rw [lo 0 (by omega)]; simp [kx_up_at]; exact e10
      · rw [lo 4 (by omega)]; simp [kx_up_at]; exact e11
      · rw [lo 5 (by omega)]; simp [kx_up_at]; exact e12
      · simp [kx_up_at]; exact e13
      · intro i i0 i1
        rw [lo 1 (by omega)] at i1
        obtain ⟨b1, b2, b3, b4⟩ := eh i i0 i1
        rw [lo (6 + i) (by omega), lo (12 + i) (by omega), lo (18 + i) (by omega)]
        refine ⟨by simp [kx_up_at]; exact b1, by simp [kx_up_at]; exact b2, by simp [kx_up_at]; exact b3, ?_⟩
        unfold tw_work
        rw [if_neg f0, if_pos h1]
        have m1 : ¬ (24 + i = 42 + f) := by omega
        have m2 : ¬ (24 + i = 38 + f) := by omega
        have m3 : ¬ (24 + i = 34 + f) := by omega
        have m4 : (24 + i = 24 + s 4) = (i = s 4) := by simp only [eq_iff_iff]; omega
        simp only [kx_up_at, up1_at, Nat.add_left_cancel_iff, Nat.reduceEqDiff, false_and, true_and, and_false, and_true, if_false, if_true, m1, m2, m3, m4]
        by_cases e : i = s 4
        · rw [if_pos e, if_pos e]
        · rw [if_neg e, if_neg e]; exact b4
      · intro k k0 k1
        rw [lo 2 (by omega)] at k1
        obtain ⟨b1, b2, b3, b4⟩ := eo k k0 k1
        rw [lo (30 + k) (by omega)]
        refine ⟨by simp [kx_up_at]; exact b1, ?_⟩
        unfold tw_work
        rw [if_neg f0, if_pos h1]
        have m2 : ¬ (34 + k = 42 + f) := by omega
        have m3 : ¬ (34 + k = 38 + f) := by omega
        have m4 : ¬ (34 + k = 24 + s 4) := by omega
        have m5 : ¬ (38 + k = 42 + f) := by omega
        have m6 : ¬ (38 + k = 24 + s 4) := by omega
        have m7 : ¬ (38 + k = 34 + f) := by omega
        have m8 : ¬ (42 + k = 38 + f) := by omega
        have m9 : ¬ (42 + k = 24 + s 4) := by omega
        have m10 : ¬ (42 + k = 34 + f) := by omega
        have c1 : (34 + k = 34 + f) = (k = f) := by simp only [eq_iff_iff]; omega
        have c2 : (38 + k = 38 + f) = (k = f) := by simp only [eq_iff_iff]; omega
        have c3 : (42 + k = 42 + f) = (k = f) := by simp only [eq_iff_iff]; omega
        simp only [kx_up_at, up1_at, Nat.add_left_cancel_iff, Nat.reduceEqDiff, false_and, true_and, and_false, and_true, if_false, if_true, m2, m3, m4, m5, m6, m7, m8, m9, m10, c1, c2, c3]
        by_cases e : k = f
        · subst e
          simp_all
        · simp only [if_neg e]
          exact ⟨b2, b3, b4⟩
    · exact Fr_up (Fr_up (Fr_up (Fr_up (Fr_rf a μ) (by omega)) (by omega)) (by omega)) (by omega)
  · refine ks_return rfl ?_
    -- at 49: ret  st []
    refine t _ ?_ ?_
    · refine ⟨?_, ?_, ?_, ?_, ?_, ?_, ?_, ?_⟩
      · rw [lo 1 (by omega)]; simp [kx_up_at]; exact e8
      · rw [lo 2 (by omega)]; simp [kx_up_at]; exact e9
      · rw [lo 0 (by omega)]; simp [kx_up_at]; exact e10
      · rw [lo 4 (by omega)]; simp [kx_up_at]; exact e11
      · rw [lo 5 (by omega)]; simp [kx_up_at]; exact e12
      · simp [kx_up_at]; exact e13
      · intro i i0 i1
        rw [lo 1 (by omega)] at i1
        obtain ⟨b1, b2, b3, b4⟩ := eh i i0 i1
        rw [lo (6 + i) (by omega), lo (12 + i) (by omega), lo (18 + i) (by omega)]
        refine ⟨by simp [kx_up_at]; exact b1, by simp [kx_up_at]; exact b2, by simp [kx_up_at]; exact b3, ?_⟩
        unfold tw_work
        rw [if_neg f0, if_neg h1]
        have m1 : ¬ (24 + i = 42 + f) := by omega
        have m2 : ¬ (24 + i = 38 + f) := by omega
        have m3 : ¬ (24 + i = 34 + f) := by omega
        have m4 : (24 + i = 24 + s 4) = (i = s 4) := by simp only [eq_iff_iff]; omega
        simp only [kx_up_at, up1_at, Nat.add_left_cancel_iff, Nat.reduceEqDiff, false_and, true_and, and_false, and_true, if_false, if_true, m1, m2, m3, m4]
        by_cases e : i = s 4
        · rw [if_pos e, if_pos e]
        · rw [if_neg e, if_neg e]; exact b4
      · intro k k0 k1
        rw [lo 2 (by omega)] at k1
        obtain ⟨b1, b2, b3, b4⟩ := eo k k0 k1
        rw [lo (30 + k) (by omega)]
        refine ⟨by simp [kx_up_at]; exact b1, ?_⟩
        unfold tw_work
        rw [if_neg f0, if_neg h1]
        have m2 : ¬ (34 + k = 42 + f) := by omega
        have m3 : ¬ (34 + k = 38 + f) := by omega
        have m4 : ¬ (34 + k = 24 + s 4) := by omega
        have m5 : ¬ (38 + k = 42 + f) := by omega
        have m6 : ¬ (38 + k = 24 + s 4) := by omega
        have m7 : ¬ (38 + k = 34 + f) := by omega
        have m8 : ¬ (42 + k = 38 + f) := by omega
        have m9 : ¬ (42 + k = 24 + s 4) := by omega
        have m10 : ¬ (42 + k = 34 + f) := by omega
        have c1 : (34 + k = 34 + f) = (k = f) := by simp only [eq_iff_iff]; omega
        have c2 : (38 + k = 38 + f) = (k = f) := by simp only [eq_iff_iff]; omega
        have c3 : (42 + k = 42 + f) = (k = f) := by simp only [eq_iff_iff]; omega
        simp only [kx_up_at, up1_at, Nat.add_left_cancel_iff, Nat.reduceEqDiff, false_and, true_and, and_false, and_true, if_false, if_true, m2, m3, m4, m5, m6, m7, m8, m9, m10, c1, c2, c3]
        by_cases e : k = f
        · subst e
          simp_all
        · simp only [if_neg e]
          exact ⟨b2, b3, b4⟩
    · exact Fr_up (Fr_up (Fr_rf a μ) (by omega)) (by omega)
end CU
end
section
/-! a step of the class's town is a step of the reference's -/
theorem up1_ne {f : Int → Int} {i v j : Int} (h : j ≠ i) : up1 f i v j = f j := by rw [up1_at, if_neg h]
theorem TRx_13 {μ : kx_M} {a : Nat} {s : Int → Int} {z v : Int} (h : TRx μ a s z) : TRx (kx_up μ a 13 v) a s v := by
  obtain ⟨e8, e9, e10, e11, e12, e13, eh, eo⟩ := h
  refine ⟨by simp [kx_up_at]; exact e8, by simp [kx_up_at]; exact e9, by simp [kx_up_at]; exact e10, by simp [kx_up_at]; exact e11, by simp [kx_up_at]; exact e12, by simp [kx_up_at], fun i i0 i1 => ?_, fun k k0 k1 => ?_⟩
  · have := eh i i0 i1
    simpa [kx_up_at] using this
  · have := eo k k0 k1
    rw [kx_up_row (by omega), kx_up_row (by omega), kx_up_row (by omega), kx_up_row (by omega)]; exact this
theorem TRx_12 {μ : kx_M} {a : Nat} {s : Int → Int} {z v : Int} (h : TRx μ a s z) (h1 : s 1 ≤ 6) : TRx (kx_up μ a 12 v) a (up1 s 5 v) z := by
  obtain ⟨e8, e9, e10, e11, e12, e13, eh, eo⟩ := h
  refine ⟨by simp [kx_up_at, up1_at]; exact e8, by simp [kx_up_at, up1_at]; exact e9, by simp [kx_up_at, up1_at]; exact e10, by simp [kx_up_at, up1_at]; exact e11, by simp [kx_up_at, up1_at], by simp [kx_up_at]; exact e13, fun i i0 i1 => ?_, fun k k0 k1 => ?_⟩
  · have := eh i i0 i1
    rw [kx_up_row (by omega), kx_up_row (by omega), kx_up_row (by omega), kx_up_row (by omega)]
    rw [up1_ne (by omega), up1_ne (by omega), up1_ne (by omega), up1_ne (by omega)]; exact this
  · have := eo k k0 k1
    rw [kx_up_row (by omega), kx_up_row (by omega), kx_up_row (by omega), kx_up_row (by omega)]
    rw [up1_ne (by omega), up1_ne (by omega), up1_ne (by omega), up1_ne (by omega)]; exact this
theorem TRx_11 {μ : kx_M} {a : Nat} {s : Int → Int} {z v : Int} (h : TRx μ a s z) : TRx (kx_up μ a 11 v) a (up1 s 4 v) z := by
  obtain ⟨e8, e9, e10, e11, e12, e13, eh, eo⟩ := h
  refine ⟨by simp [kx_up_at, up1_at]; exact e8, by simp [kx_up_at, up1_at]; exact e9, by simp [kx_up_at, up1_at]; exact e10, by simp [kx_up_at, up1_at], by simp [kx_up_at, up1_at]; exact e12, by simp [kx_up_at]; exact e13, fun i i0 i1 => ?_, fun k k0 k1 => ?_⟩
  · have := eh i i0 i1
    rw [kx_up_row (by omega), kx_up_row (by omega), kx_up_row (by omega), kx_up_row (by omega)]
    rw [up1_ne (by omega), up1_ne (by omega), up1_ne (by omega), up1_ne (by omega)]; exact this
  · have := eo k k0 k1
    rw [kx_up_row (by omega), kx_up_row (by omega), kx_up_row (by omega), kx_up_row (by omega)]
    rw [up1_ne (by omega), up1_ne (by omega), up1_ne (by omega), up1_ne (by omega)]; exact this
theorem TRx_10 {μ : kx_M} {a : Nat} {s : Int → Int} {z v : Int} (h : TRx μ a s z) : TRx (kx_up μ a 10 v) a (up1 s 0 v) z := by
  obtain ⟨e8, e9, e10, e11, e12, e13, eh, eo⟩ := h
  refine ⟨by simp [kx_up_at, up1_at]; exact e8, by simp [kx_up_at, up1_at]; exact e9, by simp [kx_up_at, up1_at], by simp [kx_up_at, up1_at]; exact e11, by simp [kx_up_at, up1_at]; exact e12, by simp [kx_up_at]; exact e13, fun i i0 i1 => ?_, fun k k0 k1 => ?_⟩
  · have := eh i i0 i1
    rw [kx_up_row (by omega), kx_up_row (by omega), kx_up_row (by omega), kx_up_row (by omega)]
    rw [up1_ne (by omega), up1_ne (by omega), up1_ne (by omega), up1_ne (by omega)]; exact this
  · have := eo k k0 k1
    rw [kx_up_row (by omega), kx_up_row (by omega), kx_up_row (by omega), kx_up_row (by omega)]
    rw [up1_ne (by omega), up1_ne (by omega), up1_ne (by omega), up1_ne (by omega)]; exact this
/-- the step's number is not seen -/
theorem TRx_s3 {μ : kx_M} {a : Nat} {s : Int → Int} {z v : Int} (h : TRx μ a s z) : TRx μ a (up1 s 3 v) z := by
  obtain ⟨e8, e9, e10, e11, e12, e13, eh, eo⟩ := h
  refine ⟨e8, e9, e10, e11, e12, e13, fun i i0 i1 => ?_, fun k k0 k1 => ?_⟩
  · have := eh i i0 i1
    rw [up1_ne (by omega), up1_ne (by omega), up1_ne (by omega), up1_ne (by omega)]; exact this
  · have := eo k k0 k1
    rw [up1_ne (by omega), up1_ne (by omega), up1_ne (by omega), up1_ne (by omega)]; exact this
section CV
variable {d L : Nat} {G : kx_G} {μ : kx_M} {Q : Option kx_V → kx_G → kx_M → Prop} {a : Nat} {s : Int → Int} {B z : Int}
theorem r_takeStep (hB : B ≤ 100000) (hK : kg_T L a) (hT : TR μ a s) (hw : tw_W B s) (t : ∀ μ', TR μ' a (tw_step s) → Fr a μ μ' → Q (some (kI (tw_found s (s 4)))) (kg L) μ') : kx_cx (ke (d + 3)) 61 [kR a] (kg L) μ Q := by
  refine ke_start (tb := kt_Town_takeStep) (ls := [some (kR a), none]) rfl rfl ?_
  have hK0 := hK
  have hw0 := hw
  obtain ⟨g0, g1, g2, g3, g4, g5, g6, g7, g8, g9, g10, g11, g12, g13, g14, g15, g16⟩ := hK
  have e13 : μ a 13 = s 3 := hT.2.2.2.2.2.1
  obtain ⟨w1, w2, w3, w4, w5, w6, w7, w8⟩ := hw
  have hfi := tw_found_in s (s 4)
  refine ks_aload_n rfl rfl ?_
  refine ks_dupR rfl ?_
  refine ks_geti rfl rfl (by assumption) rfl (by (try simp only [kx_up_at, kx_row_at, up1_at, Nat.reduceEqDiff, Int.reduceEq, Int.reduceNeg, and_true, true_and, and_false, false_and, and_self, reduceIte, Nat.add_left_cancel_iff, Nat.add_eq_left, Nat.left_eq_add, Nat.reduceAdd, Int.add_left_inj, Int.add_right_inj, e13]); rfl) ?_
  refine ks_iconst rfl ?_
  refine ks_iadd rfl ?_
  refine ks_puti rfl (by assumption) ?_
  refine ks_aload_n rfl rfl ?_
  refine ks_callv_1 rfl rfl (by assumption) (Nat.le_of_ble_eq_true rfl) ?_
  -- at 11: call Town_orderToWorkOn st []
  have hT1 : TRx (kx_up μ a 13 (s 3 + 1)) a s (s 3 + 1) := TRx_13 hT
  have F1 : Fr a μ (kx_up μ a 13 (s 3 + 1)) := Fr_up (Fr_rf a μ) (by omega)
  generalize kx_up μ a 13 (s 3 + 1) = μ1 at *
  refine r_orderToWorkOn hK0 hT1 hw0 ?_
  show kx_wx _ _ _ _ _ (_ :: _) _ _
  have key : ∀ μ2, TRx μ2 a (tw_work s (s 4) (tw_found s (s 4))) (s 3 + 1) → Fr a μ μ2 → kx_wx (ke (d + 2)) kt_Town_takeStep Q 25 [some (kR a), some (kI (tw_found s (s 4)))] [] (kg L) μ2 := by
    intro μ2 T2 F2
    unfold tw_step at t
    have hlo : ∀ j : Int, j < 24 ∨ 30 ≤ j ∧ j < 34 → tw_work s (s 4) (tw_found s (s 4)) j = s j := fun j hj => tw_work_lo (by omega) (by omega) hj
    have hho : ∀ k : Int, 0 ≤ k → k < s 2 → 0 ≤ tw_work s (s 4) (tw_found s (s 4)) (38 + k) ∧ tw_work s (s 4) (tw_found s (s 4)) (38 + k) ≤ 2 := fun k a b => tw_work_how hw0 w3 (by omega) a b
    generalize tw_work s (s 4) (tw_found s (s 4)) = s1 at *
    have e12 : μ2 a 12 = s 5 := by rw [← hlo 5 (by omega)]; exact T2.2.2.2.2.1
    have T3 : TRx (kx_up μ2 a 12 (s 5 + 1)) a (tw_tick s1) (s 3 + 1) := by
      have := TRx_s3 (v := s1 3 + 1) (TRx_12 (v := s1 5 + 1) T2 (by rw [hlo 1 (by omega)]; omega))
      rw [hlo 5 (by omega)] at this
      unfold tw_tick
      rw [hlo 5 (by omega)]
      exact this
    have a3 : tw_tick s1 3 = s 3 + 1 := by rw [← hlo 3 (by omega)]; rfl
    have a5 : tw_tick s1 5 = s 5 + 1 := by rw [← hlo 5 (by omega)]; rfl
    have ao : ∀ j : Int, j ≠ 5 ∧ j ≠ 3 → tw_tick s1 j = s1 j := fun j hj => tw_tick_at hj
    have a4 : tw_tick s1 4 = s 4 := by rw [ao 4 (by omega), hlo 4 (by omega)]
    have a1 : tw_tick s1 1 = s 1 := by rw [ao 1 (by omega), hlo 1 (by omega)]
    have U : tw_U (tw_tick s1) := by
      refine ⟨?_, ?_, ?_, ?_, ?_, ?_⟩
      · omega
      · rw [ao 2 (by omega), hlo 2 (by omega)]; exact w2
      · rw [a4, a1]; exact w3
      · rw [ao 0 (by omega), hlo 0 (by omega)]; exact w4
      · intro i i0 i1
        rw [a1] at i1
        have := w7 i i0 i1
        rw [ao (6 + i) (by omega), hlo (6 + i) (by omega), ao (12 + i) (by omega), hlo (12 + i) (by omega)]
        omega
      · intro k k0 k1
        rw [ao 2 (by omega), hlo 2 (by omega)] at k1
        rw [ao (38 + k) (by omega)]
        exact hho k k0 k1
    have F3 : Fr a μ (kx_up μ2 a 12 (s 5 + 1)) := Fr_up F2 (by omega)
    refine ks_aload_n rfl rfl ?_
    refine ks_dupR rfl ?_
    refine ks_geti rfl rfl (by assumption) rfl (by (try simp only [kx_up_at, kx_row_at, up1_at, Nat.reduceEqDiff, Int.reduceEq, Int.reduceNeg, and_true, true_and, and_false, false_and, and_self, reduceIte, Nat.add_left_cancel_iff, Nat.add_eq_left, Nat.left_eq_add, Nat.reduceAdd, Int.add_left_inj, Int.add_right_inj, e12]); rfl) ?_
    refine ks_iconst rfl ?_
    refine ks_iadd rfl ?_
    refine ks_puti rfl (by assumption) ?_
    refine ks_aload_n rfl rfl ?_
    refine ks_geti rfl rfl (by assumption) rfl (by (try simp only [kx_up_at, kx_row_at, up1_at, Nat.reduceEqDiff, Int.reduceEq, Int.reduceNeg, and_true, true_and, and_false, false_and, and_self, reduceIte, Nat.add_left_cancel_iff, Nat.add_eq_left, Nat.left_eq_add, Nat.reduceAdd, Int.add_left_inj, Int.add_right_inj, e12]); rfl) ?_
    refine ks_aload_n rfl rfl ?_
    refine ks_callv_1 rfl rfl (by assumption) (Nat.le_of_ble_eq_true rfl) ?_
    -- at 40: call Town_patience st [None]
    generalize tw_tick s1 = s2 at *
    generalize kx_up μ2 a 12 (s 5 + 1) = μ3 at *
    have ou := tw_oc_in s2 (s2 2).toNat
    have ou' : tw_oc s2 (s2 2).toNat = tw_out s2 := rfl
    refine r_patience hK0 T3 U ?_
    show kx_wx _ _ _ _ _ (_ :: _) _ _
    have e11 : μ3 a 11 = s 4 := by rw [T3.2.2.2.1, a4]
    have q7 := U.2.2.2.2.1 (s 4) w3.1 (by omega)
    unfold tw_goes at t
    rw [a4]
    have hpb : 0 ≤ s2 (12 + s 4) + (if s2 (6 + s 4) = 3 then tw_out s2 else 0) ∧ s2 (12 + s 4) + (if s2 (6 + s 4) = 3 then tw_out s2 else 0) ≤ 100 := by
      have := U.2.1
      split <;> omega
    generalize hp : s2 (12 + s 4) + (if s2 (6 + s 4) = 3 then tw_out s2 else 0) = pz at *
    refine ks_icmp_lt rfl ⟨by omega, by omega⟩ ⟨by omega, by omega⟩ (fun c1 => ?_) (fun c1 => ?_)
    · refine ks_iload_n rfl rfl ?_
      refine ks_ireturn rfl ?_
      -- at 64: ret  st [None]
      rw [a5, if_pos c1] at t
      refine t _ ?_ F3
      unfold TR
      rw [a3]
      exact T3
    · rw [a5, if_neg c1] at t
      refine ks_aload_n rfl rfl ?_
      refine ks_aload_n rfl rfl ?_
      refine ks_aload_n rfl rfl ?_
      refine ks_geti rfl rfl (by assumption) rfl (by (try simp only [kx_up_at, kx_row_at, up1_at, Nat.reduceEqDiff, Int.reduceEq, Int.reduceNeg, and_true, true_and, and_false, false_and, and_self, reduceIte, Nat.add_left_cancel_iff, Nat.add_eq_left, Nat.left_eq_add, Nat.reduceAdd, Int.add_left_inj, Int.add_right_inj, e11]); rfl) ?_
      refine ks_aload_n rfl rfl ?_
      refine ks_callv_1 rfl rfl (by assumption) (Nat.le_of_ble_eq_true rfl) ?_
      -- at 53: call Town_stride st [None, 'a', 'a']
      refine r_stride hK0 T3 U ?_
      intro v v0 v1 vv
      show kx_wx _ _ _ _ _ (_ :: _) _ _
      rw [a4] at vv
      refine ks_iadd rfl ?_
      refine ks_callv_2 rfl rfl (by assumption) (Nat.le_of_ble_eq_true rfl) ?_
      -- at 57: call Town_seat st ['a']
      refine r_seat (s := s2) (by omega) (by omega) hK0 T3.1 U.1 ?_
      show kx_wx _ _ _ _ _ (_ :: _) _ _
      rw [vv]
      refine ks_callv_2 rfl rfl (by assumption) (Nat.le_of_ble_eq_true rfl) ?_
      -- at 60: call Town_handTo st []
      refine r_handTo hK0 ?_
      show kx_wx _ _ _ _ _ _ _ _
      refine ks_iload_n rfl rfl ?_
      refine ks_ireturn rfl ?_
      -- at 64: ret  st [None]
      refine t _ ?_ (Fr_up (Fr_up F3 (by omega)) (by omega))
      unfold TR
      have := TRx_12 (v := 0) (TRx_11 (v := tw_on s2 (s 4)) T3) (by rw [up1_ne (by omega)]; omega)
      rw [up1_ne (by omega), up1_ne (by omega), a3]
      exact this
  refine ks_istore_n_1 rfl rfl ?_
  refine ks_iload_n rfl rfl ?_
  refine ks_iconst rfl ?_
  -- at 17: if eq -> 25 else 20 st ['-1', None]
  refine ks_icmp_eq rfl ⟨by omega, by omega⟩ ⟨by omega, by omega⟩ (fun c1 => ?_) (fun c1 => ?_)
  · refine key _ ?_ F1
    unfold tw_work
    rw [if_pos (by omega)]
    exact hT1
  · obtain ⟨f0, f1, f2⟩ := hfi.resolve_left c1
    refine ks_aload_n rfl rfl ?_
    refine ks_iload_n rfl rfl ?_
    refine ks_callv_2 rfl rfl (by assumption) (Nat.le_of_ble_eq_true rfl) ?_
    -- at 22: call Town_workOn st []
    refine r_workOn hB hK0 hT1 hw0 ⟨f0, f1⟩ f2.1 (fun μ2 T2 F2 => ?_)
    show kx_wx _ _ _ _ _ _ _ _
    exact key μ2 T2 (Fr_tr F1 F2)
end CV
end
section
/-! more of the class's town -/
theorem tw_W_step {B : Int} {s : Int → Int} (h : tw_W B s) : tw_W (B + 1) (tw_step s) := by
  have hw0 := h
  obtain ⟨w1, w2, w3, w4, w5, w6, w7, w8⟩ := h
  have hfi := tw_found_in s (s 4)
  have q7 := w7 (s 4) w3.1 w3.2
  unfold tw_step
  have hlo : ∀ j : Int, j < 24 ∨ 30 ≤ j ∧ j < 34 → tw_work s (s 4) (tw_found s (s 4)) j = s j := fun j hj => tw_work_lo (by omega) (by omega) hj
  have hwk : ∀ i : Int, 0 ≤ i → i < s 1 → 0 ≤ tw_work s (s 4) (tw_found s (s 4)) (24 + i) ∧ tw_work s (s 4) (tw_found s (s 4)) (24 + i) ≤ s 3 + 1 := by
    intro i i0 i1
    have q := w7 i i0 i1
    unfold tw_work
    split
    · omega
    · split
      · rw [up1_ne (by omega), up1_ne (by omega), up1_at]
        split
        · omega
        · rw [up1_ne (by omega)]; omega
      · rw [up1_at]
        split
        · omega
        · rw [up1_ne (by omega)]; omega
  have hod : ∀ k : Int, 0 ≤ k → k < s 2 → (0 ≤ tw_work s (s 4) (tw_found s (s 4)) (34 + k) ∧ tw_work s (s 4) (tw_found s (s 4)) (34 + k) ≤ 40) ∧ (0 ≤ tw_work s (s 4) (tw_found s (s 4)) (38 + k) ∧ tw_work s (s 4) (tw_found s (s 4)) (38 + k) ≤ 2) ∧ (tw_work s (s 4) (tw_found s (s 4)) (38 + k) = 0 → 1 ≤ tw_work s (s 4) (tw_found s (s 4)) (34 + k)) ∧ (tw_work s (s 4) (tw_found s (s 4)) (38 + k) = 1 → 1 ≤ tw_work s (s 4) (tw_found s (s 4)) (42 + k) ∧ tw_work s (s 4) (tw_found s (s 4)) (42 + k) ≤ s 3 + 1) := by
    intro k k0 k1
    have q := w8 k k0 k1
    generalize tw_found s (s 4) = f at *
    by_cases f0 : f < 0
    · unfold tw_work
      rw [if_pos f0]; omega
    · obtain ⟨f1, f2, f3⟩ := hfi.resolve_left (by omega)
      have f4 := f3.1
      have f5 := (w8 f f1 f2)
      by_cases e : k = f
      · subst e
        unfold tw_work
        rw [if_neg f0]
        by_cases z : s (34 + k) - 1 = 0
        · rw [if_pos z]
          simp only [up1_at]
          have m1 : ¬ (34 + k = 42 + k) := by omega
          have m2 : ¬ (34 + k = 38 + k) := by omega
          have m3 : ¬ (34 + k = 24 + s 4) := by omega
          have m4 : ¬ (38 + k = 42 + k) := by omega
          simp only [m1, m2, m3, m4, if_false, if_true]
          omega
        · rw [if_neg z]
          simp only [up1_at]
          have m3 : ¬ (34 + k = 24 + s 4) := by omega
          have m4 : ¬ (38 + k = 24 + s 4) := by omega
          have m5 : ¬ (38 + k = 34 + k) := by omega
          have m6 : ¬ (42 + k = 24 + s 4) := by omega
          have m7 : ¬ (42 + k = 34 + k) := by omega
          simp only [m3, m4, m5, m6, m7, if_false, if_true]
          omega
      · have same : ∀ j : Int, (j = 34 + k ∨ j = 38 + k ∨ j = 42 + k) → tw_work s (s 4) f j = s j := by
          intro j hj
          unfold tw_work
          rw [if_neg f0]
          split
          · rw [up1_ne (by omega), up1_ne (by omega), up1_ne (by omega), up1_ne (by omega)]
          · rw [up1_ne (by omega), up1_ne (by omega)]
        rw [same (34 + k) (by omega), same (38 + k) (by omega), same (42 + k) (by omega)]
        omega
  generalize tw_work s (s 4) (tw_found s (s 4)) = s1 at *
  have a3 : tw_tick s1 3 = s 3 + 1 := by rw [← hlo 3 (by omega)]; rfl
  have a5 : tw_tick s1 5 = s 5 + 1 := by rw [← hlo 5 (by omega)]; rfl
  have ao : ∀ j : Int, j ≠ 5 ∧ j ≠ 3 → tw_tick s1 j = s1 j := fun j hj => tw_tick_at hj
  have a4 : tw_tick s1 4 = s 4 := by rw [ao 4 (by omega), hlo 4 (by omega)]
  have a1 : tw_tick s1 1 = s 1 := by rw [ao 1 (by omega), hlo 1 (by omega)]
  have a2 : tw_tick s1 2 = s 2 := by rw [ao 2 (by omega), hlo 2 (by omega)]
  have a0 : tw_tick s1 0 = s 0 := by rw [ao 0 (by omega), hlo 0 (by omega)]
  have b7 : ∀ i, 0 ≤ i → i < s 1 → (1 ≤ tw_tick s1 (6 + i) ∧ tw_tick s1 (6 + i) ≤ 5) ∧ (1 ≤ tw_tick s1 (12 + i) ∧ tw_tick s1 (12 + i) ≤ 9) ∧ (0 ≤ tw_tick s1 (18 + i) ∧ tw_tick s1 (18 + i) ≤ 15) ∧ (0 ≤ tw_tick s1 (24 + i) ∧ tw_tick s1 (24 + i) ≤ s 3 + 1) := by
    intro i i0 i1
    rw [ao (6 + i) (by omega), ao (12 + i) (by omega), ao (18 + i) (by omega), ao (24 + i) (by omega), hlo (6 + i) (by omega), hlo (12 + i) (by omega), hlo (18 + i) (by omega)]
    have := w7 i i0 i1
    exact ⟨this.1, this.2.1, this.2.2.1, hwk i i0 i1⟩
  have b8 : ∀ k, 0 ≤ k → k < s 2 → (1 ≤ tw_tick s1 (30 + k) ∧ tw_tick s1 (30 + k) ≤ 40) ∧ (0 ≤ tw_tick s1 (34 + k) ∧ tw_tick s1 (34 + k) ≤ 40) ∧ (0 ≤ tw_tick s1 (38 + k) ∧ tw_tick s1 (38 + k) ≤ 2) ∧ (tw_tick s1 (38 + k) = 0 → 1 ≤ tw_tick s1 (34 + k)) ∧ (tw_tick s1 (38 + k) = 1 → 1 ≤ tw_tick s1 (42 + k) ∧ tw_tick s1 (42 + k) ≤ s 3 + 1) := by
    intro k k0 k1
    rw [ao (30 + k) (by omega), ao (34 + k) (by omega), ao (38 + k) (by omega), ao (42 + k) (by omega), hlo (30 + k) (by omega)]
    exact ⟨(w8 k k0 k1).1, hod k k0 k1⟩
  clear hlo hwk hod
  generalize tw_tick s1 = s2 at *
  have ou := tw_oc_in s2 (s2 2).toNat
  have ou' : tw_oc s2 (s2 2).toNat = tw_out s2 := rfl
  have b74 := b7 (s 4) w3.1 w3.2
  unfold tw_goes
  have hx : (if s2 (6 + s 4) = 3 then tw_out s2 else 0) ≤ 4 := by split <;> omega
  by_cases hc : s2 5 < s2 (12 + s 4) + (if s2 (6 + s 4) = 3 then tw_out s2 else 0)
  · rw [if_pos hc]
    have hc2 : s2 5 < 13 := by omega
    refine ⟨by omega, by omega, by omega, by omega, by omega, by omega, ?_, ?_⟩
    · rw [a1, a3]; exact b7
    · rw [a2, a3]; exact b8
  · rw [if_neg hc]
    have on : 0 ≤ tw_on s2 (s 4) ∧ tw_on s2 (s 4) < s 1 := by
      unfold tw_on
      rw [a1]
      have p1 : ∀ x : Int, 0 ≤ x % s 1 ∧ x % s 1 < s 1 := fun x => ⟨Int.emod_nonneg _ (by omega), Int.emod_lt_of_pos _ (by omega)⟩
      split
      · exact p1 _
      · split
        · exact p1 _
        · split
          · exact p1 _
          · exact p1 _
    generalize tw_on s2 (s 4) = o at *
    have n : ∀ j : Int, j ≠ 5 ∧ j ≠ 4 → up1 (up1 s2 4 o) 5 0 j = s2 j := fun j hj => by rw [up1_ne hj.1, up1_ne hj.2]
    have n4 : up1 (up1 s2 4 o) 5 0 4 = o := rfl
    have n5 : up1 (up1 s2 4 o) 5 0 5 = 0 := rfl
    have n0 := n 0 (by omega)
    have n1 := n 1 (by omega)
    have n2 := n 2 (by omega)
    have n3 := n 3 (by omega)
    refine ⟨by omega, by omega, by omega, by omega, by omega, by omega, ?_, ?_⟩
    · rw [n1, n3, a1, a3]
      intro i i0 i1
      rw [n (6 + i) (by omega), n (12 + i) (by omega), n (18 + i) (by omega), n (24 + i) (by omega)]
      exact b7 i i0 i1
    · rw [n2, n3, a2, a3]
      intro k k0 k1
      rw [n (30 + k) (by omega), n (34 + k) (by omega), n (38 + k) (by omega), n (42 + k) (by omega)]
      exact b8 k k0 k1
theorem tw_W_mono {B C : Int} {s : Int → Int} (h : tw_W B s) (hc : B ≤ C) : tw_W C s := by
  obtain ⟨w1, w2, w3, w4, w5, w6, w7, w8⟩ := h
  exact ⟨w1, w2, w3, w4, ⟨w5.1, by omega⟩, w6, w7, w8⟩
theorem tw_W_go {B : Int} {s : Int → Int} (h : tw_W B s) : ∀ n : Nat, tw_W (B + n) (tw_go s n) := by
  intro n
  induction n with
  | zero => simpa [tw_go] using h
  | succ n ih =>
    have := tw_W_step ih
    exact tw_W_mono this (by omega)
theorem kx_up_self (μ : kx_M) (a : Nat) (i v : Int) : kx_up μ a i v a i = v := by rw [kx_up_at, if_pos ⟨rfl, rfl⟩]
theorem kx_up_oth {μ : kx_M} {a : Nat} {i v j : Int} (h : j ≠ i) : kx_up μ a i v a j = μ a j := by rw [kx_up_at, if_neg (fun q => h q.2)]
theorem kx_cpy_ne {μ : kx_M} {s d c : Nat} {sp dp n : Int} (h : c ≠ d) : kx_cpy μ s sp d dp n c = μ c := by
  funext j
  simp [kx_cpy, h]
theorem kx_cpy_in {μ : kx_M} {s d : Nat} {n j : Int} (h0 : 0 ≤ j) (h1 : j < n) : kx_cpy μ s 0 d 0 n d j = μ s j := by
  unfold kx_cpy
  rw [if_pos ⟨rfl, h0, by omega⟩, show (0 : Int) + (j - 0) = j by omega]
theorem up1_self (f : Int → Int) (i v : Int) : up1 f i v i = v := by rw [up1_at, if_pos rfl]
section CW
variable {d L : Nat} {G : kx_G} {μ : kx_M} {Q : Option kx_V → kx_G → kx_M → Prop} {a b : Nat} {s : Int → Int} {B z : Int}
theorem r_becomeLike (hA : kg_T L a) (hK : kg_T L b) (hd : a + 8 < b ∨ b + 8 < a) (hT : TRx μ b s z) (h1 : s 1 ≤ 6) (h2 : s 2 ≤ 4) (t : ∀ μ', TRx μ' a s z → Fr a μ μ' → Q none (kg L) μ') : kx_cx (ke (d + 1)) 54 [kR a, kR b] (kg L) μ Q := by
  refine ke_start (tb := kt_Town_becomeLike) (ls := [some (kR a), some (kR b)]) rfl rfl ?_
  obtain ⟨g0, g1, g2, g3, g4, g5, g6, g7, g8, g9, g10, g11, g12, g13, g14, g15, g16⟩ := hK
  obtain ⟨k0, k1, k2, k3, k4, k5, k6, k7, k8, k9, k10, k11, k12, k13, k14, k15, k16⟩ := hA
  obtain ⟨e8, e9, e10, e11, e12, e13, eh, eo⟩ := hT
  have hba : ¬ (b = a) := by omega
  have fin : ∀ M : kx_M, M b = μ b → (∀ i, 0 ≤ i → i < 6 → M (a + 1) i = μ (b + 1) i ∧ M (a + 2) i = μ (b + 2) i ∧ M (a + 3) i = μ (b + 3) i ∧ M (a + 4) i = μ (b + 4) i) → (∀ k, 0 ≤ k → k < 4 → M (a + 5) k = μ (b + 5) k ∧ M (a + 6) k = μ (b + 6) k ∧ M (a + 7) k = μ (b + 7) k ∧ M (a + 8) k = μ (b + 8) k) → Fr a μ M → kx_wx (ke d) kt_Town_becomeLike Q 116 [some (kR a), some (kR b)] [] (kg L) M := by
    intro M m0 m1 m2 m3
    have f8 : M b 8 = s 1 := by rw [m0]; exact e8
    have f9 : M b 9 = s 2 := by rw [m0]; exact e9
    have f10 : M b 10 = s 0 := by rw [m0]; exact e10
    have f11 : M b 11 = s 4 := by rw [m0]; exact e11
    have f12 : M b 12 = s 5 := by rw [m0]; exact e12
    have f13 : M b 13 = z := by rw [m0]; exact e13
    refine ks_aload_n rfl rfl ?_
    refine ks_aload_n rfl rfl ?_
    refine ks_geti rfl rfl (by assumption) rfl (by (try simp only [kx_up_at, kx_row_at, up1_at, Nat.reduceEqDiff, Int.reduceEq, Int.reduceNeg, and_true, true_and, and_false, false_and, and_self, reduceIte, Nat.add_left_cancel_iff, Nat.add_eq_left, Nat.left_eq_add, Nat.reduceAdd, Int.add_left_inj, Int.add_right_inj, hba, f8, f9, f10, f11, f12, f13]); rfl) ?_
    refine ks_puti rfl (by assumption) ?_
    refine ks_aload_n rfl rfl ?_
    refine ks_aload_n rfl rfl ?_
    refine ks_geti rfl rfl (by assumption) rfl (by (try simp only [kx_up_at, kx_row_at, up1_at, Nat.reduceEqDiff, Int.reduceEq, Int.reduceNeg, and_true, true_and, and_false, false_and, and_self, reduceIte, Nat.add_left_cancel_iff, Nat.add_eq_left, Nat.left_eq_add, Nat.reduceAdd, Int.add_left_inj, Int.add_right_inj, hba, f8, f9, f10, f11, f12, f13]); rfl) ?_
    refine ks_puti rfl (by assumption) ?_
    refine ks_aload_n rfl rfl ?_
    refine ks_aload_n rfl rfl ?_
    refine ks_geti rfl rfl (by assumption) rfl (by (try simp only [kx_up_at, kx_row_at, up1_at, Nat.reduceEqDiff, Int.reduceEq, Int.reduceNeg, and_true, true_and, and_false, false_and, and_self, reduceIte, Nat.add_left_cancel_iff, Nat.add_eq_left, Nat.left_eq_add, Nat.reduceAdd, Int.add_left_inj, Int.add_right_inj, hba, f8, f9, f10, f11, f12, f13]); rfl) ?_
    refine ks_puti rfl (by assumption) ?_
    refine ks_aload_n rfl rfl ?_
    refine ks_aload_n rfl rfl ?_
    refine ks_geti rfl rfl (by assumption) rfl (by (try simp only [kx_up_at, kx_row_at, up1_at, Nat.reduceEqDiff, Int.reduceEq, Int.reduceNeg, and_true, true_and, and_false, false_and, and_self, reduceIte, Nat.add_left_cancel_iff, Nat.add_eq_left, Nat.left_eq_add, Nat.reduceAdd, Int.add_left_inj, Int.add_right_inj, hba, f8, f9, f10, f11, f12, f13]); rfl) ?_
    refine ks_puti rfl (by assumption) ?_
    refine ks_aload_n rfl rfl ?_
    refine ks_aload_n rfl rfl ?_
    refine ks_geti rfl rfl (by assumption) rfl (by (try simp only [kx_up_at, kx_row_at, up1_at, Nat.reduceEqDiff, Int.reduceEq, Int.reduceNeg, and_true, true_and, and_false, false_and, and_self, reduceIte, Nat.add_left_cancel_iff, Nat.add_eq_left, Nat.left_eq_add, Nat.reduceAdd, Int.add_left_inj, Int.add_right_inj, hba, f8, f9, f10, f11, f12, f13]); rfl) ?_
    refine ks_puti rfl (by assumption) ?_
    refine ks_aload_n rfl rfl ?_
    refine ks_aload_n rfl rfl ?_
    refine ks_geti rfl rfl (by assumption) rfl (by (try simp only [kx_up_at, kx_row_at, up1_at, Nat.reduceEqDiff, Int.reduceEq, Int.reduceNeg, and_true, true_and, and_false, false_and, and_self, reduceIte, Nat.add_left_cancel_iff, Nat.add_eq_left, Nat.left_eq_add, Nat.reduceAdd, Int.add_left_inj, Int.add_right_inj, hba, f8, f9, f10, f11, f12, f13]); rfl) ?_
    refine ks_puti rfl (by assumption) ?_
    refine ks_return rfl ?_
    -- at 164: ret  st []
    clear f8 f9 f10 f11 f12 f13 g0 g1 g2 g3 g4 g5 g6 g7 g8 g9 g10 g11 g12 g13 g14 g15 g16 k0 k1 k2 k3 k4 k5 k6 k7 k8 k9 k10 k11 k12 k13 k14 k15 k16
    refine t _ ?_ ?_
    · refine ⟨?_, ?_, ?_, ?_, ?_, ?_, fun i i0 i1 => ?_, fun k k0 k1 => ?_⟩
      · simp (disch := omega) only [kx_up_self, kx_up_oth]
      · simp (disch := omega) only [kx_up_self, kx_up_oth]
      · simp (disch := omega) only [kx_up_self, kx_up_oth]
      · simp (disch := omega) only [kx_up_self, kx_up_oth]
      · simp (disch := omega) only [kx_up_self, kx_up_oth]
      · simp (disch := omega) only [kx_up_self, kx_up_oth]
      · obtain ⟨c1, c2, c3, c4⟩ := m1 i i0 (by omega)
        simp (disch := omega) only [kx_up_row]
        rw [c1, c2, c3, c4]; exact eh i i0 i1
      · obtain ⟨c1, c2, c3, c4⟩ := m2 k k0 (by omega)
        simp (disch := omega) only [kx_up_row]
        rw [c1, c2, c3, c4]; exact eo k k0 k1
    · exact Fr_up (Fr_up (Fr_up (Fr_up (Fr_up (Fr_up m3 (by omega)) (by omega)) (by omega)) (by omega)) (by omega)) (by omega)
  refine ks_aload_n rfl rfl ?_
  refine ks_getr (b := b + 1) rfl rfl (by assumption) (by assumption) (Nat.succ_ne_zero _) ?_
  refine ks_iconst rfl ?_
  refine ks_aload_n rfl rfl ?_
  refine ks_getr (b := a + 1) rfl rfl (by assumption) (by assumption) (Nat.succ_ne_zero _) ?_
  refine ks_iconst rfl ?_
  refine ks_bipush rfl ?_
  refine ks_acopy rfl (Nat.le_refl 91) (by assumption) (by assumption) (by omega) (by omega) (by omega) (by omega) (by omega) (Nat.le_of_ble_eq_true rfl) ?_
  refine ks_aload_n rfl rfl ?_
  refine ks_getr (b := b + 2) rfl rfl (by assumption) (by assumption) (Nat.succ_ne_zero _) ?_
  refine ks_iconst rfl ?_
  refine ks_aload_n rfl rfl ?_
  refine ks_getr (b := a + 2) rfl rfl (by assumption) (by assumption) (Nat.succ_ne_zero _) ?_
  refine ks_iconst rfl ?_
  refine ks_bipush rfl ?_
  refine ks_acopy rfl (Nat.le_refl 91) (by assumption) (by assumption) (by omega) (by omega) (by omega) (by omega) (by omega) (Nat.le_of_ble_eq_true rfl) ?_
  refine ks_aload_n rfl rfl ?_
  refine ks_getr (b := b + 3) rfl rfl (by assumption) (by assumption) (Nat.succ_ne_zero _) ?_
  refine ks_iconst rfl ?_
  refine ks_aload_n rfl rfl ?_
  refine ks_getr (b := a + 3) rfl rfl (by assumption) (by assumption) (Nat.succ_ne_zero _) ?_
  refine ks_iconst rfl ?_
  refine ks_bipush rfl ?_
  refine ks_acopy rfl (Nat.le_refl 91) (by assumption) (by assumption) (by omega) (by omega) (by omega) (by omega) (by omega) (Nat.le_of_ble_eq_true rfl) ?_
  refine ks_aload_n rfl rfl ?_
  refine ks_getr (b := b + 4) rfl rfl (by assumption) (by assumption) (Nat.succ_ne_zero _) ?_
  refine ks_iconst rfl ?_
  refine ks_aload_n rfl rfl ?_
  refine ks_getr (b := a + 4) rfl rfl (by assumption) (by assumption) (Nat.succ_ne_zero _) ?_
  refine ks_iconst rfl ?_
  refine ks_bipush rfl ?_
  refine ks_acopy rfl (Nat.le_refl 91) (by assumption) (by assumption) (by omega) (by omega) (by omega) (by omega) (by omega) (Nat.le_of_ble_eq_true rfl) ?_
  refine ks_aload_n rfl rfl ?_
  refine ks_getr (b := b + 5) rfl rfl (by assumption) (by assumption) (Nat.succ_ne_zero _) ?_
  refine ks_iconst rfl ?_
  refine ks_aload_n rfl rfl ?_
  refine ks_getr (b := a + 5) rfl rfl (by assumption) (by assumption) (Nat.succ_ne_zero _) ?_
  refine ks_iconst rfl ?_
  refine ks_iconst rfl ?_
  refine ks_acopy rfl (Nat.le_refl 91) (by assumption) (by assumption) (by omega) (by omega) (by omega) (by omega) (by omega) (Nat.le_of_ble_eq_true rfl) ?_
  refine ks_aload_n rfl rfl ?_
  refine ks_getr (b := b + 6) rfl rfl (by assumption) (by assumption) (Nat.succ_ne_zero _) ?_
  refine ks_iconst rfl ?_
  refine ks_aload_n rfl rfl ?_
  refine ks_getr (b := a + 6) rfl rfl (by assumption) (by assumption) (Nat.succ_ne_zero _) ?_
  refine ks_iconst rfl ?_
  refine ks_iconst rfl ?_
  refine ks_acopy rfl (Nat.le_refl 91) (by assumption) (by assumption) (by omega) (by omega) (by omega) (by omega) (by omega) (Nat.le_of_ble_eq_true rfl) ?_
  refine ks_aload_n rfl rfl ?_
  refine ks_getr (b := b + 7) rfl rfl (by assumption) (by assumption) (Nat.succ_ne_zero _) ?_
  refine ks_iconst rfl ?_
  refine ks_aload_n rfl rfl ?_
  refine ks_getr (b := a + 7) rfl rfl (by assumption) (by assumption) (Nat.succ_ne_zero _) ?_
  refine ks_iconst rfl ?_
  refine ks_iconst rfl ?_
  refine ks_acopy rfl (Nat.le_refl 91) (by assumption) (by assumption) (by omega) (by omega) (by omega) (by omega) (by omega) (Nat.le_of_ble_eq_true rfl) ?_
  refine ks_aload_n rfl rfl ?_
  refine ks_getr (b := b + 8) rfl rfl (by assumption) (by assumption) (Nat.succ_ne_zero _) ?_
  refine ks_iconst rfl ?_
  refine ks_aload_n rfl rfl ?_
  refine ks_getr (b := a + 8) rfl rfl (by assumption) (by assumption) (Nat.succ_ne_zero _) ?_
  refine ks_iconst rfl ?_
  refine ks_iconst rfl ?_
  refine ks_acopy rfl (Nat.le_refl 91) (by assumption) (by assumption) (by omega) (by omega) (by omega) (by omega) (by omega) (Nat.le_of_ble_eq_true rfl) ?_
  -- at 116: stop  st []
  clear g0 g1 g2 g3 g4 g5 g6 g7 g8 g9 g10 g11 g12 g13 g14 g15 g16 k0 k1 k2 k3 k4 k5 k6 k7 k8 k9 k10 k11 k12 k13 k14 k15 k16
  refine fin _ ?_ ?_ ?_ ?_
  · simp (disch := omega) only [kx_cpy_ne]
  · intro i i0 i1
    simp (disch := omega) only [kx_cpy_ne, kx_cpy_in]
    simp
  · intro k k0 k1
    simp (disch := omega) only [kx_cpy_ne, kx_cpy_in]
    simp
  · intro c hc
    simp (disch := omega) only [kx_cpy_ne]
theorem r_clear (hA : kg_T L a) (t : ∀ μ', μ' a 8 = 0 → TRx μ' a (fun _ => 0) 0 → Fr a μ μ' → Q none (kg L) μ') : kx_cx (ke (d + 1)) 53 [kR a] (kg L) μ Q := by
  refine ke_start (tb := kt_Town_clear) (ls := [some (kR a)]) rfl rfl ?_
  obtain ⟨g0, g1, g2, g3, g4, g5, g6, g7, g8, g9, g10, g11, g12, g13, g14, g15, g16⟩ := hA
  refine ks_aload_n rfl rfl ?_
  refine ks_iconst rfl ?_
  refine ks_puti rfl (by assumption) ?_
  refine ks_aload_n rfl rfl ?_
  refine ks_iconst rfl ?_
  refine ks_puti rfl (by assumption) ?_
  refine ks_aload_n rfl rfl ?_
  refine ks_iconst rfl ?_
  refine ks_puti rfl (by assumption) ?_
  refine ks_aload_n rfl rfl ?_
  refine ks_iconst rfl ?_
  refine ks_puti rfl (by assumption) ?_
  refine ks_aload_n rfl rfl ?_
  refine ks_iconst rfl ?_
  refine ks_puti rfl (by assumption) ?_
  refine ks_aload_n rfl rfl ?_
  refine ks_iconst rfl ?_
  refine ks_puti rfl (by assumption) ?_
  refine ks_return rfl ?_
  -- at 30: ret  st []
  refine t _ ?_ ?_ ?_
  · simp (disch := omega) only [kx_up_self, kx_up_oth]
  · refine ⟨?_, ?_, ?_, ?_, ?_, ?_, fun i i0 i1 => absurd (show i < 0 from i1) (by omega), fun k k0 k1 => absurd (show k < 0 from k1) (by omega)⟩ <;> simp (disch := omega) only [kx_up_self, kx_up_oth]
  · intro c hc
    simp (disch := omega) only [kx_up_row]
theorem r_addHead {k p l : Int} (hA : kg_T L a) (hT : TRx μ a s z) (h1 : 0 ≤ s 1 ∧ s 1 < 6) (h2 : s 2 = 0) (t : ∀ μ', TRx μ' a (up1 (up1 (up1 (up1 (up1 s (6 + s 1) k) (12 + s 1) p) (18 + s 1) l) (24 + s 1) 0) 1 (s 1 + 1)) z → Fr a μ μ' → Q none (kg L) μ') : kx_cx (ke (d + 1)) 55 [kR a, kI k, kI p, kI l] (kg L) μ Q := by
  refine ke_start (tb := kt_Town_addHead) (ls := [some (kR a), some (kI k), some (kI p), some (kI l)]) rfl rfl ?_
  obtain ⟨g0, g1, g2, g3, g4, g5, g6, g7, g8, g9, g10, g11, g12, g13, g14, g15, g16⟩ := hA
  obtain ⟨e8, e9, e10, e11, e12, e13, eh, eo⟩ := hT
  refine ks_aload_n rfl rfl ?_
  refine ks_getr (b := a + 1) rfl rfl (by assumption) (by assumption) (Nat.succ_ne_zero _) ?_
  refine ks_aload_n rfl rfl ?_
  refine ks_geti rfl rfl (by assumption) rfl (by (try simp only [kx_up_at, kx_row_at, up1_at, Nat.reduceEqDiff, Int.reduceEq, Int.reduceNeg, and_true, true_and, and_false, false_and, and_self, reduceIte, Nat.add_left_cancel_iff, Nat.add_eq_left, Nat.left_eq_add, Nat.reduceAdd, Int.add_left_inj, Int.add_right_inj, e8]); rfl) ?_
  refine ks_iload_n rfl rfl ?_
  refine ks_iastore rfl (by assumption) (by omega) (by omega) ?_
  refine ks_aload_n rfl rfl ?_
  refine ks_getr (b := a + 2) rfl rfl (by assumption) (by assumption) (Nat.succ_ne_zero _) ?_
  refine ks_aload_n rfl rfl ?_
  refine ks_geti rfl rfl (by assumption) rfl (by (try simp only [kx_up_at, kx_row_at, up1_at, Nat.reduceEqDiff, Int.reduceEq, Int.reduceNeg, and_true, true_and, and_false, false_and, and_self, reduceIte, Nat.add_left_cancel_iff, Nat.add_eq_left, Nat.left_eq_add, Nat.reduceAdd, Int.add_left_inj, Int.add_right_inj, e8]); rfl) ?_
  refine ks_iload_n rfl rfl ?_
  refine ks_iastore rfl (by assumption) (by omega) (by omega) ?_
  refine ks_aload_n rfl rfl ?_
  refine ks_getr (b := a + 3) rfl rfl (by assumption) (by assumption) (Nat.succ_ne_zero _) ?_
  refine ks_aload_n rfl rfl ?_
  refine ks_geti rfl rfl (by assumption) rfl (by (try simp only [kx_up_at, kx_row_at, up1_at, Nat.reduceEqDiff, Int.reduceEq, Int.reduceNeg, and_true, true_and, and_false, false_and, and_self, reduceIte, Nat.add_left_cancel_iff, Nat.add_eq_left, Nat.left_eq_add, Nat.reduceAdd, Int.add_left_inj, Int.add_right_inj, e8]); rfl) ?_
  refine ks_iload_n rfl rfl ?_
  refine ks_iastore rfl (by assumption) (by omega) (by omega) ?_
  refine ks_aload_n rfl rfl ?_
  refine ks_getr (b := a + 4) rfl rfl (by assumption) (by assumption) (Nat.succ_ne_zero _) ?_
  refine ks_aload_n rfl rfl ?_
  refine ks_geti rfl rfl (by assumption) rfl (by (try simp only [kx_up_at, kx_row_at, up1_at, Nat.reduceEqDiff, Int.reduceEq, Int.reduceNeg, and_true, true_and, and_false, false_and, and_self, reduceIte, Nat.add_left_cancel_iff, Nat.add_eq_left, Nat.left_eq_add, Nat.reduceAdd, Int.add_left_inj, Int.add_right_inj, e8]); rfl) ?_
  refine ks_iconst rfl ?_
  refine ks_iastore rfl (by assumption) (by omega) (by omega) ?_
  refine ks_aload_n rfl rfl ?_
  refine ks_dupR rfl ?_
  refine ks_geti rfl rfl (by assumption) rfl (by (try simp only [kx_up_at, kx_row_at, up1_at, Nat.reduceEqDiff, Int.reduceEq, Int.reduceNeg, and_true, true_and, and_false, false_and, and_self, reduceIte, Nat.add_left_cancel_iff, Nat.add_eq_left, Nat.left_eq_add, Nat.reduceAdd, Int.add_left_inj, Int.add_right_inj, e8]); rfl) ?_
  refine ks_iconst rfl ?_
  refine ks_iadd rfl ?_
  refine ks_puti rfl (by assumption) ?_
  refine ks_return rfl ?_
  -- at 50: ret  st []
  refine t _ ?_ ?_
  · refine ⟨?_, ?_, ?_, ?_, ?_, ?_, fun i i0 i1 => ?_, fun k k0 k1 => ?_⟩
    · simp (disch := omega) only [kx_up_row, kx_up_self, kx_up_oth, up1_ne, up1_at, if_true]
    · simp (disch := omega) only [kx_up_row, kx_up_self, kx_up_oth, up1_ne]; exact e9
    · simp (disch := omega) only [kx_up_row, kx_up_self, kx_up_oth, up1_ne]; exact e10
    · simp (disch := omega) only [kx_up_row, kx_up_self, kx_up_oth, up1_ne]; exact e11
    · simp (disch := omega) only [kx_up_row, kx_up_self, kx_up_oth, up1_ne]; exact e12
    · simp (disch := omega) only [kx_up_row, kx_up_self, kx_up_oth, up1_ne]; exact e13
    · rw [up1_at, if_pos rfl] at i1
      by_cases e : i = s 1
      · subst e
        simp (disch := omega) only [kx_up_row, kx_up_self, up1_ne, up1_self]
        simp
      · have := eh i i0 (by omega)
        simp (disch := omega) only [kx_up_row, kx_up_oth, up1_ne]
        exact this
    · simp (disch := omega) only [up1_ne] at k1
      omega
  · intro c hc
    simp (disch := omega) only [kx_up_row]
theorem r_addOrder {x : Int} (hA : kg_T L a) (hT : TRx μ a s z) (h1 : s 1 ≤ 6) (h2 : 0 ≤ s 2 ∧ s 2 < 4) (t : ∀ μ', TRx μ' a (up1 (up1 (up1 (up1 s (30 + s 2) x) (34 + s 2) x) (38 + s 2) 0) 2 (s 2 + 1)) z → Fr a μ μ' → Q (some (kI (s 2))) (kg L) μ') : kx_cx (ke (d + 1)) 56 [kR a, kI x] (kg L) μ Q := by
  refine ke_start (tb := kt_Town_addOrder) (ls := [some (kR a), some (kI x), none]) rfl rfl ?_
  obtain ⟨g0, g1, g2, g3, g4, g5, g6, g7, g8, g9, g10, g11, g12, g13, g14, g15, g16⟩ := hA
  obtain ⟨e8, e9, e10, e11, e12, e13, eh, eo⟩ := hT
  refine ks_aload_n rfl rfl ?_
  refine ks_geti rfl rfl (by assumption) rfl (by (try simp only [kx_up_at, kx_row_at, up1_at, Nat.reduceEqDiff, Int.reduceEq, Int.reduceNeg, and_true, true_and, and_false, false_and, and_self, reduceIte, Nat.add_left_cancel_iff, Nat.add_eq_left, Nat.left_eq_add, Nat.reduceAdd, Int.add_left_inj, Int.add_right_inj, e9]); rfl) ?_
  refine ks_istore_n_2 rfl rfl ?_
  refine ks_aload_n rfl rfl ?_
  refine ks_getr (b := a + 5) rfl rfl (by assumption) (by assumption) (Nat.succ_ne_zero _) ?_
  refine ks_iload_n rfl rfl ?_
  refine ks_iload_n rfl rfl ?_
  refine ks_iastore rfl (by assumption) (by omega) (by omega) ?_
  refine ks_aload_n rfl rfl ?_
  refine ks_getr (b := a + 6) rfl rfl (by assumption) (by assumption) (Nat.succ_ne_zero _) ?_
  refine ks_iload_n rfl rfl ?_
  refine ks_iload_n rfl rfl ?_
  refine ks_iastore rfl (by assumption) (by omega) (by omega) ?_
  refine ks_aload_n rfl rfl ?_
  refine ks_getr (b := a + 7) rfl rfl (by assumption) (by assumption) (Nat.succ_ne_zero _) ?_
  refine ks_iload_n rfl rfl ?_
  refine ks_iconst rfl ?_
  refine ks_iastore rfl (by assumption) (by omega) (by omega) ?_
  refine ks_aload_n rfl rfl ?_
  refine ks_getr (b := a + 8) rfl rfl (by assumption) (by assumption) (Nat.succ_ne_zero _) ?_
  refine ks_iload_n rfl rfl ?_
  refine ks_ldc rfl ?_
  refine ks_iastore rfl (by assumption) (by omega) (by omega) ?_
  refine ks_aload_n rfl rfl ?_
  refine ks_dupR rfl ?_
  refine ks_geti rfl rfl (by assumption) rfl (by (try simp only [kx_up_at, kx_row_at, up1_at, Nat.reduceEqDiff, Int.reduceEq, Int.reduceNeg, and_true, true_and, and_false, false_and, and_self, reduceIte, Nat.add_left_cancel_iff, Nat.add_eq_left, Nat.left_eq_add, Nat.reduceAdd, Int.add_left_inj, Int.add_right_inj, e9]); rfl) ?_
  refine ks_iconst rfl ?_
  refine ks_iadd rfl ?_
  refine ks_puti rfl (by assumption) ?_
  refine ks_iload_n rfl rfl ?_
  refine ks_ireturn rfl ?_
  -- at 45: ret  st [None]
  refine t _ ?_ ?_
  · refine ⟨?_, ?_, ?_, ?_, ?_, ?_, fun i i0 i1 => ?_, fun k k0 k1 => ?_⟩
    · simp (disch := omega) only [kx_up_row, kx_up_self, kx_up_oth, up1_ne]; exact e8
    · simp (disch := omega) only [kx_up_row, kx_up_self, kx_up_oth, up1_ne, up1_at, if_true]
    · simp (disch := omega) only [kx_up_row, kx_up_self, kx_up_oth, up1_ne]; exact e10
    · simp (disch := omega) only [kx_up_row, kx_up_self, kx_up_oth, up1_ne]; exact e11
    · simp (disch := omega) only [kx_up_row, kx_up_self, kx_up_oth, up1_ne]; exact e12
    · simp (disch := omega) only [kx_up_row, kx_up_self, kx_up_oth, up1_ne]; exact e13
    · simp (disch := omega) only [up1_ne] at i1
      have := eh i i0 (by omega)
      simp (disch := omega) only [kx_up_row, kx_up_oth, up1_ne]
      exact this
    · rw [up1_at, if_pos rfl] at k1
      by_cases e : k = s 2
      · subst e
        simp (disch := omega) only [kx_up_row, kx_up_self, up1_ne, up1_self]
        simp
      · have := eo k k0 (by omega)
        rw [up1_ne (i := 2) (j := 38 + k) (by omega), up1_ne (i := 38 + s 2) (j := 38 + k) (by omega), up1_ne (i := 34 + s 2) (j := 38 + k) (by omega), up1_ne (i := 30 + s 2) (j := 38 + k) (by omega)]
        simp (disch := omega) only [kx_up_row, kx_up_oth, up1_ne]
        exact this
  · intro c hc
    simp (disch := omega) only [kx_up_row]
end CW
end
section
/-! a step taken back -/
theorem tw_goes_at {s : Int → Int} {h j : Int} (n : j ≠ 4 ∧ j ≠ 5) : tw_goes s h j = s j := by
  unfold tw_goes
  generalize (if s (6 + h) = 3 then tw_out s else 0) = x
  split
  · rfl
  · rw [up1_ne n.2, up1_ne n.1]
theorem tw_step_at {s : Int → Int} {j : Int} (h : j ≠ 3 ∧ j ≠ 4 ∧ j ≠ 5) : tw_step s j = tw_work s (s 4) (tw_found s (s 4)) j := by
  unfold tw_step
  rw [tw_goes_at h.2]; exact tw_tick_at ⟨h.2.2, h.1⟩
theorem tw_step_3 {B : Int} {s : Int → Int} (hw : tw_W B s) : tw_step s 3 = s 3 + 1 := by
  have hfi := tw_found_in s (s 4)
  have w2 := hw.2.1
  have w1 := hw.1
  have w3 := hw.2.2.1
  have e : tw_tick (tw_work s (s 4) (tw_found s (s 4))) 3 = s 3 + 1 := by
    rw [← tw_work_lo (s := s) (h := s 4) (f := tw_found s (s 4)) (j := 3) (by omega) (by omega) (by omega)]; rfl
  unfold tw_step
  rw [tw_goes_at (by omega)]; exact e
section CX
variable {d L : Nat} {G : kx_G} {μ : kx_M} {Q : Option kx_V → kx_G → kx_M → Prop} {a b : Nat} {s : Int → Int} {B z : Int}
theorem r_revertStep (hB : B ≤ 100000) (hK : kg_T L a) (hT : TR μ a (tw_step s)) (hw : tw_W B s) (t : ∀ μ', TR μ' a s → Fr a μ μ' → Q none (kg L) μ') : kx_cx (ke (d + 1)) 62 [kR a, kI (s 4), kI (s 5), kI (tw_found s (s 4))] (kg L) μ Q := by
  refine ke_start (tb := kt_Town_revertStep) (ls := [some (kR a), some (kI (s 4)), some (kI (s 5)), some (kI (tw_found s (s 4)))]) rfl rfl ?_
  have hs3 := tw_step_3 hw
  obtain ⟨g0, g1, g2, g3, g4, g5, g6, g7, g8, g9, g10, g11, g12, g13, g14, g15, g16⟩ := hK
  obtain ⟨e8, e9, e10, e11, e12, e13, eh, eo⟩ := hT
  obtain ⟨w1, w2, w3, w4, w5, w6, w7, w8⟩ := hw
  have hfi := tw_found_in s (s 4)
  have lo : ∀ j : Int, j < 24 ∨ 30 ≤ j ∧ j < 34 → j ≠ 3 ∧ j ≠ 4 ∧ j ≠ 5 → tw_step s j = s j := fun j hj hn => by rw [tw_step_at hn, tw_work_lo (by omega) (by omega) hj]
  rw [hs3] at e13
  rw [lo 1 (by omega) (by omega)] at e8 eh
  rw [lo 2 (by omega) (by omega)] at e9 eo
  rw [lo 0 (by omega) (by omega)] at e10
  have q7 := w7 (s 4) w3.1 w3.2
  have e3 : s 3 + 1 - 1 = s 3 := by omega
  refine ks_aload_n rfl rfl ?_
  refine ks_dupR rfl ?_
  refine ks_geti rfl rfl (by assumption) rfl (by (try simp only [kx_up_at, kx_row_at, up1_at, Nat.reduceEqDiff, Int.reduceEq, Int.reduceNeg, and_true, true_and, and_false, false_and, and_self, reduceIte, Nat.add_left_cancel_iff, Nat.add_eq_left, Nat.left_eq_add, Nat.reduceAdd, Int.add_left_inj, Int.add_right_inj, e13, e3]); rfl) ?_
  refine ks_iconst rfl ?_
  refine ks_isub rfl ?_
  refine ks_puti rfl (by assumption) ?_
  refine ks_aload_n rfl rfl ?_
  refine ks_iload_n rfl rfl ?_
  refine ks_puti rfl (by assumption) ?_
  refine ks_aload_n rfl rfl ?_
  refine ks_iload_n rfl rfl ?_
  refine ks_puti rfl (by assumption) ?_
  refine ks_iload_n rfl rfl ?_
  refine ks_iconst rfl ?_
  -- at 22: if eq -> 60 else 25 st ['-1', None]
  refine ks_icmp_eq rfl ⟨by omega, by omega⟩ ⟨by omega, by omega⟩ (fun c1 => ?_) (fun c1 => ?_)
  · refine ks_return rfl ?_
    -- at 60: ret  st []
    clear g0 g1 g2 g3 g4 g5 g6 g7 g8 g9 g10 g11 g12 g13 g14 g15 g16
    have all : ∀ j : Int, j ≠ 3 ∧ j ≠ 4 ∧ j ≠ 5 → tw_step s j = s j := fun j hn => by
      rw [tw_step_at hn]; unfold tw_work; rw [if_pos (by omega)]
    refine t _ ?_ ?_
    · refine ⟨?_, ?_, ?_, ?_, ?_, ?_, fun i i0 i1 => ?_, fun k k0 k1 => ?_⟩
      · simp (disch := omega) only [kx_up_self, kx_up_oth]; exact e8
      · simp (disch := omega) only [kx_up_self, kx_up_oth]; exact e9
      · simp (disch := omega) only [kx_up_self, kx_up_oth]; exact e10
      · simp (disch := omega) only [kx_up_self, kx_up_oth]
      · simp (disch := omega) only [kx_up_self, kx_up_oth]
      · simp (disch := omega) only [kx_up_self, kx_up_oth]; try omega
      · have := eh i i0 i1
        rw [all (6 + i) (by omega), all (12 + i) (by omega), all (18 + i) (by omega), all (24 + i) (by omega)] at this
        simp (disch := omega) only [kx_up_row]; exact this
      · have := eo k k0 k1
        rw [all (30 + k) (by omega), all (34 + k) (by omega), all (38 + k) (by omega), all (42 + k) (by omega)] at this
        simp (disch := omega) only [kx_up_row]; exact this
    · exact Fr_up (Fr_up (Fr_up (Fr_rf a μ) (by omega)) (by omega)) (by omega)
  · obtain ⟨f0, f1, f2⟩ := hfi.resolve_left c1
    have f3 := f2.1
    have hat : ∀ j : Int, j ≠ 3 ∧ j ≠ 4 ∧ j ≠ 5 → tw_step s j = tw_work s (s 4) (tw_found s (s 4)) j := fun j hn => tw_step_at hn
    generalize tw_found s (s 4) = f at *
    have f4 := w8 f f0 f1
    have nf : ¬ f < 0 := by omega
    have l1 : tw_step s (34 + f) = s (34 + f) - 1 := by
      rw [hat _ (by omega)]; unfold tw_work; rw [if_neg nf]
      split
      · simp (disch := omega) only [up1_self, up1_ne]
      · simp (disch := omega) only [up1_self, up1_ne]
    have l2 : tw_step s (24 + s 4) = s (24 + s 4) + 1 := by
      rw [hat _ (by omega)]; unfold tw_work; rw [if_neg nf]
      split
      · simp (disch := omega) only [up1_self, up1_ne]
      · simp (disch := omega) only [up1_self, up1_ne]
    have l3 : ∀ i : Int, 0 ≤ i → i < 6 → i ≠ s 4 → tw_step s (24 + i) = s (24 + i) := by
      intro i i0 i1 i2
      rw [hat _ (by omega)]; unfold tw_work; rw [if_neg nf]
      split
      · simp (disch := omega) only [up1_ne]
      · simp (disch := omega) only [up1_ne]
    have l4 : ∀ k : Int, 0 ≤ k → k < 4 → k ≠ f → tw_step s (34 + k) = s (34 + k) ∧ tw_step s (38 + k) = s (38 + k) ∧ tw_step s (42 + k) = s (42 + k) := by
      intro k k0 k1 k2
      rw [hat _ (by omega), hat _ (by omega), hat _ (by omega)]; unfold tw_work; rw [if_neg nf]
      split
      · simp (disch := omega) only [up1_ne]
        simp
      · simp (disch := omega) only [up1_ne]
        simp
    have b1 : μ (a + 6) f = s (34 + f) - 1 := by rw [(eo f f0 f1).2.1, l1]
    have b2 : μ (a + 4) (s 4) = s (24 + s 4) + 1 := by rw [(eh (s 4) w3.1 w3.2).2.2.2, l2]
    have e34 : s (34 + f) - 1 + 1 = s (34 + f) := by omega
    have e24 : s (24 + s 4) + 1 - 1 = s (24 + s 4) := by omega
    refine ks_aload_n rfl rfl ?_
    refine ks_getr (b := a + 6) rfl rfl (by assumption) (by assumption) (Nat.succ_ne_zero _) ?_
    refine ks_iload_n rfl rfl ?_
    refine ks_dup2 rfl ?_
    refine ks_iaload rfl (by assumption) (by omega) (by omega) (by (try simp only [kx_up_at, kx_row_at, up1_at, Nat.reduceEqDiff, Int.reduceEq, Int.reduceNeg, and_true, true_and, and_false, false_and, and_self, reduceIte, Nat.add_left_cancel_iff, Nat.add_eq_left, Nat.left_eq_add, Nat.reduceAdd, Int.add_left_inj, Int.add_right_inj, b1, b2, e34, e24]); rfl) ?_
    refine ks_iconst rfl ?_
    refine ks_iadd rfl ?_
    refine ks_iastore rfl (by assumption) (by omega) (by omega) ?_
    refine ks_aload_n rfl rfl ?_
    refine ks_getr (b := a + 7) rfl rfl (by assumption) (by assumption) (Nat.succ_ne_zero _) ?_
    refine ks_iload_n rfl rfl ?_
    refine ks_iconst rfl ?_
    refine ks_iastore rfl (by assumption) (by omega) (by omega) ?_
    refine ks_aload_n rfl rfl ?_
    refine ks_getr (b := a + 8) rfl rfl (by assumption) (by assumption) (Nat.succ_ne_zero _) ?_
    refine ks_iload_n rfl rfl ?_
    refine ks_ldc rfl ?_
    refine ks_iastore rfl (by assumption) (by omega) (by omega) ?_
    refine ks_aload_n rfl rfl ?_
    refine ks_getr (b := a + 4) rfl rfl (by assumption) (by assumption) (Nat.succ_ne_zero _) ?_
    refine ks_iload_n rfl rfl ?_
    refine ks_dup2 rfl ?_
    refine ks_iaload rfl (by assumption) (by omega) (by omega) (by (try simp only [kx_up_at, kx_row_at, up1_at, Nat.reduceEqDiff, Int.reduceEq, Int.reduceNeg, and_true, true_and, and_false, false_and, and_self, reduceIte, Nat.add_left_cancel_iff, Nat.add_eq_left, Nat.left_eq_add, Nat.reduceAdd, Int.add_left_inj, Int.add_right_inj, b1, b2, e34, e24]); rfl) ?_
    refine ks_iconst rfl ?_
    refine ks_isub rfl ?_
    refine ks_iastore rfl (by assumption) (by omega) (by omega) ?_
    refine ks_return rfl ?_
    -- at 60: ret  st []
    clear g0 g1 g2 g3 g4 g5 g6 g7 g8 g9 g10 g11 g12 g13 g14 g15 g16
    refine t _ ?_ ?_
    · refine ⟨?_, ?_, ?_, ?_, ?_, ?_, fun i i0 i1 => ?_, fun k k0 k1 => ?_⟩
      · simp (disch := omega) only [kx_up_row, kx_up_self, kx_up_oth]; exact e8
      · simp (disch := omega) only [kx_up_row, kx_up_self, kx_up_oth]; exact e9
      · simp (disch := omega) only [kx_up_row, kx_up_self, kx_up_oth]; exact e10
      · simp (disch := omega) only [kx_up_row, kx_up_self, kx_up_oth]
      · simp (disch := omega) only [kx_up_row, kx_up_self, kx_up_oth]
      · simp (disch := omega) only [kx_up_row, kx_up_self, kx_up_oth]; try omega
      · obtain ⟨c2, c3, c4, c5⟩ := eh i i0 i1
        rw [lo (6 + i) (by omega) (by omega)] at c2
        rw [lo (12 + i) (by omega) (by omega)] at c3
        rw [lo (18 + i) (by omega) (by omega)] at c4
        by_cases e : i = s 4
        · subst e
          simp (disch := omega) only [kx_up_row, kx_up_self]
          exact ⟨c2, c3, c4, by omega⟩
        · rw [l3 i i0 (by omega) e] at c5
          simp (disch := omega) only [kx_up_row, kx_up_oth]
          exact ⟨c2, c3, c4, c5⟩
      · obtain ⟨c2, c3, c4, c5⟩ := eo k k0 k1
        rw [lo (30 + k) (by omega) (by omega)] at c2
        by_cases e : k = f
        · subst e
          simp (disch := omega) only [kx_up_row, kx_up_self]
          rw [f3]
          exact ⟨c2, by omega, rfl, by rw [if_neg (by omega)]⟩
        · obtain ⟨d1, d2, d3⟩ := l4 k k0 (by omega) e
          rw [d1] at c3
          rw [d2] at c4 c5
          rw [d3] at c5
          simp (disch := omega) only [kx_up_row, kx_up_oth]
          exact ⟨c2, c3, c4, c5⟩
    · exact Fr_up (Fr_up (Fr_up (Fr_up (Fr_up (Fr_up (Fr_up (Fr_rf a μ) (by omega)) (by omega)) (by omega)) (by omega)) (by omega)) (by omega)) (by omega)
end CX
end
section
/-! rows, and small ones of the platform -/
section CR
variable {d L : Nat} {G : kx_G} {μ : kx_M} {Q : Option kx_V → kx_G → kx_M → Prop} {a : Nat}
theorem r_min {x y : Int} (hx : kx_in x) (hy : kx_in y) (t : Q (some (kI (min x y))) G μ) : kx_cx (ke (d + 1)) 193 [kI x, kI y] G μ Q := by
  refine ke_start (tb := kt_Math_min) (ls := [some (kI x), some (kI y)]) rfl rfl ?_
  refine ks_iload_n rfl rfl ?_
  refine ks_iload_n rfl rfl ?_
  -- at 2: if gt -> 9 else 5 st [None, None]
  refine ks_icmp_gt rfl hx hy (fun h => ?_) (fun h => ?_)
  · refine ks_iload_n rfl rfl ?_
    refine ks_ireturn rfl ?_
    -- at 10: ret  st [None]
    rw [show min x y = y by omega] at t
    exact t
  · refine ks_iload_n rfl rfl ?_
    refine ks_goto rfl ?_
    refine ks_ireturn rfl ?_
    -- at 10: ret  st [None]
    rw [show min x y = x by omega] at t
    exact t
theorem r_max {x y : Int} (hx : kx_in x) (hy : kx_in y) (t : Q (some (kI (max x y))) G μ) : kx_cx (ke (d + 1)) 195 [kI x, kI y] G μ Q := by
  refine ke_start (tb := kt_Math_max) (ls := [some (kI x), some (kI y)]) rfl rfl ?_
  refine ks_iload_n rfl rfl ?_
  refine ks_iload_n rfl rfl ?_
  -- at 2: if lt -> 9 else 5 st [None, None]
  refine ks_icmp_lt rfl hx hy (fun h => ?_) (fun h => ?_)
  · refine ks_iload_n rfl rfl ?_
    refine ks_ireturn rfl ?_
    -- at 10: ret  st [None]
    rw [show max x y = y by omega] at t
    exact t
  · refine ks_iload_n rfl rfl ?_
    refine ks_goto rfl ?_
    refine ks_ireturn rfl ?_
    -- at 10: ret  st [None]
    rw [show max x y = x by omega] at t
    exact t
theorem l_fill {n : Nat} {v : Int} (hn : n ≤ 2000) (hs : (kg L).1 a = (2, n)) (t : ∀ μ', (∀ i : Int, 0 ≤ i → i < n → μ' a i = v) → (∀ c, c ≠ a → μ' c = μ c) → Q none (kg L) μ') : ∀ (r j : Nat) (μ1 : kx_M), j + r = n → (∀ i : Int, 0 ≤ i → i < j → μ1 a i = v) → (∀ c, c ≠ a → μ1 c = μ c) → kx_wx (ke d) kt_Arrays_fill Q 5 [some (kR a), some (kI v), some (kI j), some (kI n)] [] (kg L) μ1 := by
  intro r
  induction r with
  | zero =>
    intro j μ1 hj h1 h2
    refine ks_iload_n rfl rfl ?_
    refine ks_iload_n rfl rfl ?_
    -- at 7: if ge -> 20 else 10 st [None, None]
    refine ks_icmp_ge rfl ⟨by omega, by omega⟩ ⟨by omega, by omega⟩ (fun h => absurd h (by omega)) (fun h => ?_)
    refine ks_return rfl ?_
    -- at 20: ret  st []
    exact t μ1 (fun i i0 i1 => h1 i i0 (by omega)) h2
  | succ r ih =>
    intro j μ1 hj h1 h2
    refine ks_iload_n rfl rfl ?_
    refine ks_iload_n rfl rfl ?_
    -- at 7: if ge -> 20 else 10 st [None, None]
    refine ks_icmp_ge rfl ⟨by omega, by omega⟩ ⟨by omega, by omega⟩ (fun h => ?_) (fun h => absurd h (by omega))
    refine ks_aload_n rfl rfl ?_
    refine ks_iload_n rfl rfl ?_
    refine ks_iload_n rfl rfl ?_
    refine ks_iastore rfl (by assumption) (by omega) (by omega) ?_
    refine ks_iinc_2 rfl rfl ?_
    refine ks_goto rfl ?_
    -- at 5: stop  st []
    refine ih (j + 1) _ (by omega) (fun i i0 i1 => ?_) (fun c hc => ?_)
    · by_cases e : i = j
      · subst e; exact kx_up_self _ _ _ _
      · rw [kx_up_oth e]; exact h1 i i0 (by omega)
    · rw [kx_up_row hc]; exact h2 c hc
theorem r_fill {n : Nat} {v : Int} (hn : n ≤ 2000) (hs : (kg L).1 a = (2, n)) (t : ∀ μ', (∀ i : Int, 0 ≤ i → i < n → μ' a i = v) → (∀ c, c ≠ a → μ' c = μ c) → Q none (kg L) μ') : kx_cx (ke (d + 1)) 194 [kR a, kI v] (kg L) μ Q := by
  refine ke_start (tb := kt_Arrays_fill) (ls := [some (kR a), some (kI v), none, none]) rfl rfl ?_
  refine ks_iconst rfl ?_
  refine ks_istore_n_2 rfl rfl ?_
  refine ks_aload_n rfl rfl ?_
  refine ks_arraylength rfl (by assumption) ?_
  refine ks_istore_n_3 rfl rfl ?_
  -- at 5: stop  st []
  exact l_fill hn hs t n 0 μ (by omega) (fun i i0 i1 => absurd i1 (by omega)) (fun _ _ => rfl)
theorem r_remove (hR : kg_R L a) (t : Q (some (kI (μ a 2))) (kg L) (kx_up μ a 2 (-1))) : kx_cx (ke (d + 1)) 33 [kR a] (kg L) μ Q := by
  refine ke_start (tb := kt_Row_remove) (ls := [some (kR a), none]) rfl rfl ?_
  obtain ⟨g0, g1, g2⟩ := hR
  refine ks_aload_n rfl rfl ?_
  refine ks_geti rfl rfl (by assumption) rfl (by (try simp only [kx_up_at, kx_row_at, up1_at, Nat.reduceEqDiff, Int.reduceEq, Int.reduceNeg, and_true, true_and, and_false, false_and, and_self, reduceIte, Nat.add_left_cancel_iff, Nat.add_eq_left, Nat.left_eq_add, Nat.reduceAdd, Int.add_left_inj, Int.add_right_inj]); rfl) ?_
  refine ks_istore_n_1 rfl rfl ?_
  refine ks_aload_n rfl rfl ?_
  refine ks_iconst rfl ?_
  refine ks_puti rfl (by assumption) ?_
  refine ks_iload_n rfl rfl ?_
  refine ks_ireturn rfl ?_
  -- at 11: ret  st [None]
  exact t
theorem r_lay {l n : Int} (hR : kg_R L a) (t : ∀ μ', μ' a 1 = l → μ' a 2 = n → (∀ i, 0 ≤ i → i < 40 → μ' (a + 1) i = 0) → (∀ c, c ≠ a → c ≠ a + 1 → μ' c = μ c) → Q none (kg L) μ') : kx_cx (ke (d + 2)) 32 [kR a, kI l, kI n] (kg L) μ Q := by
  refine ke_start (tb := kt_Row_lay) (ls := [some (kR a), some (kI l), some (kI n)]) rfl rfl ?_
  obtain ⟨g0, g1, g2⟩ := hR
  refine ks_aload_n rfl rfl ?_
  refine ks_getr (b := a + 1) rfl rfl (by assumption) (by assumption) (Nat.succ_ne_zero _) ?_
  refine ks_iconst rfl ?_
  refine ks_calls_2 rfl (Nat.le_of_ble_eq_true rfl) ?_
  -- at 5: call Arrays_fill st []
  refine r_fill (n := 40) (by omega) g2 (fun μ1 h1 h2 => ?_)
  show kx_wx _ _ _ _ _ _ _ _
  refine ks_aload_n rfl rfl ?_
  refine ks_iload_n rfl rfl ?_
  refine ks_puti rfl (by assumption) ?_
  refine ks_aload_n rfl rfl ?_
  refine ks_iload_n rfl rfl ?_
  refine ks_puti rfl (by assumption) ?_
  refine ks_return rfl ?_
  -- at 18: ret  st []
  refine t _ ?_ ?_ (fun i i0 i1 => ?_) (fun c c0 c1 => ?_)
  · simp (disch := omega) only [kx_up_self, kx_up_oth]
  · simp (disch := omega) only [kx_up_self, kx_up_oth]
  · simp (disch := omega) only [kx_up_row]; exact h1 i i0 i1
  · simp (disch := omega) only [kx_up_row]; exact h2 c c1
/-- a number cut to a lane -/
def ln_cut (l x : Int) : Int := if l = 0 then x.bmod 256 else if l = 1 then x.bmod 65536 else x
theorem ln_cut_in {l x : Int} (hx : kx_in x) : kx_in (ln_cut l x) := by
  obtain ⟨h0, h1⟩ := hx
  unfold ln_cut
  split
  · rw [Int.bmod_def]; constructor <;> split <;> omega
  · split
    · rw [Int.bmod_def]; constructor <;> split <;> omega
    · exact ⟨h0, h1⟩
theorem ln_24 (x : Int) : (x * 2 ^ (24 : Int).toNat).bmod 4294967296 / 2 ^ (24 : Int).toNat = x.bmod 256 := by
  have e : (2 : Int) ^ (24 : Int).toNat = 16777216 := by decide
  rw [e, Int.bmod_def, Int.bmod_def]
  split <;> split <;> omega
theorem ln_16 (x : Int) : (x * 2 ^ (16 : Int).toNat).bmod 4294967296 / 2 ^ (16 : Int).toNat = x.bmod 65536 := by
  have e : (2 : Int) ^ (16 : Int).toNat = 65536 := by decide
  rw [e, Int.bmod_def, Int.bmod_def]
  split <;> split <;> omega
theorem r_cutToLane {x : Int} (hR : kg_R L a) (hl : kx_in (μ a 1)) (t : Q (some (kI (ln_cut (μ a 1) x))) (kg L) μ) : kx_cx (ke (d + 1)) 36 [kR a, kI x] (kg L) μ Q := by
  refine ke_start (tb := kt_Row_cutToLane) (ls := [some (kR a), some (kI x)]) rfl rfl ?_
  obtain ⟨g0, g1, g2⟩ := hR
  unfold ln_cut at t
  refine ks_aload_n rfl rfl ?_
  refine ks_geti rfl rfl (by assumption) rfl (by (try simp only [kx_up_at, kx_row_at, up1_at, Nat.reduceEqDiff, Int.reduceEq, Int.reduceNeg, and_true, true_and, and_false, false_and, and_self, reduceIte, Nat.add_left_cancel_iff, Nat.add_eq_left, Nat.left_eq_add, Nat.reduceAdd, Int.add_left_inj, Int.add_right_inj]); rfl) ?_
  -- at 4: sw  st [None]
  refine ks_lsw rfl hl ?_
  simp only [kx_sw, Int.reduceAdd]
  refine kx_ifs (fun h => ?_) (fun h => ?_)
  · rw [if_pos h] at t
    refine ks_iload_n rfl rfl ?_
    refine ks_i2b rfl ?_
    refine ks_ireturn rfl ?_
    -- at 34: ret  st [None]
    exact t
  refine kx_ifs (fun h1 => ?_) (fun h1 => ?_)
  · rw [if_neg h, if_pos h1] at t
    refine ks_iload_n rfl rfl ?_
    refine ks_i2s rfl ?_
    refine ks_ireturn rfl ?_
    -- at 37: ret  st [None]
    exact t
  · rw [if_neg h, if_neg h1] at t
    refine ks_iload_n rfl rfl ?_
    refine ks_ireturn rfl ?_
    -- at 39: ret  st [None]
    exact t
theorem r_asLane {l x : Int} (hl : kx_in l) (hx : kx_in x) (t : Q (some (kI (ln_cut l x))) G μ) : kx_cx (ke (d + 1)) 122 [kI l, kI x] G μ Q := by
  refine ke_start (tb := kt_M_asLane) (ls := [some (kI l), some (kI x)]) rfl rfl ?_
  unfold ln_cut at t
  refine ks_iload_n rfl rfl ?_
  -- at 1: if ne -> 14 else 4 st [None]
  refine ks_if_ne rfl hl (fun h => ?_) (fun h => ?_)
  · rw [if_pos h] at t
    refine ks_iload_n rfl rfl ?_
    refine ks_bipush rfl ?_
    refine ks_ishl rfl (by omega) (by omega) ?_
    refine ks_bipush rfl ?_
    refine ks_ishr rfl (by omega) (by omega) ?_
    refine ks_goto rfl ?_
    refine ks_ireturn rfl ?_
    -- at 30: ret  st [None]
    rw [ln_24]
    exact t
  · rw [if_neg h] at t
    refine ks_iload_n rfl rfl ?_
    refine ks_iconst rfl ?_
    -- at 16: if ne -> 29 else 19 st ['1', None]
    refine ks_icmp_ne rfl hl ⟨by omega, by omega⟩ (fun h1 => ?_) (fun h1 => ?_)
    · rw [if_pos h1] at t
      refine ks_iload_n rfl rfl ?_
      refine ks_bipush rfl ?_
      refine ks_ishl rfl (by omega) (by omega) ?_
      refine ks_bipush rfl ?_
      refine ks_ishr rfl (by omega) (by omega) ?_
      refine ks_goto rfl ?_
      refine ks_ireturn rfl ?_
      -- at 30: ret  st [None]
      rw [ln_16]
      exact t
    · rw [if_neg h1] at t
      refine ks_iload_n rfl rfl ?_
      refine ks_ireturn rfl ?_
      -- at 30: ret  st [None]
      exact t
end CR
end
section
/-! rows and acts, class side -/
section CS
variable {d L : Nat} {G : kx_G} {μ : kx_M} {Q : Option kx_V → kx_G → kx_M → Prop} {a : Nat}
theorem r_put {i x : Int} (hR : kg_R L a) (hl : kx_in (μ a 1)) (h0 : 0 ≤ i) (h1 : i < 40) (t : Q (some (kI (ln_cut (μ a 1) x))) (kg L) (kx_up μ (a + 1) i (ln_cut (μ a 1) x))) : kx_cx (ke (d + 2)) 35 [kR a, kI i, kI x] (kg L) μ Q := by
  refine ke_start (tb := kt_Row_put) (ls := [some (kR a), some (kI i), some (kI x)]) rfl rfl ?_
  have hR0 := hR
  obtain ⟨g0, g1, g2⟩ := hR
  refine ks_aload_n rfl rfl ?_
  refine ks_getr (b := a + 1) rfl rfl (by assumption) (by assumption) (Nat.succ_ne_zero _) ?_
  refine ks_iload_n rfl rfl ?_
  refine ks_aload_n rfl rfl ?_
  refine ks_iload_n rfl rfl ?_
  refine ks_callv_2 rfl rfl (by assumption) (Nat.le_of_ble_eq_true rfl) ?_
  -- at 7: call Row_cutToLane st [None, 'a + 1']
  refine r_cutToLane hR0 hl ?_
  show kx_wx _ _ _ _ _ (_ :: _) _ _
  refine ks_iastore rfl (by assumption) (by omega) (by omega) ?_
  refine ks_aload_n rfl rfl ?_
  refine ks_getr (b := a + 1) rfl rfl (by assumption) (by assumption) (Nat.succ_ne_zero _) ?_
  refine ks_iload_n rfl rfl ?_
  refine ks_iaload rfl (by assumption) (by omega) (by omega) (by (try simp only [kx_up_at, kx_row_at, up1_at, Nat.reduceEqDiff, Int.reduceEq, Int.reduceNeg, and_true, true_and, and_false, false_and, and_self, reduceIte, Nat.add_left_cancel_iff, Nat.add_eq_left, Nat.left_eq_add, Nat.reduceAdd, Int.add_left_inj, Int.add_right_inj]); rfl) ?_
  refine ks_ireturn rfl ?_
  -- at 17: ret  st [None]
  exact t
theorem r_forgetAll (t : Q none (kg L) (kx_up μ 39 5 0)) : kx_cx (ke (d + 1)) 1 [kR 39] (kg L) μ Q := by
  refine ke_start (tb := kt_Acts_forgetAll) (ls := [some (kR 39)]) rfl rfl ?_
  refine ks_aload_n rfl rfl ?_
  refine ks_iconst rfl ?_
  refine ks_puti rfl rfl ?_
  refine ks_return rfl ?_
  -- at 5: ret  st []
  exact t
theorem r_keep {x y w v : Int} {p n : Int} (hp : μ 39 4 = p) (hn : μ 39 5 = n) (p0 : 0 ≤ p) (p1 : p < 24) (n0 : 0 ≤ n) (n1 : n ≤ 24) (t : Q none (kg L) (kx_up (kx_up (kx_up (kx_up (kx_up (kx_up μ 40 p x) 41 p y) 42 p w) 43 p v) 39 4 ((p + 1) % 24)) 39 5 (min (n + 1) 24))) : kx_cx (ke (d + 2)) 2 [kR 39, kI x, kI y, kI w, kI v] (kg L) μ Q := by
  refine ke_start (tb := kt_Acts_keep) (ls := [some (kR 39), some (kI x), some (kI y), some (kI w), some (kI v)]) rfl rfl ?_
  have hm : (p + 1).tmod 24 = (p + 1) % 24 := Int.tmod_eq_emod_of_nonneg (by omega)
  refine ks_aload_n rfl rfl ?_
  refine ks_getr (b := 40) rfl rfl rfl rfl (by decide) ?_
  refine ks_aload_n rfl rfl ?_
  refine ks_geti rfl rfl rfl rfl (by (try simp only [kx_up_at, kx_row_at, up1_at, Nat.reduceEqDiff, Int.reduceEq, Int.reduceNeg, and_true, true_and, and_false, false_and, and_self, reduceIte, Nat.add_left_cancel_iff, Nat.add_eq_left, Nat.left_eq_add, Nat.reduceAdd, Int.add_left_inj, Int.add_right_inj, hp, hn, hm]); rfl) ?_
  refine ks_iload_n rfl rfl ?_
  refine ks_iastore rfl rfl (by omega) (by omega) ?_
  refine ks_aload_n rfl rfl ?_
  refine ks_getr (b := 41) rfl rfl rfl rfl (by decide) ?_
  refine ks_aload_n rfl rfl ?_
  refine ks_geti rfl rfl rfl rfl (by (try simp only [kx_up_at, kx_row_at, up1_at, Nat.reduceEqDiff, Int.reduceEq, Int.reduceNeg, and_true, true_and, and_false, false_and, and_self, reduceIte, Nat.add_left_cancel_iff, Nat.add_eq_left, Nat.left_eq_add, Nat.reduceAdd, Int.add_left_inj, Int.add_right_inj, hp, hn, hm]); rfl) ?_
  refine ks_iload_n rfl rfl ?_
  refine ks_iastore rfl rfl (by omega) (by omega) ?_
  refine ks_aload_n rfl rfl ?_
  refine ks_getr (b := 42) rfl rfl rfl rfl (by decide) ?_
  refine ks_aload_n rfl rfl ?_
  refine ks_geti rfl rfl rfl rfl (by (try simp only [kx_up_at, kx_row_at, up1_at, Nat.reduceEqDiff, Int.reduceEq, Int.reduceNeg, and_true, true_and, and_false, false_and, and_self, reduceIte, Nat.add_left_cancel_iff, Nat.add_eq_left, Nat.left_eq_add, Nat.reduceAdd, Int.add_left_inj, Int.add_right_inj, hp, hn, hm]); rfl) ?_
  refine ks_iload_n rfl rfl ?_
  refine ks_iastore rfl rfl (by omega) (by omega) ?_
  refine ks_aload_n rfl rfl ?_
  refine ks_getr (b := 43) rfl rfl rfl rfl (by decide) ?_
  refine ks_aload_n rfl rfl ?_
  refine ks_geti rfl rfl rfl rfl (by (try simp only [kx_up_at, kx_row_at, up1_at, Nat.reduceEqDiff, Int.reduceEq, Int.reduceNeg, and_true, true_and, and_false, false_and, and_self, reduceIte, Nat.add_left_cancel_iff, Nat.add_eq_left, Nat.left_eq_add, Nat.reduceAdd, Int.add_left_inj, Int.add_right_inj, hp, hn, hm]); rfl) ?_
  refine ks_iload rfl rfl ?_
  refine ks_iastore rfl rfl (by omega) (by omega) ?_
  refine ks_aload_n rfl rfl ?_
  refine ks_aload_n rfl rfl ?_
  refine ks_geti rfl rfl rfl rfl (by (try simp only [kx_up_at, kx_row_at, up1_at, Nat.reduceEqDiff, Int.reduceEq, Int.reduceNeg, and_true, true_and, and_false, false_and, and_self, reduceIte, Nat.add_left_cancel_iff, Nat.add_eq_left, Nat.left_eq_add, Nat.reduceAdd, Int.add_left_inj, Int.add_right_inj, hp, hn, hm]); rfl) ?_
  refine ks_iconst rfl ?_
  refine ks_iadd rfl ?_
  refine ks_bipush rfl ?_
  refine ks_irem rfl ⟨by omega, by omega⟩ ⟨by omega, by omega⟩ (by omega) ?_
  refine ks_puti rfl rfl ?_
  refine ks_aload_n rfl rfl ?_
  refine ks_aload_n rfl rfl ?_
  refine ks_geti rfl rfl rfl rfl (by (try simp only [kx_up_at, kx_row_at, up1_at, Nat.reduceEqDiff, Int.reduceEq, Int.reduceNeg, and_true, true_and, and_false, false_and, and_self, reduceIte, Nat.add_left_cancel_iff, Nat.add_eq_left, Nat.left_eq_add, Nat.reduceAdd, Int.add_left_inj, Int.add_right_inj, hp, hn, hm]); rfl) ?_
  refine ks_iconst rfl ?_
  refine ks_iadd rfl ?_
  refine ks_bipush rfl ?_
  refine ks_calls_2 rfl (Nat.le_of_ble_eq_true rfl) ?_
  -- at 63: call Math_min st ['39']
  refine r_min ⟨by omega, by omega⟩ ⟨by omega, by omega⟩ ?_
  show kx_wx _ _ _ _ _ (_ :: _) _ _
  refine ks_puti rfl rfl ?_
  refine ks_return rfl ?_
  -- at 69: ret  st []
  rw [hm]
  exact t
end CS
end
section
/-! the reference notes its town -/
section MN
variable {d L : Nat} {G : kx_G} {μ : kx_M} {Q : Option kx_V → kx_G → kx_M → Prop} {a : Nat}
theorem l_note1 (t : ∀ μ', (∀ x : Int, 0 ≤ x → x < 1058 → μ' 85 x = μ 85 (x + 46)) → (∀ c, c ≠ 85 → μ' c = μ c) → kx_wx (ke d) kt_M_note Q 39 [some (kR 77), some (kI 1058)] [] (kg L) μ') : ∀ (r j : Nat) (μ1 : kx_M), j + r = 1058 → (∀ x : Int, 0 ≤ x → x < j → μ1 85 x = μ 85 (x + 46)) → (∀ x : Int, j ≤ x → μ1 85 x = μ 85 x) → (∀ c, c ≠ 85 → μ1 c = μ c) → kx_wx (ke d) kt_M_note Q 11 [some (kR 77), some (kI j)] [] (kg L) μ1 := by
  intro r
  induction r with
  | zero =>
    intro j μ1 hj h1 h2 h3
    rw [Nat.add_zero] at hj
    subst hj
    refine ks_iload_n rfl rfl ?_
    refine ks_sipush rfl ?_
    -- at 15: if ge -> 39 else 18 st ['1058', None]
    refine ks_icmp_ge rfl ⟨by omega, by omega⟩ ⟨by omega, by omega⟩ (fun h => absurd h (by omega)) (fun h => ?_)
    exact t μ1 h1 h3
  | succ r ih =>
    intro j μ1 hj h1 h2 h3
    refine ks_iload_n rfl rfl ?_
    refine ks_sipush rfl ?_
    -- at 15: if ge -> 39 else 18 st ['1058', None]
    refine ks_icmp_ge rfl ⟨by omega, by omega⟩ ⟨by omega, by omega⟩ (fun h => ?_) (fun h => absurd h (by omega))
    refine ks_aload_n rfl rfl ?_
    refine ks_getr (b := 85) rfl rfl rfl rfl (by decide) ?_
    refine ks_iload_n rfl rfl ?_
    refine ks_aload_n rfl rfl ?_
    refine ks_getr (b := 85) rfl rfl rfl rfl (by decide) ?_
    refine ks_iload_n rfl rfl ?_
    refine ks_bipush rfl ?_
    refine ks_iadd rfl ?_
    refine ks_iaload rfl rfl (by omega) (by omega) (by (try simp only [kx_up_at, kx_row_at, up1_at, Nat.reduceEqDiff, Int.reduceEq, Int.reduceNeg, and_true, true_and, and_false, false_and, and_self, reduceIte, Nat.add_left_cancel_iff, Nat.add_eq_left, Nat.left_eq_add, Nat.reduceAdd, Int.add_left_inj, Int.add_right_inj]); rfl) ?_
    refine ks_iastore rfl rfl (by omega) (by omega) ?_
    refine ks_iinc_1 rfl rfl ?_
    refine ks_goto rfl ?_
    -- at 11: stop  st []
    refine ih (j + 1) _ (by omega) (fun x x0 x1 => ?_) (fun x x0 => ?_) (fun c hc => ?_)
    · by_cases e : x = j
      · subst e; rw [kx_up_self, h2 _ (by omega)]
      · rw [kx_up_oth e]; exact h1 x x0 (by omega)
    · rw [kx_up_oth (by omega)]; exact h2 x (by omega)
    · rw [kx_up_row hc]; exact h3 c hc
theorem l_note2 {m : Int} (m0 : 0 ≤ m) (m1 : m < 24) (hm : μ 77 17 = m) (t : ∀ μ', (∀ k : Int, 0 ≤ k → k < 46 → μ' 85 (46 * m + k) = μ 81 k) → (∀ x : Int, x < 46 * m → μ' 85 x = μ 85 x) → μ' 77 17 = m + 1 → (∀ j, j ≠ 17 → μ' 77 j = μ 77 j) → (∀ c, c ≠ 85 → c ≠ 77 → μ' c = μ c) → Q none (kg L) μ') : ∀ (r j : Nat) (μ1 : kx_M), j + r = 46 → (∀ k : Int, 0 ≤ k → k < j → μ1 85 (46 * m + k) = μ 81 k) → (∀ x : Int, x < 46 * m → μ1 85 x = μ 85 x) → (∀ c, c ≠ 85 → μ1 c = μ c) → kx_wx (ke d) kt_M_note Q 51 [some (kR 77), some (kI j)] [] (kg L) μ1 := by
  intro r
  induction r with
  | zero =>
    intro j μ1 hj h1 h2 h3
    rw [Nat.add_zero] at hj
    subst hj
    have hm1 : μ1 77 17 = m := by rw [h3 77 (by omega)]; exact hm
    refine ks_iload_n rfl rfl ?_
    refine ks_bipush rfl ?_
    -- at 54: if ge -> 83 else 57 st ['46', None]
    refine ks_icmp_ge rfl ⟨by omega, by omega⟩ ⟨by omega, by omega⟩ (fun h => absurd h (by omega)) (fun h => ?_)
    refine ks_aload_n rfl rfl ?_
    refine ks_dupR rfl ?_
    refine ks_geti rfl rfl rfl rfl (by (try simp only [kx_up_at, kx_row_at, up1_at, Nat.reduceEqDiff, Int.reduceEq, Int.reduceNeg, and_true, true_and, and_false, false_and, and_self, reduceIte, Nat.add_left_cancel_iff, Nat.add_eq_left, Nat.left_eq_add, Nat.reduceAdd, Int.add_left_inj, Int.add_right_inj, hm1]); rfl) ?_
    refine ks_iconst rfl ?_
    refine ks_iadd rfl ?_
    refine ks_puti rfl rfl ?_
    refine ks_return rfl ?_
    -- at 93: ret  st []
    refine t _ (fun k k0 k1 => ?_) (fun x hx => ?_) ?_ (fun j hj => ?_) (fun c c0 c1 => ?_)
    · rw [kx_up_row (by omega)]; exact h1 k k0 k1
    · rw [kx_up_row (by omega)]; exact h2 x hx
    · rw [kx_up_self]
    · rw [kx_up_oth hj, h3 77 (by omega)]
    · rw [kx_up_row c1]; exact h3 c c0
  | succ r ih =>
    intro j μ1 hj h1 h2 h3
    have hm1 : μ1 77 17 = m := by rw [h3 77 (by omega)]; exact hm
    refine ks_iload_n rfl rfl ?_
    refine ks_bipush rfl ?_
    -- at 54: if ge -> 83 else 57 st ['46', None]
    refine ks_icmp_ge rfl ⟨by omega, by omega⟩ ⟨by omega, by omega⟩ (fun h => ?_) (fun h => absurd h (by omega))
    refine ks_aload_n rfl rfl ?_
    refine ks_getr (b := 85) rfl rfl rfl rfl (by decide) ?_
    refine ks_bipush rfl ?_
    refine ks_aload_n rfl rfl ?_
    refine ks_geti rfl rfl rfl rfl (by (try simp only [kx_up_at, kx_row_at, up1_at, Nat.reduceEqDiff, Int.reduceEq, Int.reduceNeg, and_true, true_and, and_false, false_and, and_self, reduceIte, Nat.add_left_cancel_iff, Nat.add_eq_left, Nat.left_eq_add, Nat.reduceAdd, Int.add_left_inj, Int.add_right_inj, hm1]); rfl) ?_
    refine ks_imul rfl ?_
    refine ks_iload_n rfl rfl ?_
    refine ks_iadd rfl ?_
    refine ks_aload_n rfl rfl ?_
    refine ks_getr (b := 81) rfl rfl rfl rfl (by decide) ?_
    refine ks_iload_n rfl rfl ?_
    refine ks_iaload rfl rfl (by omega) (by omega) (by (try simp only [kx_up_at, kx_row_at, up1_at, Nat.reduceEqDiff, Int.reduceEq, Int.reduceNeg, and_true, true_and, and_false, false_and, and_self, reduceIte, Nat.add_left_cancel_iff, Nat.add_eq_left, Nat.left_eq_add, Nat.reduceAdd, Int.add_left_inj, Int.add_right_inj, hm1]); rfl) ?_
    refine ks_iastore rfl rfl (by omega) (by omega) ?_
    refine ks_iinc_1 rfl rfl ?_
    refine ks_goto rfl ?_
    -- at 51: stop  st []
    refine ih (j + 1) _ (by omega) (fun x x0 x1 => ?_) (fun x x0 => ?_) (fun c hc => ?_)
    · by_cases e : x = j
      · subst e; rw [kx_up_self, h3 81 (by omega)]
      · rw [kx_up_oth (by omega)]; exact h1 x x0 (by omega)
    · rw [kx_up_oth (by omega)]; exact h2 x x0
    · rw [kx_up_row hc]; exact h3 c hc
/-- after a note: the newest is the town, those before are kept, the oldest of 24 is lost -/
theorem r_note {m : Int} (m0 : 0 ≤ m) (m1 : m ≤ 24) (hm : μ 77 17 = m) (t : ∀ μ' n, n = (if m = 24 then 23 else m) → (∀ k : Int, 0 ≤ k → k < 46 → μ' 85 (46 * n + k) = μ 81 k) → (∀ x : Int, 0 ≤ x → x < 46 * n → μ' 85 x = μ 85 (if m = 24 then x + 46 else x)) → μ' 77 17 = n + 1 → (∀ j, j ≠ 17 → μ' 77 j = μ 77 j) → (∀ c, c ≠ 85 → c ≠ 77 → μ' c = μ c) → Q none (kg L) μ') : kx_cx (ke (d + 1)) 142 [kR 77] (kg L) μ Q := by
  refine ke_start (tb := kt_M_note) (ls := [some (kR 77), none]) rfl rfl ?_
  refine ks_aload_n rfl rfl ?_
  refine ks_geti rfl rfl rfl rfl (by (try simp only [kx_up_at, kx_row_at, up1_at, Nat.reduceEqDiff, Int.reduceEq, Int.reduceNeg, and_true, true_and, and_false, false_and, and_self, reduceIte, Nat.add_left_cancel_iff, Nat.add_eq_left, Nat.left_eq_add, Nat.reduceAdd, Int.add_left_inj, Int.add_right_inj, hm]); rfl) ?_
  refine ks_bipush rfl ?_
  -- at 6: if ne -> 49 else 9 st ['24', None]
  refine ks_icmp_ne rfl ⟨by omega, by omega⟩ ⟨by omega, by omega⟩ (fun h => ?_) (fun h => ?_)
  · subst h
    refine ks_iconst rfl ?_
    refine ks_istore_n_1 rfl rfl ?_
    -- at 11: stop  st []
    refine l_note1 (μ := μ) (fun μ1 h1 h2 => ?_) 1058 0 μ (by omega) (fun x x0 x1 => absurd x1 (by omega)) (fun _ _ => rfl) (fun _ _ => rfl)
    have hm1 : μ1 77 17 = 24 := by rw [h2 77 (by omega)]; exact hm
    refine ks_aload_n rfl rfl ?_
    refine ks_dupR rfl ?_
    refine ks_geti rfl rfl rfl rfl (by (try simp only [kx_up_at, kx_row_at, up1_at, Nat.reduceEqDiff, Int.reduceEq, Int.reduceNeg, and_true, true_and, and_false, false_and, and_self, reduceIte, Nat.add_left_cancel_iff, Nat.add_eq_left, Nat.left_eq_add, Nat.reduceAdd, Int.add_left_inj, Int.add_right_inj, hm1]); rfl) ?_
    refine ks_iconst rfl ?_
    refine ks_isub rfl ?_
    refine ks_puti rfl rfl ?_
    refine ks_iconst rfl ?_
    refine ks_istore_n_1 rfl rfl ?_
    -- at 51: stop  st []
    refine l_note2 (μ := kx_up μ1 77 17 23) (m := 23) (by omega) (by omega) (kx_up_self _ _ _ _) (fun μ2 k1 k2 k3 k4 k5 => ?_) 46 0 _ (by omega) (fun x x0 x1 => absurd x1 (by omega)) (fun _ _ => rfl) (fun _ _ => rfl)
    refine t μ2 23 (by rw [if_pos rfl]) (fun k k0 kk => ?_) (fun x x0 x1 => ?_) k3 (fun j hj => ?_) (fun c c0 c1 => ?_)
    · rw [k1 k k0 kk, kx_up_row (by omega), h2 81 (by omega)]
    · rw [if_pos rfl, k2 x x1, kx_up_row (by omega), h1 x x0 (by omega)]
    · rw [k4 j hj, kx_up_oth hj, h2 77 (by omega)]
    · rw [k5 c c0 c1, kx_up_row c1, h2 c c0]
  · refine ks_iconst rfl ?_
    refine ks_istore_n_1 rfl rfl ?_
    -- at 51: stop  st []
    refine l_note2 (μ := μ) (m := m) m0 (by omega) hm (fun μ2 k1 k2 k3 k4 k5 => ?_) 46 0 _ (by omega) (fun x x0 x1 => absurd x1 (by omega)) (fun _ _ => rfl) (fun _ _ => rfl)
    refine t μ2 m (by rw [if_neg h]) k1 (fun x x0 x1 => ?_) k3 k4 k5
    rw [if_neg h]; exact k2 x x1
end MN
end
section
/-! the reference takes an act back -/
section MU
variable {d L : Nat} {G : kx_G} {μ : kx_M} {Q : Option kx_V → kx_G → kx_M → Prop} {a : Nat}
theorem l_Mundo {m : Int} (m0 : 0 ≤ m) (m1 : m < 24) (hm : μ 77 17 = m) (t : ∀ μ', (∀ k : Int, 0 ≤ k → k < 46 → μ' 81 k = μ 85 (46 * m + k)) → (∀ c, c ≠ 81 → μ' c = μ c) → Q (some (kI m)) (kg L) μ') : ∀ (r j : Nat) (μ1 : kx_M), j + r = 46 → (∀ k : Int, 0 ≤ k → k < j → μ1 81 k = μ 85 (46 * m + k)) → (∀ c, c ≠ 81 → μ1 c = μ c) → kx_wx (ke d) kt_M_undo Q 22 [some (kR 77), some (kI j)] [] (kg L) μ1 := by
  intro r
  induction r with
  | zero =>
    intro j μ1 hj h1 h3
    rw [Nat.add_zero] at hj
    subst hj
    have hm1 : μ1 77 17 = m := by rw [h3 77 (by omega)]; exact hm
    refine ks_iload_n rfl rfl ?_
    refine ks_bipush rfl ?_
    -- at 25: if ge -> 54 else 28 st ['46', None]
    refine ks_icmp_ge rfl ⟨by omega, by omega⟩ ⟨by omega, by omega⟩ (fun h => absurd h (by omega)) (fun h => ?_)
    refine ks_aload_n rfl rfl ?_
    refine ks_geti rfl rfl rfl rfl (by (try simp only [kx_up_at, kx_row_at, up1_at, Nat.reduceEqDiff, Int.reduceEq, Int.reduceNeg, and_true, true_and, and_false, false_and, and_self, reduceIte, Nat.add_left_cancel_iff, Nat.add_eq_left, Nat.left_eq_add, Nat.reduceAdd, Int.add_left_inj, Int.add_right_inj, hm1]); rfl) ?_
    refine ks_ireturn rfl ?_
    -- at 58: ret  st [None]
    exact t _ h1 h3
  | succ r ih =>
    intro j μ1 hj h1 h3
    have hm1 : μ1 77 17 = m := by rw [h3 77 (by omega)]; exact hm
    refine ks_iload_n rfl rfl ?_
    refine ks_bipush rfl ?_
    -- at 25: if ge -> 54 else 28 st ['46', None]
    refine ks_icmp_ge rfl ⟨by omega, by omega⟩ ⟨by omega, by omega⟩ (fun h => ?_) (fun h => absurd h (by omega))
    refine ks_aload_n rfl rfl ?_
    refine ks_getr (b := 81) rfl rfl rfl rfl (by decide) ?_
    refine ks_iload_n rfl rfl ?_
    refine ks_aload_n rfl rfl ?_
    refine ks_getr (b := 85) rfl rfl rfl rfl (by decide) ?_
    refine ks_bipush rfl ?_
    refine ks_aload_n rfl rfl ?_
    refine ks_geti rfl rfl rfl rfl (by (try simp only [kx_up_at, kx_row_at, up1_at, Nat.reduceEqDiff, Int.reduceEq, Int.reduceNeg, and_true, true_and, and_false, false_and, and_self, reduceIte, Nat.add_left_cancel_iff, Nat.add_eq_left, Nat.left_eq_add, Nat.reduceAdd, Int.add_left_inj, Int.add_right_inj, hm1]); rfl) ?_
    refine ks_imul rfl ?_
    refine ks_iload_n rfl rfl ?_
    refine ks_iadd rfl ?_
    refine ks_iaload rfl rfl (by omega) (by omega) (by (try simp only [kx_up_at, kx_row_at, up1_at, Nat.reduceEqDiff, Int.reduceEq, Int.reduceNeg, and_true, true_and, and_false, false_and, and_self, reduceIte, Nat.add_left_cancel_iff, Nat.add_eq_left, Nat.left_eq_add, Nat.reduceAdd, Int.add_left_inj, Int.add_right_inj, hm1]); rfl) ?_
    refine ks_iastore rfl rfl (by omega) (by omega) ?_
    refine ks_iinc_1 rfl rfl ?_
    refine ks_goto rfl ?_
    -- at 22: stop  st []
    refine ih (j + 1) _ (by omega) (fun x x0 x1 => ?_) (fun c hc => ?_)
    · by_cases e : x = j
      · subst e; rw [kx_up_self, h3 85 (by omega)]
      · rw [kx_up_oth (by omega)]; exact h1 x x0 (by omega)
    · rw [kx_up_row hc]; exact h3 c hc
theorem r_Mundo {m : Int} (m0 : 0 ≤ m) (m1 : m ≤ 24) (hm : μ 77 17 = m) (t0 : m = 0 → Q (some (kI (-1000002))) (kg L) μ) (t : ¬ m = 0 → ∀ μ', (∀ k : Int, 0 ≤ k → k < 46 → μ' 81 k = μ 85 (46 * (m - 1) + k)) → μ' 77 17 = m - 1 → (∀ j, j ≠ 17 → μ' 77 j = μ 77 j) → (∀ c, c ≠ 81 → c ≠ 77 → μ' c = μ c) → Q (some (kI (m - 1))) (kg L) μ') : kx_cx (ke (d + 1)) 149 [kR 77] (kg L) μ Q := by
  refine ke_start (tb := kt_M_undo) (ls := [some (kR 77), none]) rfl rfl ?_
  refine ks_aload_n rfl rfl ?_
  refine ks_geti rfl rfl rfl rfl (by (try simp only [kx_up_at, kx_row_at, up1_at, Nat.reduceEqDiff, Int.reduceEq, Int.reduceNeg, and_true, true_and, and_false, false_and, and_self, reduceIte, Nat.add_left_cancel_iff, Nat.add_eq_left, Nat.left_eq_add, Nat.reduceAdd, Int.add_left_inj, Int.add_right_inj, hm]); rfl) ?_
  -- at 4: if ne -> 10 else 7 st [None]
  refine ks_if_ne rfl ⟨by omega, by omega⟩ (fun h => ?_) (fun h => ?_)
  · refine ks_ldc rfl ?_
    refine ks_ireturn rfl ?_
    -- at 9: ret  st ['-1000002']
    exact t0 h
  · refine ks_aload_n rfl rfl ?_
    refine ks_dupR rfl ?_
    refine ks_geti rfl rfl rfl rfl (by (try simp only [kx_up_at, kx_row_at, up1_at, Nat.reduceEqDiff, Int.reduceEq, Int.reduceNeg, and_true, true_and, and_false, false_and, and_self, reduceIte, Nat.add_left_cancel_iff, Nat.add_eq_left, Nat.left_eq_add, Nat.reduceAdd, Int.add_left_inj, Int.add_right_inj, hm]); rfl) ?_
    refine ks_iconst rfl ?_
    refine ks_isub rfl ?_
    refine ks_puti rfl rfl ?_
    refine ks_iconst rfl ?_
    refine ks_istore_n_1 rfl rfl ?_
    -- at 22: stop  st []
    refine l_Mundo (μ := kx_up μ 77 17 (m - 1)) (m := m - 1) (by omega) (by omega) (kx_up_self _ _ _ _) (fun μ2 k1 k2 => ?_) 46 0 _ (by omega) (fun x x0 x1 => absurd x1 (by omega)) (fun _ _ => rfl)
    refine t h μ2 (fun k k0 kk => ?_) ?_ (fun j hj => ?_) (fun c c0 c1 => ?_)
    · rw [k1 k k0 kk, kx_up_row (by omega)]
    · rw [k2 77 (by omega), kx_up_self]
    · rw [k2 77 (by omega), kx_up_oth hj]
    · rw [k2 c c0, kx_up_row c1]
end MU
end
section
/-! the reference's rows -/
section MR
variable {d L : Nat} {G : kx_G} {μ : kx_M} {Q : Option kx_V → kx_G → kx_M → Prop} {a : Nat}
theorem r_Mdrop {r : Int} (hr : kx_in r) (hb : ∀ i, 0 ≤ i → i < 8 → -1 ≤ μ 79 i ∧ μ 79 i ≤ 40) (t0 : ¬ (0 ≤ r ∧ r ≤ 7) → Q (some (kI (-1000001))) (kg L) μ) (t1 : 0 ≤ r → r ≤ 7 → μ 79 r = -1 → Q (some (kI (-1000011))) (kg L) (kx_up μ 77 3 1)) (t2 : 0 ≤ r → r ≤ 7 → 0 ≤ μ 79 r → Q (some (kI (μ 79 r))) (kg L) (kx_up (kx_up μ 79 r (-1)) 77 3 0)) : kx_cx (ke (d + 3)) 125 [kR 77, kI r] (kg L) μ Q := by
  refine ke_start (tb := kt_M_drop) (ls := [some (kR 77), some (kI r), none]) rfl rfl ?_
  refine ks_iload_n rfl rfl ?_
  refine ks_calls_1 rfl (Nat.le_of_ble_eq_true rfl) ?_
  -- at 1: call M_isRow st []
  refine r_MisRow hr (fun h => ?_) (fun h => ?_)
  · show kx_wx _ _ _ _ _ (_ :: _) _ _
    have b := hb r h.1 (by omega)
    refine ks_if_ne_1 rfl ?_
    refine ks_aload_n rfl rfl ?_
    refine ks_getr (b := 79) rfl rfl rfl rfl (by decide) ?_
    refine ks_iload_n rfl rfl ?_
    refine ks_iaload rfl rfl (by omega) (by omega) (by (try simp only [kx_up_at, kx_row_at, up1_at, Nat.reduceEqDiff, Int.reduceEq, Int.reduceNeg, and_true, true_and, and_false, false_and, and_self, reduceIte, Nat.add_left_cancel_iff, Nat.add_eq_left, Nat.left_eq_add, Nat.reduceAdd, Int.add_left_inj, Int.add_right_inj]); rfl) ?_
    -- at 16: if ge -> 25 else 19 st [None]
    refine ks_if_ge rfl ⟨by omega, by omega⟩ (fun h1 => ?_) (fun h1 => ?_)
    · refine ks_aload_n rfl rfl ?_
      refine ks_iconst rfl ?_
      refine ks_callv_2 rfl rfl rfl (Nat.le_of_ble_eq_true rfl) ?_
      -- at 21: call M_find st []
      refine r_find ?_
      show kx_wx _ _ _ _ _ (_ :: _) _ _
      refine ks_ireturn rfl ?_
      -- at 24: ret  st [None]
      exact t1 h.1 h.2 (by omega)
    · refine ks_aload_n rfl rfl ?_
      refine ks_getr (b := 79) rfl rfl rfl rfl (by decide) ?_
      refine ks_iload_n rfl rfl ?_
      refine ks_iaload rfl rfl (by omega) (by omega) (by (try simp only [kx_up_at, kx_row_at, up1_at, Nat.reduceEqDiff, Int.reduceEq, Int.reduceNeg, and_true, true_and, and_false, false_and, and_self, reduceIte, Nat.add_left_cancel_iff, Nat.add_eq_left, Nat.left_eq_add, Nat.reduceAdd, Int.add_left_inj, Int.add_right_inj]); rfl) ?_
      refine ks_istore_n_2 rfl rfl ?_
      refine ks_aload_n rfl rfl ?_
      refine ks_getr (b := 79) rfl rfl rfl rfl (by decide) ?_
      refine ks_iload_n rfl rfl ?_
      refine ks_iconst rfl ?_
      refine ks_iastore rfl rfl (by omega) (by omega) ?_
      refine ks_aload_n rfl rfl ?_
      refine ks_iload_n rfl rfl ?_
      refine ks_callv_2 rfl rfl rfl (Nat.le_of_ble_eq_true rfl) ?_
      -- at 41: call M_well st []
      refine r_well ?_
      show kx_wx _ _ _ _ _ (_ :: _) _ _
      refine ks_ireturn rfl ?_
      -- at 44: ret  st [None]
      exact t2 h.1 h.2 (by omega)
  · show kx_wx _ _ _ _ _ (_ :: _) _ _
    refine ks_if_ne_0 rfl ?_
    refine ks_ldc rfl ?_
    refine ks_ireturn rfl ?_
    -- at 9: ret  st ['-1000001']
    exact t0 h
theorem r_Mset {r i x : Int} (hr : kx_in r) (hi : kx_in i) (hx : kx_in x) (hl : ∀ i, 0 ≤ i → i < 8 → 0 ≤ μ 78 i ∧ μ 78 i ≤ 2) (hb : ∀ i, 0 ≤ i → i < 8 → -1 ≤ μ 79 i ∧ μ 79 i ≤ 40) (t0 : ¬ (0 ≤ r ∧ r ≤ 7) → Q (some (kI (-1000001))) (kg L) μ) (t1 : 0 ≤ r → r ≤ 7 → μ 79 r = -1 → Q (some (kI (-1000011))) (kg L) (kx_up μ 77 3 1)) (t2 : 0 ≤ r → r ≤ 7 → 0 ≤ μ 79 r → ¬ (0 ≤ i ∧ i < μ 79 r) → Q (some (kI (-1000012))) (kg L) (kx_up μ 77 3 2)) (t3 : 0 ≤ r → r ≤ 7 → 0 ≤ i → i < μ 79 r → Q (some (kI (ln_cut (μ 78 r) x))) (kg L) (kx_up (kx_up μ 80 (40 * r + i) (ln_cut (μ 78 r) x)) 77 3 0)) : kx_cx (ke (d + 3)) 123 [kR 77, kI r, kI i, kI x] (kg L) μ Q := by
  refine ke_start (tb := kt_M_set) (ls := [some (kR 77), some (kI r), some (kI i), some (kI x)]) rfl rfl ?_
  obtain ⟨_, _⟩ := hi
  refine ks_iload_n rfl rfl ?_
  refine ks_calls_1 rfl (Nat.le_of_ble_eq_true rfl) ?_
  -- at 1: call M_isRow st []
  refine r_MisRow hr (fun h => ?_) (fun h => ?_)
  · show kx_wx _ _ _ _ _ (_ :: _) _ _
    have b := hb r h.1 (by omega)
    have bl := hl r h.1 (by omega)
    refine ks_if_ne_1 rfl ?_
    refine ks_aload_n rfl rfl ?_
    refine ks_getr (b := 79) rfl rfl rfl rfl (by decide) ?_
    refine ks_iload_n rfl rfl ?_
    refine ks_iaload rfl rfl (by omega) (by omega) (by (try simp only [kx_up_at, kx_row_at, up1_at, Nat.reduceEqDiff, Int.reduceEq, Int.reduceNeg, and_true, true_and, and_false, false_and, and_self, reduceIte, Nat.add_left_cancel_iff, Nat.add_eq_left, Nat.left_eq_add, Nat.reduceAdd, Int.add_left_inj, Int.add_right_inj]); rfl) ?_
    -- at 16: if ge -> 25 else 19 st [None]
    refine ks_if_ge rfl ⟨by omega, by omega⟩ (fun h1 => ?_) (fun h1 => ?_)
    · refine ks_aload_n rfl rfl ?_
      refine ks_iconst rfl ?_
      refine ks_callv_2 rfl rfl rfl (Nat.le_of_ble_eq_true rfl) ?_
      -- at 21: call M_find st []
      refine r_find ?_
      show kx_wx _ _ _ _ _ (_ :: _) _ _
      refine ks_ireturn rfl ?_
      -- at 24: ret  st [None]
      exact t1 h.1 h.2 (by omega)
    · refine ks_iload_n rfl rfl ?_
      refine ks_i2l rfl ⟨by omega, by omega⟩ ?_
      refine ks_lconst rfl ?_
      refine ks_aload_n rfl rfl ?_
      refine ks_getr (b := 79) rfl rfl rfl rfl (by decide) ?_
      refine ks_iload_n rfl rfl ?_
      refine ks_iaload rfl rfl (by omega) (by omega) (by (try simp only [kx_up_at, kx_row_at, up1_at, Nat.reduceEqDiff, Int.reduceEq, Int.reduceNeg, and_true, true_and, and_false, false_and, and_self, reduceIte, Nat.add_left_cancel_iff, Nat.add_eq_left, Nat.left_eq_add, Nat.reduceAdd, Int.add_left_inj, Int.add_right_inj]); rfl) ?_
      refine ks_iconst rfl ?_
      refine ks_isub rfl ?_
      refine ks_i2l rfl ⟨by omega, by omega⟩ ?_
      refine ks_calls_3 rfl (Nat.le_of_ble_eq_true rfl) ?_
      -- at 37: call M_in st []
      refine r_in ⟨by omega, by omega⟩ ⟨by omega, by omega⟩ ⟨by omega, by omega⟩ (fun h2 => ?_) (fun h2 => ?_)
      · show kx_wx _ _ _ _ _ (_ :: _) _ _
        refine ks_if_ne_1 rfl ?_
        refine ks_aload_n rfl rfl ?_
        refine ks_getr (b := 80) rfl rfl rfl rfl (by decide) ?_
        refine ks_bipush rfl ?_
        refine ks_iload_n rfl rfl ?_
        refine ks_imul rfl ?_
        refine ks_iload_n rfl rfl ?_
        refine ks_iadd rfl ?_
        refine ks_aload_n rfl rfl ?_
        refine ks_getr (b := 78) rfl rfl rfl rfl (by decide) ?_
        refine ks_iload_n rfl rfl ?_
        refine ks_iaload rfl rfl (by omega) (by omega) (by (try simp only [kx_up_at, kx_row_at, up1_at, Nat.reduceEqDiff, Int.reduceEq, Int.reduceNeg, and_true, true_and, and_false, false_and, and_self, reduceIte, Nat.add_left_cancel_iff, Nat.add_eq_left, Nat.left_eq_add, Nat.reduceAdd, Int.add_left_inj, Int.add_right_inj]); rfl) ?_
        refine ks_iload_n rfl rfl ?_
        refine ks_calls_2 rfl (Nat.le_of_ble_eq_true rfl) ?_
        -- at 66: call M_asLane st [None, '80']
        refine r_asLane ⟨by omega, by omega⟩ hx ?_
        show kx_wx _ _ _ _ _ (_ :: _) _ _
        refine ks_iastore rfl rfl (by omega) (by omega) ?_
        refine ks_aload_n rfl rfl ?_
        refine ks_aload_n rfl rfl ?_
        refine ks_getr (b := 80) rfl rfl rfl rfl (by decide) ?_
        refine ks_bipush rfl ?_
        refine ks_iload_n rfl rfl ?_
        refine ks_imul rfl ?_
        refine ks_iload_n rfl rfl ?_
        refine ks_iadd rfl ?_
        refine ks_iaload rfl rfl (by omega) (by omega) (by (try simp only [kx_up_at, kx_row_at, up1_at, Nat.reduceEqDiff, Int.reduceEq, Int.reduceNeg, and_true, true_and, and_false, false_and, and_self, reduceIte, Nat.add_left_cancel_iff, Nat.add_eq_left, Nat.left_eq_add, Nat.reduceAdd, Int.add_left_inj, Int.add_right_inj]); rfl) ?_
        refine ks_callv_2 rfl rfl rfl (Nat.le_of_ble_eq_true rfl) ?_
        -- at 82: call M_well st []
        refine r_well ?_
        show kx_wx _ _ _ _ _ (_ :: _) _ _
        refine ks_ireturn rfl ?_
        -- at 85: ret  st [None]
        exact t3 h.1 h.2 h2.1 (by omega)
      · show kx_wx _ _ _ _ _ (_ :: _) _ _
        refine ks_if_ne_0 rfl ?_
        refine ks_aload_n rfl rfl ?_
        refine ks_iconst rfl ?_
        refine ks_callv_2 rfl rfl rfl (Nat.le_of_ble_eq_true rfl) ?_
        -- at 45: call M_find st []
        refine r_find ?_
        show kx_wx _ _ _ _ _ (_ :: _) _ _
        refine ks_ireturn rfl ?_
        -- at 48: ret  st [None]
        exact t2 h.1 h.2 (by omega) (by omega)
  · show kx_wx _ _ _ _ _ (_ :: _) _ _
    refine ks_if_ne_0 rfl ?_
    refine ks_ldc rfl ?_
    refine ks_ireturn rfl ?_
    -- at 9: ret  st ['-1000001']
    exact t0 h
end MR
end
section
/-! the reference lays a row -/
section MS
variable {d L : Nat} {G : kx_G} {μ : kx_M} {Q : Option kx_V → kx_G → kx_M → Prop} {a : Nat}
theorem l_Mrow {r l n : Int} (r0 : 0 ≤ r) (r1 : r ≤ 7) (t : ∀ μ', (∀ i : Int, 0 ≤ i → i < 40 → μ' 80 (40 * r + i) = 0) → (∀ x : Int, x < 40 * r ∨ 40 * r + 40 ≤ x → μ' 80 x = μ 80 x) → (∀ c, c ≠ 80 → μ' c = μ c) → kx_wx (ke d) kt_M_row Q 81 [some (kR 77), some (kI r), some (kI l), some (kI n), some (kI 40)] [] (kg L) μ') : ∀ (q j : Nat) (μ1 : kx_M), j + q = 40 → (∀ i : Int, 0 ≤ i → i < j → μ1 80 (40 * r + i) = 0) → (∀ x : Int, x < 40 * r ∨ 40 * r + 40 ≤ x → μ1 80 x = μ 80 x) → (∀ c, c ≠ 80 → μ1 c = μ c) → kx_wx (ke d) kt_M_row Q 55 [some (kR 77), some (kI r), some (kI l), some (kI n), some (kI j)] [] (kg L) μ1 := by
  intro q
  induction q with
  | zero =>
    intro j μ1 hj h1 h2 h3
    rw [Nat.add_zero] at hj
    subst hj
    refine ks_iload rfl rfl ?_
    refine ks_bipush rfl ?_
    -- at 59: if ge -> 81 else 62 st ['40', None]
    refine ks_icmp_ge rfl ⟨by omega, by omega⟩ ⟨by omega, by omega⟩ (fun h => absurd h (by omega)) (fun h => ?_)
    exact t _ h1 h2 h3
  | succ q ih =>
    intro j μ1 hj h1 h2 h3
    refine ks_iload rfl rfl ?_
    refine ks_bipush rfl ?_
    -- at 59: if ge -> 81 else 62 st ['40', None]
    refine ks_icmp_ge rfl ⟨by omega, by omega⟩ ⟨by omega, by omega⟩ (fun h => ?_) (fun h => absurd h (by omega))
    refine ks_aload_n rfl rfl ?_
    refine ks_getr (b := 80) rfl rfl rfl rfl (by decide) ?_
    refine ks_bipush rfl ?_
    refine ks_iload_n rfl rfl ?_
    refine ks_imul rfl ?_
    refine ks_iload rfl rfl ?_
    refine ks_iadd rfl ?_
    refine ks_iconst rfl ?_
    refine ks_iastore rfl rfl (by omega) (by omega) ?_
    refine ks_iinc_4 rfl rfl ?_
    refine ks_goto rfl ?_
    -- at 55: stop  st []
    refine ih (j + 1) _ (by omega) (fun x x0 x1 => ?_) (fun x hx => ?_) (fun c hc => ?_)
    · by_cases e : x = j
      · subst e; rw [kx_up_self]
      · rw [kx_up_oth (by omega)]; exact h1 x x0 (by omega)
    · rw [kx_up_oth (by omega)]; exact h2 x hx
    · rw [kx_up_row hc]; exact h3 c hc
theorem r_Mrow {r l n : Int} (hr : kx_in r) (hl : kx_in l) (hn : kx_in n) (t0 : ¬ ((0 ≤ r ∧ r ≤ 7) ∧ (0 ≤ l ∧ l ≤ 2) ∧ n ≤ 40) → Q (some (kI (-1000001))) (kg L) μ) (t1 : (0 ≤ r ∧ r ≤ 7) → (0 ≤ l ∧ l ≤ 2) → n < 0 → Q (some (kI (-1000014))) (kg L) (kx_up μ 77 3 4)) (t2 : (0 ≤ r ∧ r ≤ 7) → (0 ≤ l ∧ l ≤ 2) → 0 ≤ n → n ≤ 40 → ∀ μ', (∀ i : Int, 0 ≤ i → i < 40 → μ' 80 (40 * r + i) = 0) → (∀ x : Int, x < 40 * r ∨ 40 * r + 40 ≤ x → μ' 80 x = μ 80 x) → μ' 78 = up1 (μ 78) r l → μ' 79 = up1 (μ 79) r n → μ' 77 = up1 (μ 77) 3 0 → (∀ c, c < 77 ∨ 80 < c → μ' c = μ c) → Q (some (kI n)) (kg L) μ') : kx_cx (ke (d + 3)) 121 [kR 77, kI r, kI l, kI n] (kg L) μ Q := by
  refine ke_start (tb := kt_M_row) (ls := [some (kR 77), some (kI r), some (kI l), some (kI n), none]) rfl rfl ?_
  obtain ⟨_, _⟩ := hl
  have bad : ¬ ((0 ≤ r ∧ r ≤ 7) ∧ (0 ≤ l ∧ l ≤ 2) ∧ n ≤ 40) → kx_wx (ke (d + 2)) kt_M_row Q 25 [some (kR 77), some (kI r), some (kI l), some (kI n), none] [] (kg L) μ := by
    intro h
    refine ks_ldc rfl ?_
    refine ks_ireturn rfl ?_
    -- at 27: ret  st ['-1000001']
    exact t0 h
  refine ks_iload_n rfl rfl ?_
  refine ks_calls_1 rfl (Nat.le_of_ble_eq_true rfl) ?_
  -- at 1: call M_isRow st []
  refine r_MisRow hr (fun h => ?_) (fun h => ?_)
  · show kx_wx _ _ _ _ _ (_ :: _) _ _
    refine ks_if_eq_1 rfl ?_
    refine ks_iload_n rfl rfl ?_
    refine ks_i2l rfl ⟨by omega, by omega⟩ ?_
    refine ks_lconst rfl ?_
    refine ks_ldc2_w rfl ?_
    refine ks_calls_3 rfl (Nat.le_of_ble_eq_true rfl) ?_
    -- at 13: call M_in st []
    refine r_in ⟨by omega, by omega⟩ ⟨by omega, by omega⟩ ⟨by omega, by omega⟩ (fun h2 => ?_) (fun h2 => ?_)
    · show kx_wx _ _ _ _ _ (_ :: _) _ _
      refine ks_if_eq_1 rfl ?_
      refine ks_iload_n rfl rfl ?_
      refine ks_bipush rfl ?_
      -- at 22: if le -> 28 else 25 st ['40', None]
      refine ks_icmp_le rfl hn ⟨by omega, by omega⟩ (fun h3 => ?_) (fun h3 => ?_)
      · exact bad (by omega)
      · refine ks_iload_n rfl rfl ?_
        -- at 29: if ge -> 38 else 32 st [None]
        refine ks_if_ge rfl hn (fun h4 => ?_) (fun h4 => ?_)
        · refine ks_aload_n rfl rfl ?_
          refine ks_iconst rfl ?_
          refine ks_callv_2 rfl rfl rfl (Nat.le_of_ble_eq_true rfl) ?_
          -- at 34: call M_find st []
          refine r_find ?_
          show kx_wx _ _ _ _ _ (_ :: _) _ _
          refine ks_ireturn rfl ?_
          -- at 37: ret  st [None]
          exact t1 h h2 h4
        · refine ks_aload_n rfl rfl ?_
          refine ks_getr (b := 78) rfl rfl rfl rfl (by decide) ?_
          refine ks_iload_n rfl rfl ?_
          refine ks_iload_n rfl rfl ?_
          refine ks_iastore rfl rfl (by omega) (by omega) ?_
          refine ks_aload_n rfl rfl ?_
          refine ks_getr (b := 79) rfl rfl rfl rfl (by decide) ?_
          refine ks_iload_n rfl rfl ?_
          refine ks_iload_n rfl rfl ?_
          refine ks_iastore rfl rfl (by omega) (by omega) ?_
          refine ks_iconst rfl ?_
          refine ks_istore_4 rfl rfl ?_
          -- at 55: stop  st []
          refine l_Mrow (μ := kx_up (kx_up μ 78 r l) 79 r n) h.1 h.2 (fun μ1 k1 k2 k3 => ?_) 40 0 _ (by omega) (fun x x0 x1 => absurd x1 (by omega)) (fun _ _ => rfl) (fun _ _ => rfl)
          refine ks_aload_n rfl rfl ?_
          refine ks_iload_n rfl rfl ?_
          refine ks_callv_2 rfl rfl rfl (Nat.le_of_ble_eq_true rfl) ?_
          -- at 83: call M_well st []
          refine r_well ?_
          show kx_wx _ _ _ _ _ (_ :: _) _ _
          refine ks_ireturn rfl ?_
          -- at 86: ret  st [None]
          refine t2 h h2 (by omega) (by omega) _ (fun i i0 i1 => ?_) (fun x hx => ?_) ?_ ?_ ?_ (fun c hc => ?_)
          · rw [kx_up_row (by omega)]; exact k1 i i0 i1
          · rw [kx_up_row (by omega), k2 x hx, kx_up_row (by omega), kx_up_row (by omega)]
          · rw [kx_up_row (by omega), k3 78 (by omega), kx_up_row (by omega), kx_up_up1, kx_row_self]
          · rw [kx_up_row (by omega), k3 79 (by omega), kx_up_up1, kx_row_self, kx_up_row (by omega)]
          · rw [kx_up_up1, kx_row_self, k3 77 (by omega), kx_up_row (by omega), kx_up_row (by omega)]
          · rw [kx_up_row (by omega), k3 c (by omega), kx_up_row (by omega), kx_up_row (by omega)]
    · show kx_wx _ _ _ _ _ (_ :: _) _ _
      refine ks_if_eq_0 rfl ?_
      exact bad (fun q => h2 q.2.1)
  · show kx_wx _ _ _ _ _ (_ :: _) _ _
    refine ks_if_eq_0 rfl ?_
    exact bad (fun q => h q.1)
end MS
end
section
/-! the class's rows -/
section XR
variable {d L : Nat} {G : kx_G} {μ : kx_M} {Q : Option kx_V → kx_G → kx_M → Prop} {a : Nat}
theorem r_Xdrop {r : Int} (hr : kx_in r) (hb : ∀ i : Nat, i < 8 → -1 ≤ μ (3 + 2 * i) 2 ∧ μ (3 + 2 * i) 2 ≤ 40) (t0 : ¬ (0 ≤ r ∧ r ≤ 7) → Q (some (kI (-1000001))) (kg L) μ) (t1 : 0 ≤ r → r ≤ 7 → μ (3 + 2 * r.toNat) 2 = -1 → Q (some (kI (-1000011))) (kg L) (kx_up μ 1 10 1)) (t2 : 0 ≤ r → r ≤ 7 → 0 ≤ μ (3 + 2 * r.toNat) 2 → Q (some (kI (μ (3 + 2 * r.toNat) 2))) (kg L) (kx_up (kx_up μ (3 + 2 * r.toNat) 2 (-1)) 1 10 0)) : kx_cx (ke (d + 3)) 72 [kR 1, kI r] (kg L) μ Q := by
  refine ke_start (tb := kt_X_drop) (ls := [some (kR 1), some (kI r)]) rfl rfl ?_
  refine ks_iload_n rfl rfl ?_
  refine ks_calls_1 rfl (Nat.le_of_ble_eq_true rfl) ?_
  -- at 1: call X_isRow st []
  refine r_isRow hr (fun h => ?_) (fun h => ?_)
  · show kx_wx _ _ _ _ _ (_ :: _) _ _
    have b := hb r.toNat (by omega)
    obtain ⟨a1, a2⟩ := kg_rows L (i := r) h.1 (by omega)
    refine ks_if_ne_1 rfl ?_
    generalize hw : 3 + 2 * r.toNat = w at *
    have w0 : w ≠ 1 := by omega
    have a3 := a2.1
    refine ks_aload_n rfl rfl ?_
    refine ks_getr (b := 2) rfl rfl rfl rfl (by decide) ?_
    refine ks_iload_n rfl rfl ?_
    refine ks_aaload (b := w) rfl rfl (Or.inl rfl) (by omega) (by omega) a1 (by omega) ?_
    refine ks_callv_1 rfl rfl (by assumption) (Nat.le_of_ble_eq_true rfl) ?_
    -- at 16: call Row_isMissing st []
    refine r_isMissing a2 ⟨by omega, by omega⟩ (fun h1 => ?_) (fun h1 => ?_)
    · show kx_wx _ _ _ _ _ (_ :: _) _ _
      refine ks_if_eq_1 rfl ?_
      refine ks_aload_n rfl rfl ?_
      refine ks_iconst rfl ?_
      refine ks_callv_2 rfl rfl rfl (Nat.le_of_ble_eq_true rfl) ?_
      -- at 24: call X_finding st []
      refine r_finding ?_
      show kx_wx _ _ _ _ _ (_ :: _) _ _
      refine ks_ireturn rfl ?_
      -- at 27: ret  st [None]
      exact t1 h.1 h.2 h1
    · show kx_wx _ _ _ _ _ (_ :: _) _ _
      refine ks_if_eq_0 rfl ?_
      refine ks_aload_n rfl rfl ?_
      refine ks_aload_n rfl rfl ?_
      refine ks_getr (b := 2) rfl rfl rfl rfl (by decide) ?_
      refine ks_iload_n rfl rfl ?_
      refine ks_aaload (b := w) rfl rfl (Or.inl rfl) (by omega) (by omega) a1 (by omega) ?_
      refine ks_callv_1 rfl rfl (by assumption) (Nat.le_of_ble_eq_true rfl) ?_
      -- at 35: call Row_remove st ['1']
      refine r_remove a2 ?_
      show kx_wx _ _ _ _ _ (_ :: _) _ _
      refine ks_callv_2 rfl rfl rfl (Nat.le_of_ble_eq_true rfl) ?_
      -- at 38: call X_noFinding st []
      refine r_noFinding ?_
      show kx_wx _ _ _ _ _ (_ :: _) _ _
      refine ks_ireturn rfl ?_
      -- at 41: ret  st [None]
      exact t2 h.1 h.2 (by omega)
  · show kx_wx _ _ _ _ _ (_ :: _) _ _
    refine ks_if_ne_0 rfl ?_
    refine ks_ldc rfl ?_
    refine ks_ireturn rfl ?_
    -- at 9: ret  st ['-1000001']
    exact t0 h
theorem r_Xrow {r l n : Int} (hr : kx_in r) (hl : kx_in l) (hn : kx_in n) (t0 : ¬ ((0 ≤ r ∧ r ≤ 7) ∧ (0 ≤ l ∧ l ≤ 2) ∧ n ≤ 40) → Q (some (kI (-1000001))) (kg L) μ) (t1 : (0 ≤ r ∧ r ≤ 7) → (0 ≤ l ∧ l ≤ 2) → n < 0 → Q (some (kI (-1000014))) (kg L) (kx_up μ 1 10 4)) (t2 : (0 ≤ r ∧ r ≤ 7) → (0 ≤ l ∧ l ≤ 2) → 0 ≤ n → n ≤ 40 → ∀ μ', μ' (3 + 2 * r.toNat) 1 = l → μ' (3 + 2 * r.toNat) 2 = n → (∀ i, 0 ≤ i → i < 40 → μ' (3 + 2 * r.toNat + 1) i = 0) → (∀ c, c ≠ 3 + 2 * r.toNat → c ≠ 3 + 2 * r.toNat + 1 → μ' c = μ c) → Q (some (kI n)) (kg L) (kx_up μ' 1 10 0)) : kx_cx (ke (d + 3)) 69 [kR 1, kI r, kI l, kI n] (kg L) μ Q := by
  refine ke_start (tb := kt_X_row) (ls := [some (kR 1), some (kI r), some (kI l), some (kI n)]) rfl rfl ?_
  have bad : ¬ ((0 ≤ r ∧ r ≤ 7) ∧ (0 ≤ l ∧ l ≤ 2) ∧ n ≤ 40) → kx_wx (ke (d + 2)) kt_X_row Q 22 [some (kR 1), some (kI r), some (kI l), some (kI n)] [] (kg L) μ := by
    intro h
    refine ks_ldc rfl ?_
    refine ks_ireturn rfl ?_
    -- at 24: ret  st ['-1000001']
    exact t0 h
  refine ks_iload_n rfl rfl ?_
  refine ks_calls_1 rfl (Nat.le_of_ble_eq_true rfl) ?_
  -- at 1: call X_isRow st []
  refine r_isRow hr (fun h => ?_) (fun h => ?_)
  · show kx_wx _ _ _ _ _ (_ :: _) _ _
    refine ks_if_eq_1 rfl ?_
    refine ks_iload_n rfl rfl ?_
    refine ks_iconst rfl ?_
    refine ks_iconst rfl ?_
    refine ks_calls_3 rfl (Nat.le_of_ble_eq_true rfl) ?_
    -- at 10: call X_isBetween st []
    refine r_isBetween hl ⟨by omega, by omega⟩ ⟨by omega, by omega⟩ (fun h2 => ?_) (fun h2 => ?_)
    · show kx_wx _ _ _ _ _ (_ :: _) _ _
      refine ks_if_eq_1 rfl ?_
      refine ks_iload_n rfl rfl ?_
      refine ks_bipush rfl ?_
      -- at 19: if le -> 25 else 22 st ['40', None]
      refine ks_icmp_le rfl hn ⟨by omega, by omega⟩ (fun h3 => ?_) (fun h3 => ?_)
      · exact bad (by omega)
      · refine ks_iload_n rfl rfl ?_
        -- at 26: if ge -> 35 else 29 st [None]
        refine ks_if_ge rfl hn (fun h4 => ?_) (fun h4 => ?_)
        · refine ks_aload_n rfl rfl ?_
          refine ks_iconst rfl ?_
          refine ks_callv_2 rfl rfl rfl (Nat.le_of_ble_eq_true rfl) ?_
          -- at 31: call X_finding st []
          refine r_finding ?_
          show kx_wx _ _ _ _ _ (_ :: _) _ _
          refine ks_ireturn rfl ?_
          -- at 34: ret  st [None]
          exact t1 h h2 h4
        · obtain ⟨a1, a2⟩ := kg_rows L (i := r) h.1 (by omega)
          generalize hw : 3 + 2 * r.toNat = w at *
          have w0 : w ≠ 1 := by omega
          have a3 := a2.1
          refine ks_aload_n rfl rfl ?_
          refine ks_getr (b := 2) rfl rfl rfl rfl (by decide) ?_
          refine ks_iload_n rfl rfl ?_
          refine ks_aaload (b := w) rfl rfl (Or.inl rfl) (by omega) (by omega) a1 (by omega) ?_
          refine ks_iload_n rfl rfl ?_
          refine ks_iload_n rfl rfl ?_
          refine ks_callv_3 rfl rfl (by assumption) (Nat.le_of_ble_eq_true rfl) ?_
          -- at 43: call Row_lay st []
          refine r_lay a2 (fun μ1 k1 k2 k3 k4 => ?_)
          show kx_wx _ _ _ _ _ _ _ _
          refine ks_aload_n rfl rfl ?_
          refine ks_iload_n rfl rfl ?_
          refine ks_callv_2 rfl rfl rfl (Nat.le_of_ble_eq_true rfl) ?_
          -- at 48: call X_noFinding st []
          refine r_noFinding ?_
          show kx_wx _ _ _ _ _ (_ :: _) _ _
          refine ks_ireturn rfl ?_
          -- at 51: ret  st [None]
          exact t2 h h2 (by omega) (by omega) μ1 k1 k2 k3 k4
    · show kx_wx _ _ _ _ _ (_ :: _) _ _
      refine ks_if_eq_0 rfl ?_
      exact bad (fun q => h2 q.2.1)
  · show kx_wx _ _ _ _ _ (_ :: _) _ _
    refine ks_if_eq_0 rfl ?_
    exact bad (fun q => h q.1)
end XR
end
section
/-! acts kept, on both sides: snapshots h of towns, m of them, then the town s -/
/-- nothing outside the 46 places -/
def tw_Z (s : Int → Int) : Prop := ∀ k, k < 0 ∨ 46 ≤ k → s k = 0
/-- what is noted of an act (sort, who had it, for how long, detail) that makes s' out of s -/
def ac_R (x y w v : Int) (s s' : Int → Int) : Prop :=
  (x = 0 ∧ y = s 4 ∧ w = s 5 ∧ v = tw_found s (s 4) ∧ s' = tw_step s) ∨
  (x = 1 ∧ v = s 0 ∧ ∃ u, s' = up1 s 0 u) ∨
  (x = 2 ∧ y = s 4 ∧ w = s 5 ∧ ∃ u, s' = up1 (up1 s 4 u) 5 0) ∨
  (x = 3 ∧ v = s 2 ∧ s 2 < 4 ∧ ∃ u, s' = up1 (up1 (up1 (up1 (up1 s (30 + s 2) u) (34 + s 2) u) (38 + s 2) 0) (42 + s 2) 0) 2 (s 2 + 1)) ∨
  (x = 4 ∧ 0 ≤ v ∧ v < s 2 ∧ s (38 + v) = 0 ∧ s' = up1 s (38 + v) 2)
def hx (m : Int) (h : Int → Int → Int) (s : Int → Int) (j : Int) : Int → Int := if j = m then s else h j
theorem hx_m {m : Int} {h : Int → Int → Int} {s : Int → Int} : hx m h s m = s := by unfold hx; rw [if_pos rfl]
theorem hx_ne {m j : Int} {h : Int → Int → Int} {s : Int → Int} (e : j ≠ m) : hx m h s j = h j := by unfold hx; rw [if_neg e]
def hs_len (m : Int) : Int := if m = 24 then 24 else m + 1
def hs_push (m : Int) (h : Int → Int → Int) (s : Int → Int) (j : Int) : Int → Int := if m = 24 then (if j = 23 then s else h (j + 1)) else (if j = m then s else h j)
theorem hp_a {h : Int → Int → Int} {s : Int → Int} : hs_push 24 h s 23 = s := by unfold hs_push; rw [if_pos rfl, if_pos rfl]
theorem hp_b {j : Int} {h : Int → Int → Int} {s : Int → Int} (e : j ≠ 23) : hs_push 24 h s j = h (j + 1) := by unfold hs_push; rw [if_pos rfl, if_neg e]
theorem hp_c {m : Int} {h : Int → Int → Int} {s : Int → Int} (c : m ≠ 24) : hs_push m h s m = s := by unfold hs_push; rw [if_neg c, if_pos rfl]
theorem hp_d {m j : Int} {h : Int → Int → Int} {s : Int → Int} (c : m ≠ 24) (e : j ≠ m) : hs_push m h s j = h j := by unfold hs_push; rw [if_neg c, if_neg e]
/-- the class's ring -/
def RC (μ : kx_M) (m : Int) (h : Int → Int → Int) (s : Int → Int) : Prop := μ 39 5 = m ∧ (0 ≤ m ∧ m ≤ 24) ∧ (0 ≤ μ 39 4 ∧ μ 39 4 < 24) ∧
  ∀ j, 0 ≤ j → j < m → (tw_W 999 (h j) ∧ tw_Z (h j)) ∧ ac_R (μ 40 ((μ 39 4 - m + j) % 24)) (μ 41 ((μ 39 4 - m + j) % 24)) (μ 42 ((μ 39 4 - m + j) % 24)) (μ 43 ((μ 39 4 - m + j) % 24)) (h j) (hx m h s (j + 1))
/-- the reference's notes -/
def RM (μ : kx_M) (m : Int) (h : Int → Int → Int) : Prop := μ 77 17 = m ∧ (0 ≤ m ∧ m ≤ 24) ∧ ∀ j, 0 ≤ j → j < m → ∀ k, 0 ≤ k → k < 46 → μ 85 (46 * j + k) = h j k
theorem RC_fr {μ μ' : kx_M} {m : Int} {h : Int → Int → Int} {s : Int → Int} (R : RC μ m h s) (f : ∀ c, 39 ≤ c → c ≤ 43 → μ' c = μ c) : RC μ' m h s := by
  unfold RC at *
  rw [f 39 (by omega) (by omega), f 40 (by omega) (by omega), f 41 (by omega) (by omega), f 42 (by omega) (by omega), f 43 (by omega) (by omega)]
  exact R
theorem RM_fr {μ μ' : kx_M} {m : Int} {h : Int → Int → Int} (R : RM μ m h) (f7 : μ' 77 17 = μ 77 17) (f : μ' 85 = μ 85) : RM μ' m h := by
  unfold RM at *
  rw [f7, f]
  exact R
theorem RC_keep {μ μ' : kx_M} {m x y w v p : Int} {h : Int → Int → Int} {s s' : Int → Int} (R : RC μ m h s) (hp : μ 39 4 = p) (W : tw_W 999 s) (Z : tw_Z s) (A : ac_R x y w v s s') (k4 : μ' 39 4 = (p + 1) % 24) (k5 : μ' 39 5 = min (m + 1) 24) (k40 : μ' 40 = up1 (μ 40) p x) (k41 : μ' 41 = up1 (μ 41) p y) (k42 : μ' 42 = up1 (μ 42) p w) (k43 : μ' 43 = up1 (μ 43) p v) : RC μ' (hs_len m) (hs_push m h s) s' := by
  obtain ⟨r1, r2, r3, r4⟩ := R
  rw [hp] at r3 r4
  by_cases c : m = 24
  · subst c
    have e : hs_len 24 = 24 := rfl
    rw [e]
    refine ⟨by omega, by omega, by omega, fun j j0 j1 => ?_⟩
    rw [k4, k40, k41, k42, k43]
    by_cases e : j = 23
    · subst e
      have q : ((p + 1) % 24 - 24 + 23) % 24 = p := by omega
      have q3 : (23 : Int) + 1 = 24 := rfl
      rw [q, q3, hx_m, hp_a, up1_self, up1_self, up1_self, up1_self]
      exact ⟨⟨W, Z⟩, A⟩
    · have q : ((p + 1) % 24 - 24 + j) % 24 = (p - 24 + (j + 1)) % 24 := by omega
      have q2 : (p - 24 + (j + 1)) % 24 ≠ p := by omega
      have := r4 (j + 1) (by omega) (by omega)
      rw [q, up1_ne q2, up1_ne q2, up1_ne q2, up1_ne q2, hx_ne (by omega), hp_b e]
      by_cases e2 : j = 22
      · subst e2
        have q3 : (22 : Int) + 1 = 23 := rfl
        have q4 : (23 : Int) + 1 = 24 := rfl
        rw [q3, hp_a]
        rw [q3, q4, hx_m] at this
        exact this
      · rw [hp_b (by omega)]
        rw [hx_ne (by omega)] at this
        exact this
  · have e : hs_len m = m + 1 := by unfold hs_len; rw [if_neg c]
    rw [e]
    refine ⟨by omega, by omega, by omega, fun j j0 j1 => ?_⟩
    rw [k4, k40, k41, k42, k43]
    by_cases e : j = m
    · subst e
      have q : ((p + 1) % 24 - (j + 1) + j) % 24 = p := by omega
      rw [q, hx_m, hp_c c, up1_self, up1_self, up1_self, up1_self]
      exact ⟨⟨W, Z⟩, A⟩
    · have q : ((p + 1) % 24 - (m + 1) + j) % 24 = (p - m + j) % 24 := by omega
      have q2 : (p - m + j) % 24 ≠ p := by omega
      have := r4 j (by omega) (by omega)
      rw [q, up1_ne q2, up1_ne q2, up1_ne q2, up1_ne q2, hx_ne (by omega), hp_d c e]
      by_cases e2 : j + 1 = m
      · rw [e2, hp_c c]
        rw [e2, hx_m] at this
        exact this
      · rw [hp_d c e2]
        rw [hx_ne e2] at this
        exact this
theorem TR_fr {μ μ' : kx_M} {a : Nat} {s : Int → Int} {z : Int} (T : TRx μ a s z) (f : ∀ c, a ≤ c → c ≤ a + 8 → μ' c = μ c) : TRx μ' a s z := by
  unfold TRx at *
  rw [f a (by omega) (by omega), f (a + 1) (by omega) (by omega), f (a + 2) (by omega) (by omega), f (a + 3) (by omega) (by omega), f (a + 4) (by omega) (by omega), f (a + 5) (by omega) (by omega), f (a + 6) (by omega) (by omega), f (a + 7) (by omega) (by omega), f (a + 8) (by omega) (by omega)]
  exact T
theorem up1_back (s : Int → Int) (i v : Int) : up1 (up1 s i v) i (s i) = s := by
  funext j
  by_cases e : j = i
  · subst e; rw [up1_self]
  · rw [up1_ne e, up1_ne e]
theorem up1_up1 (s : Int → Int) (i v w : Int) : up1 (up1 s i v) i w = up1 s i w := by
  funext j
  by_cases e : j = i
  · subst e; rw [up1_self, up1_self]
  · rw [up1_ne e, up1_ne e, up1_ne e]
theorem up1_comm {s : Int → Int} {i j v w : Int} (h : i ≠ j) : up1 (up1 s i v) j w = up1 (up1 s j w) i v := by
  funext k
  by_cases e : k = j
  · subst e; rw [up1_self, up1_ne (fun q => h q.symm), up1_self]
  · rw [up1_ne e]
    by_cases e2 : k = i
    · subst e2; rw [up1_self, up1_self]
    · rw [up1_ne e2, up1_ne e2, up1_ne e]
theorem TR_b3 {μ : kx_M} {s : Int → Int} {u : Int} {B : Int} (W : tw_W B s) (h4 : s 2 < 4) (T : TR μ 30 (up1 (up1 (up1 (up1 (up1 s (30 + s 2) u) (34 + s 2) u) (38 + s 2) 0) (42 + s 2) 0) 2 (s 2 + 1))) : TR (kx_up μ 30 9 (s 2)) 30 s := by
  obtain ⟨w1, w2, w3, w4, w5, w6, w7, w8⟩ := W
  obtain ⟨e8, e9, e10, e11, e12, e13, eh, eo⟩ := T
  simp (disch := omega) only [up1_ne, up1_self] at e8 e9 e10 e11 e12 e13 eh eo
  refine ⟨?_, ?_, ?_, ?_, ?_, ?_, fun i i0 i1 => ?_, fun k k0 k1 => ?_⟩
  · simp (disch := omega) only [kx_up_self, kx_up_oth]; exact e8
  · simp (disch := omega) only [kx_up_self, kx_up_oth]
  · simp (disch := omega) only [kx_up_self, kx_up_oth]; exact e10
  · simp (disch := omega) only [kx_up_self, kx_up_oth]; exact e11
  · simp (disch := omega) only [kx_up_self, kx_up_oth]; exact e12
  · simp (disch := omega) only [kx_up_self, kx_up_oth]; exact e13
  · have := eh i i0 i1
    simp (disch := omega) only [up1_ne] at this
    simp (disch := omega) only [kx_up_row]; exact this
  · have := eo k k0 (by omega)
    rw [up1_ne (i := 2) (j := 38 + k) (by omega), up1_ne (i := 42 + s 2) (j := 38 + k) (by omega), up1_ne (i := 38 + s 2) (j := 38 + k) (by omega), up1_ne (i := 34 + s 2) (j := 38 + k) (by omega), up1_ne (i := 30 + s 2) (j := 38 + k) (by omega)] at this
    simp (disch := omega) only [up1_ne] at this
    simp (disch := omega) only [kx_up_row]; exact this
theorem TR_b4 {μ : kx_M} {s : Int → Int} {v : Int} {B : Int} (W : tw_W B s) (v0 : 0 ≤ v) (v1 : v < s 2) (hz : s (38 + v) = 0) (T : TR μ 30 (up1 s (38 + v) 2)) : TR (kx_up μ 37 v 0) 30 s := by
  obtain ⟨w1, w2, w3, w4, w5, w6, w7, w8⟩ := W
  obtain ⟨e8, e9, e10, e11, e12, e13, eh, eo⟩ := T
  simp (disch := omega) only [up1_ne, up1_self] at e8 e9 e10 e11 e12 e13 eh eo
  refine ⟨?_, ?_, ?_, ?_, ?_, ?_, fun i i0 i1 => ?_, fun k k0 k1 => ?_⟩
  · simp (disch := omega) only [kx_up_row]; exact e8
  · simp (disch := omega) only [kx_up_row]; exact e9
  · simp (disch := omega) only [kx_up_row]; exact e10
  · simp (disch := omega) only [kx_up_row]; exact e11
  · simp (disch := omega) only [kx_up_row]; exact e12
  · simp (disch := omega) only [kx_up_row]; exact e13
  · have := eh i i0 i1
    simp (disch := omega) only [up1_ne] at this
    simp (disch := omega) only [kx_up_row]; exact this
  · have := eo k k0 k1
    by_cases e : k = v
    · subst e
      rw [up1_self, if_neg (by omega)] at this
      simp (disch := omega) only [up1_ne] at this
      simp (disch := omega) only [kx_up_row, kx_up_self]
      rw [hz, if_neg (by omega)]
      exact ⟨this.1, this.2.1, rfl, this.2.2.2⟩
    · rw [up1_ne (i := 38 + v) (j := 38 + k) (by omega)] at this
      simp (disch := omega) only [up1_ne] at this
      simp (disch := omega) only [kx_up_row, kx_up_oth]; exact this
section AC
variable {d L : Nat} {G : kx_G} {μ : kx_M} {Q : Option kx_V → kx_G → kx_M → Prop} {m : Int} {h : Int → Int → Int} {s : Int → Int}
theorem r_note2 (R : RM μ m h) (t : ∀ μ', RM μ' (hs_len m) (hs_push m h (μ 81)) → (∀ j, j ≠ 17 → μ' 77 j = μ 77 j) → (∀ c, c ≠ 85 → c ≠ 77 → μ' c = μ c) → Q none (kg L) μ') : kx_cx (ke (d + 1)) 142 [kR 77] (kg L) μ Q := by
  obtain ⟨r1, r2, r3⟩ := R
  refine r_note r2.1 r2.2 r1 (fun μ1 n hn k1 k2 k3 k4 k5 => t μ1 ?_ k4 k5)
  by_cases c : m = 24
  · subst c
    rw [if_pos rfl] at hn
    simp only [reduceIte] at k2
    subst hn
    refine ⟨k3, by unfold hs_len; rw [if_pos rfl]; omega, fun j j0 j1 k k0 kk => ?_⟩
    have j2 : j < 24 := j1
    by_cases e : j = 23
    · subst e; rw [hp_a, k1 k k0 kk]
    · rw [hp_b e, k2 _ (by omega) (by omega), show 46 * j + k + 46 = 46 * (j + 1) + k by omega, r3 (j + 1) (by omega) (by omega) k k0 kk]
  · rw [if_neg c] at hn
    simp only [if_neg c] at k2
    rw [hn] at k1 k2 k3
    have el : hs_len m = m + 1 := by unfold hs_len; rw [if_neg c]
    rw [el]
    refine ⟨k3, by omega, fun j j0 j1 k k0 kk => ?_⟩
    by_cases e : j = m
    · subst e; rw [hp_c c, k1 k k0 kk]
    · rw [hp_d c e, k2 _ (by omega) (by omega), r3 j j0 (by omega) k k0 kk]
theorem r_keep2 {x y w v : Int} {s s' : Int → Int} (R : RC μ m h s) (W : tw_W 999 s) (Z : tw_Z s) (A : ac_R x y w v s s') (t : ∀ μ', RC μ' (hs_len m) (hs_push m h s) s' → (∀ c, c < 39 ∨ 43 < c → μ' c = μ c) → Q none (kg L) μ') : kx_cx (ke (d + 2)) 2 [kR 39, kI x, kI y, kI w, kI v] (kg L) μ Q := by
  have R0 := R
  obtain ⟨r1, r2, r3, r4⟩ := R
  refine r_keep rfl r1 r3.1 r3.2 r2.1 r2.2 (t _ (RC_keep (p := μ 39 4) R0 rfl W Z A ?_ ?_ ?_ ?_ ?_ ?_) ?_)
  · rw [kx_up_oth (by omega), kx_up_self]
  · rw [kx_up_self]
  · simp (disch := omega) only [kx_up_row]; rw [kx_up_up1, kx_row_self]
  · simp (disch := omega) only [kx_up_row]; rw [kx_up_up1, kx_row_self]; simp (disch := omega) only [kx_up_row]
  · simp (disch := omega) only [kx_up_row]; rw [kx_up_up1, kx_row_self]; simp (disch := omega) only [kx_up_row]
  · simp (disch := omega) only [kx_up_row]; rw [kx_up_up1, kx_row_self]; simp (disch := omega) only [kx_up_row]
  · intro c hc
    simp (disch := omega) only [kx_up_row]
end AC
end
section
/-! the class takes an act back -/
section AD
variable {d L : Nat} {G : kx_G} {μ : kx_M} {Q : Option kx_V → kx_G → kx_M → Prop} {m : Int} {h : Int → Int → Int} {s : Int → Int}
theorem r_revertLatest (R : RC μ m h s) (m1 : 1 ≤ m) (T : TR μ 30 s) (t : ∀ μ', RC μ' (m - 1) h (h (m - 1)) → TR μ' 30 (h (m - 1)) → (∀ c, c < 30 ∨ 39 < c → μ' c = μ c) → Q none (kg L) μ') : kx_cx (ke (d + 2)) 3 [kR 39, kR 30] (kg L) μ Q := by
  obtain ⟨r1, r2, r3, r4⟩ := R
  have A := r4 (m - 1) (by omega) (by omega)
  have hj : m - 1 + 1 = m := by omega
  rw [hj, hx_m] at A
  generalize hp : μ 39 4 = p at *
  have hq : (p - m + (m - 1)) % 24 = (p + 24 - 1) % 24 := by omega
  rw [hq] at A
  have hmod : (p + 24 - 1).tmod 24 = (p + 24 - 1) % 24 := Int.tmod_eq_emod_of_nonneg (by omega)
  generalize hqq : (p + 24 - 1) % 24 = q at *
  generalize hs' : h (m - 1) = s' at *
  have q0 : 0 ≤ q ∧ q < 24 := by omega
  obtain ⟨⟨W, Z⟩, A⟩ := A
  have ring : ∀ μ', μ' 39 4 = q → μ' 39 5 = m - 1 → (∀ c, 40 ≤ c → c ≤ 43 → μ' c = μ c) → RC μ' (m - 1) h s' := by
    intro μ' k4 k5 kc
    refine ⟨k5, by omega, by omega, fun j j0 j1 => ?_⟩
    have := r4 j j0 (by omega)
    rw [k4, kc 40 (by omega) (by omega), kc 41 (by omega) (by omega), kc 42 (by omega) (by omega), kc 43 (by omega) (by omega), show (q - (m - 1) + j) % 24 = (p - m + j) % 24 by omega]
    rw [hx_ne (by omega)] at this
    by_cases e : j + 1 = m - 1
    · rw [e, hx_m, ← hs', ← e]; exact this
    · rw [hx_ne e]; exact this
  refine ke_start (tb := kt_Acts_revertLatest) (ls := [some (kR 39), some (kR 30), none]) rfl rfl ?_
  have pre : ∀ x v, μ 40 q = x → μ 43 q = v → kx_in x → kx_wx (ke (d + 1)) kt_Acts_revertLatest Q 45 [some (kR 39), some (kR 30), some (kI v)] [kI x] (kg L) (kx_up (kx_up μ 39 4 q) 39 5 (m - 1)) → kx_wx (ke (d + 1)) kt_Acts_revertLatest Q 0 [some (kR 39), some (kR 30), none] [] (kg L) μ := by
    intro x v hx hv hi K
    refine ks_aload_n rfl rfl ?_
    refine ks_aload_n rfl rfl ?_
    refine ks_geti rfl rfl rfl rfl (by (try simp only [kx_up_at, kx_row_at, up1_at, Nat.reduceEqDiff, Int.reduceEq, Int.reduceNeg, and_true, true_and, and_false, false_and, and_self, reduceIte, Nat.add_left_cancel_iff, Nat.add_eq_left, Nat.left_eq_add, Nat.reduceAdd, Int.add_left_inj, Int.add_right_inj, hp, r1, hmod, hx, hv]); rfl) ?_
    refine ks_bipush rfl ?_
    refine ks_iadd rfl ?_
    refine ks_iconst rfl ?_
    refine ks_isub rfl ?_
    refine ks_bipush rfl ?_
    refine ks_irem rfl ⟨by omega, by omega⟩ ⟨by omega, by omega⟩ (by omega) ?_
    refine ks_puti rfl rfl ?_
    refine ks_aload_n rfl rfl ?_
    refine ks_dupR rfl ?_
    refine ks_geti rfl rfl rfl rfl (by (try simp only [kx_up_at, kx_row_at, up1_at, Nat.reduceEqDiff, Int.reduceEq, Int.reduceNeg, and_true, true_and, and_false, false_and, and_self, reduceIte, Nat.add_left_cancel_iff, Nat.add_eq_left, Nat.left_eq_add, Nat.reduceAdd, Int.add_left_inj, Int.add_right_inj, hp, r1, hmod, hx, hv]); rfl) ?_
    refine ks_iconst rfl ?_
    refine ks_isub rfl ?_
    refine ks_puti rfl rfl ?_
    refine ks_aload_n rfl rfl ?_
    refine ks_getr (b := 43) rfl rfl rfl rfl (by decide) ?_
    refine ks_aload_n rfl rfl ?_
    refine ks_geti rfl rfl rfl rfl (by (try simp only [kx_up_at, kx_row_at, up1_at, Nat.reduceEqDiff, Int.reduceEq, Int.reduceNeg, and_true, true_and, and_false, false_and, and_self, reduceIte, Nat.add_left_cancel_iff, Nat.add_eq_left, Nat.left_eq_add, Nat.reduceAdd, Int.add_left_inj, Int.add_right_inj, hp, r1, hmod, hx, hv]); rfl) ?_
    refine ks_iaload rfl rfl (by omega) (by omega) (by (try simp only [kx_up_at, kx_row_at, up1_at, Nat.reduceEqDiff, Int.reduceEq, Int.reduceNeg, and_true, true_and, and_false, false_and, and_self, reduceIte, Nat.add_left_cancel_iff, Nat.add_eq_left, Nat.left_eq_add, Nat.reduceAdd, Int.add_left_inj, Int.add_right_inj, hp, r1, hmod, hx, hv]); rfl) ?_
    refine ks_istore_n_2 rfl rfl ?_
    refine ks_aload_n rfl rfl ?_
    refine ks_getr (b := 40) rfl rfl rfl rfl (by decide) ?_
    refine ks_aload_n rfl rfl ?_
    refine ks_geti rfl rfl rfl rfl (by (try simp only [kx_up_at, kx_row_at, up1_at, Nat.reduceEqDiff, Int.reduceEq, Int.reduceNeg, and_true, true_and, and_false, false_and, and_self, reduceIte, Nat.add_left_cancel_iff, Nat.add_eq_left, Nat.left_eq_add, Nat.reduceAdd, Int.add_left_inj, Int.add_right_inj, hp, r1, hmod, hx, hv]); rfl) ?_
    refine ks_iaload rfl rfl (by omega) (by omega) (by (try simp only [kx_up_at, kx_row_at, up1_at, Nat.reduceEqDiff, Int.reduceEq, Int.reduceNeg, and_true, true_and, and_false, false_and, and_self, reduceIte, Nat.add_left_cancel_iff, Nat.add_eq_left, Nat.left_eq_add, Nat.reduceAdd, Int.add_left_inj, Int.add_right_inj, hp, r1, hmod, hx, hv]); rfl) ?_
    -- at 45: stop  st [None]
    rw [hmod]
    exact K
  have f4 : (kx_up (kx_up μ 39 4 q) 39 5 (m - 1)) 39 4 = q := by rw [kx_up_oth (by omega), kx_up_self]
  have f5 : (kx_up (kx_up μ 39 4 q) 39 5 (m - 1)) 39 5 = m - 1 := by rw [kx_up_self]
  have fc : ∀ c, c ≠ 39 → (kx_up (kx_up μ 39 4 q) 39 5 (m - 1)) c = μ c := fun c hc => by rw [kx_up_row hc, kx_up_row hc]
  generalize kx_up (kx_up μ 39 4 q) 39 5 (m - 1) = M at *
  have T1 : TR M 30 s := TR_fr T (fun c c0 c1 => fc c (by omega))
  have f40 := fc 40 (by omega)
  have f41 := fc 41 (by omega)
  have f42 := fc 42 (by omega)
  have f43 := fc 43 (by omega)
  generalize hv : μ 43 q = v at *
  generalize hy : μ 41 q = y at *
  generalize hw : μ 42 q = w at *
  rcases A with ⟨a1, a2, a3, a4, a5⟩ | ⟨a1, a2, u, a3⟩ | ⟨a1, a2, a3, u, a4⟩ | ⟨a1, a2, a3, u, a4⟩ | ⟨a1, a2, a3, a4, a5⟩
  · refine pre 0 v a1 rfl ⟨by omega, by omega⟩ ?_
    -- at 45: sw  st [None]
    refine ks_tsw rfl ⟨by omega, by omega⟩ ?_
    simp only [kx_sw, Int.reduceAdd, reduceIte]
    refine ks_aload_n rfl rfl ?_
    refine ks_aload_n rfl rfl ?_
    refine ks_getr (b := 41) rfl rfl rfl rfl (by decide) ?_
    refine ks_aload_n rfl rfl ?_
    refine ks_geti rfl rfl rfl rfl (by (try simp only [kx_up_at, kx_row_at, up1_at, Nat.reduceEqDiff, Int.reduceEq, Int.reduceNeg, and_true, true_and, and_false, false_and, and_self, reduceIte, Nat.add_left_cancel_iff, Nat.add_eq_left, Nat.left_eq_add, Nat.reduceAdd, Int.add_left_inj, Int.add_right_inj, f4, f41, f42, hy, hw]); rfl) ?_
    refine ks_iaload rfl rfl (by omega) (by omega) (by (try simp only [kx_up_at, kx_row_at, up1_at, Nat.reduceEqDiff, Int.reduceEq, Int.reduceNeg, and_true, true_and, and_false, false_and, and_self, reduceIte, Nat.add_left_cancel_iff, Nat.add_eq_left, Nat.left_eq_add, Nat.reduceAdd, Int.add_left_inj, Int.add_right_inj, f4, f41, f42, hy, hw]); rfl) ?_
    refine ks_aload_n rfl rfl ?_
    refine ks_getr (b := 42) rfl rfl rfl rfl (by decide) ?_
    refine ks_aload_n rfl rfl ?_
    refine ks_geti rfl rfl rfl rfl (by (try simp only [kx_up_at, kx_row_at, up1_at, Nat.reduceEqDiff, Int.reduceEq, Int.reduceNeg, and_true, true_and, and_false, false_and, and_self, reduceIte, Nat.add_left_cancel_iff, Nat.add_eq_left, Nat.left_eq_add, Nat.reduceAdd, Int.add_left_inj, Int.add_right_inj, f4, f41, f42, hy, hw]); rfl) ?_
    refine ks_iaload rfl rfl (by omega) (by omega) (by (try simp only [kx_up_at, kx_row_at, up1_at, Nat.reduceEqDiff, Int.reduceEq, Int.reduceNeg, and_true, true_and, and_false, false_and, and_self, reduceIte, Nat.add_left_cancel_iff, Nat.add_eq_left, Nat.left_eq_add, Nat.reduceAdd, Int.add_left_inj, Int.add_right_inj, f4, f41, f42, hy, hw]); rfl) ?_
    refine ks_iload_n rfl rfl ?_
    refine ks_callv_4 rfl rfl rfl (Nat.le_of_ble_eq_true rfl) ?_
    -- at 100: call Town_revertStep st []
    subst a2 a3 a4
    subst a5
    refine r_revertStep (B := 999) (by omega) (kg_T30 L) T1 W (fun μ1 T2 F2 => ?_)
    show kx_wx _ _ _ _ _ _ _ _
    refine ks_goto rfl ?_
    refine ks_return rfl ?_
    -- at 161: ret  st []
    refine t _ (ring _ ?_ ?_ (fun c c0 c1 => ?_)) T2 (fun c hc => ?_)
    · rw [F2 39 (by omega), f4]
    · rw [F2 39 (by omega), f5]
    · rw [F2 c (by omega), fc c (by omega)]
    · rw [F2 c (by omega), fc c (by omega)]
  · refine pre 1 v a1 rfl ⟨by omega, by omega⟩ ?_
    -- at 45: sw  st [None]
    refine ks_tsw rfl ⟨by omega, by omega⟩ ?_
    simp only [kx_sw, Int.reduceAdd, reduceIte, Int.reduceEq]
    refine ks_aload_n rfl rfl ?_
    refine ks_iload_n rfl rfl ?_
    refine ks_puti rfl rfl ?_
    refine ks_goto rfl ?_
    refine ks_return rfl ?_
    -- at 161: ret  st []
    refine t _ (ring _ ?_ ?_ (fun c c0 c1 => ?_)) ?_ (fun c hc => ?_)
    · rw [kx_up_row (by omega), f4]
    · rw [kx_up_row (by omega), f5]
    · rw [kx_up_row (by omega), fc c (by omega)]
    · have := TRx_10 (v := v) T1
      rw [a3, up1_up1, a2] at this
      rw [a2]
      unfold TR
      rw [up1_ne (by omega)] at this
      have e : up1 s' 0 (s' 0) = s' := by rw [← up1_up1 s' 0 0, up1_back]
      rw [e] at this
      exact this
    · rw [kx_up_row (by omega), fc c (by omega)]
  · refine pre 2 v a1 rfl ⟨by omega, by omega⟩ ?_
    -- at 45: sw  st [None]
    refine ks_tsw rfl ⟨by omega, by omega⟩ ?_
    simp only [kx_sw, Int.reduceAdd, reduceIte, Int.reduceEq]
    refine ks_aload_n rfl rfl ?_
    refine ks_aload_n rfl rfl ?_
    refine ks_getr (b := 41) rfl rfl rfl rfl (by decide) ?_
    refine ks_aload_n rfl rfl ?_
    refine ks_geti rfl rfl rfl rfl (by (try simp only [kx_up_at, kx_row_at, up1_at, Nat.reduceEqDiff, Int.reduceEq, Int.reduceNeg, and_true, true_and, and_false, false_and, and_self, reduceIte, Nat.add_left_cancel_iff, Nat.add_eq_left, Nat.left_eq_add, Nat.reduceAdd, Int.add_left_inj, Int.add_right_inj, f4, f41, f42, hy, hw]); rfl) ?_
    refine ks_iaload rfl rfl (by omega) (by omega) (by (try simp only [kx_up_at, kx_row_at, up1_at, Nat.reduceEqDiff, Int.reduceEq, Int.reduceNeg, and_true, true_and, and_false, false_and, and_self, reduceIte, Nat.add_left_cancel_iff, Nat.add_eq_left, Nat.left_eq_add, Nat.reduceAdd, Int.add_left_inj, Int.add_right_inj, f4, f41, f42, hy, hw]); rfl) ?_
    refine ks_puti rfl rfl ?_
    refine ks_aload_n rfl rfl ?_
    refine ks_aload_n rfl rfl ?_
    refine ks_getr (b := 42) rfl rfl rfl rfl (by decide) ?_
    refine ks_aload_n rfl rfl ?_
    refine ks_geti rfl rfl rfl rfl (by (try simp only [kx_up_at, kx_row_at, up1_at, Nat.reduceEqDiff, Int.reduceEq, Int.reduceNeg, and_true, true_and, and_false, false_and, and_self, reduceIte, Nat.add_left_cancel_iff, Nat.add_eq_left, Nat.left_eq_add, Nat.reduceAdd, Int.add_left_inj, Int.add_right_inj, f4, f41, f42, hy, hw]); rfl) ?_
    refine ks_iaload rfl rfl (by omega) (by omega) (by (try simp only [kx_up_at, kx_row_at, up1_at, Nat.reduceEqDiff, Int.reduceEq, Int.reduceNeg, and_true, true_and, and_false, false_and, and_self, reduceIte, Nat.add_left_cancel_iff, Nat.add_eq_left, Nat.left_eq_add, Nat.reduceAdd, Int.add_left_inj, Int.add_right_inj, f4, f41, f42, hy, hw]); rfl) ?_
    refine ks_puti rfl rfl ?_
    refine ks_goto rfl ?_
    refine ks_return rfl ?_
    -- at 161: ret  st []
    refine t _ (ring _ ?_ ?_ (fun c c0 c1 => ?_)) ?_ (fun c hc => ?_)
    · rw [kx_up_row (by omega), kx_up_row (by omega), f4]
    · rw [kx_up_row (by omega), kx_up_row (by omega), f5]
    · rw [kx_up_row (by omega), kx_up_row (by omega), fc c (by omega)]
    · have w1 := W.1
      have := TRx_12 (v := w) (TRx_11 (v := y) T1) (by rw [a4]; simp (disch := omega) only [up1_ne]; omega)
      have e : up1 (up1 s 4 y) 5 w = s' := by
        rw [a4, a2, a3]
        funext j
        by_cases e1 : j = 5
        · subst e1; rw [up1_self]
        · rw [up1_ne e1]
          by_cases e2 : j = 4
          · subst e2; rw [up1_self]
          · rw [up1_ne e2, up1_ne e1, up1_ne e2]
      rw [e] at this
      have e3 : s 3 = s' 3 := by rw [a4, up1_ne (by omega), up1_ne (by omega)]
      unfold TR
      rw [← e3]
      exact this
    · rw [kx_up_row (by omega), kx_up_row (by omega), fc c (by omega)]
  · refine pre 3 v a1 rfl ⟨by omega, by omega⟩ ?_
    -- at 45: sw  st [None]
    refine ks_tsw rfl ⟨by omega, by omega⟩ ?_
    simp only [kx_sw, Int.reduceAdd, reduceIte, Int.reduceEq]
    refine ks_aload_n rfl rfl ?_
    refine ks_iload_n rfl rfl ?_
    refine ks_puti rfl rfl ?_
    refine ks_goto rfl ?_
    refine ks_return rfl ?_
    -- at 161: ret  st []
    refine t _ (ring _ ?_ ?_ (fun c c0 c1 => ?_)) ?_ (fun c hc => ?_)
    · rw [kx_up_row (by omega), f4]
    · rw [kx_up_row (by omega), f5]
    · rw [kx_up_row (by omega), fc c (by omega)]
    · rw [a2]
      rw [a4] at T1
      exact TR_b3 W a3 T1
    · rw [kx_up_row (by omega), fc c (by omega)]
  · refine pre 4 v a1 rfl ⟨by omega, by omega⟩ ?_
    have w2 := W.2.1
    -- at 45: sw  st [None]
    refine ks_tsw rfl ⟨by omega, by omega⟩ ?_
    simp only [kx_sw, Int.reduceAdd, reduceIte, Int.reduceEq]
    refine ks_aload_n rfl rfl ?_
    refine ks_getr (b := 37) rfl rfl rfl rfl (by decide) ?_
    refine ks_iload_n rfl rfl ?_
    refine ks_iconst rfl ?_
    refine ks_iastore rfl rfl (by omega) (by omega) ?_
    refine ks_goto rfl ?_
    refine ks_return rfl ?_
    -- at 161: ret  st []
    refine t _ (ring _ ?_ ?_ (fun c c0 c1 => ?_)) ?_ (fun c hc => ?_)
    · rw [kx_up_row (by omega), f4]
    · rw [kx_up_row (by omega), f5]
    · rw [kx_up_row (by omega), fc c (by omega)]
    · rw [a5] at T1
      exact TR_b4 W a2 a3 a4 T1
    · rw [kx_up_row (by omega), fc c (by omega)]
theorem r_Xundo (R : RC μ m h s) (T : TR μ 30 s) (t0 : m = 0 → Q (some (kI (-1000002))) (kg L) μ) (t : 1 ≤ m → ∀ μ', RC μ' (m - 1) h (h (m - 1)) → TR μ' 30 (h (m - 1)) → (∀ c, c < 30 ∨ 39 < c → μ' c = μ c) → Q (some (kI (m - 1))) (kg L) μ') : kx_cx (ke (d + 3)) 81 [kR 1] (kg L) μ Q := by
  refine ke_start (tb := kt_X_undo) (ls := [some (kR 1)]) rfl rfl ?_
  have R0 := R
  obtain ⟨r1, r2, r3, r4⟩ := R
  refine ks_aload_n rfl rfl ?_
  refine ks_getr (b := 39) rfl rfl rfl rfl (by decide) ?_
  refine ks_geti rfl rfl rfl rfl (by (try simp only [kx_up_at, kx_row_at, up1_at, Nat.reduceEqDiff, Int.reduceEq, Int.reduceNeg, and_true, true_and, and_false, false_and, and_self, reduceIte, Nat.add_left_cancel_iff, Nat.add_eq_left, Nat.left_eq_add, Nat.reduceAdd, Int.add_left_inj, Int.add_right_inj, r1]); rfl) ?_
  -- at 7: if ne -> 13 else 10 st [None]
  refine ks_if_ne rfl ⟨by omega, by omega⟩ (fun c => ?_) (fun c => ?_)
  · refine ks_ldc rfl ?_
    refine ks_ireturn rfl ?_
    -- at 12: ret  st ['-1000002']
    exact t0 c
  · refine ks_aload_n rfl rfl ?_
    refine ks_getr (b := 39) rfl rfl rfl rfl (by decide) ?_
    refine ks_aload_n rfl rfl ?_
    refine ks_getr (b := 30) rfl rfl rfl rfl (by decide) ?_
    refine ks_callv_2 rfl rfl rfl (Nat.le_of_ble_eq_true rfl) ?_
    -- at 21: call Acts_revertLatest st []
    refine r_revertLatest R0 (by omega) T (fun μ1 R1 T1 F1 => ?_)
    have e5 := R1.1
    show kx_wx _ _ _ _ _ _ _ _
    refine ks_aload_n rfl rfl ?_
    refine ks_getr (b := 39) rfl rfl rfl rfl (by decide) ?_
    refine ks_geti rfl rfl rfl rfl (by (try simp only [kx_up_at, kx_row_at, up1_at, Nat.reduceEqDiff, Int.reduceEq, Int.reduceNeg, and_true, true_and, and_false, false_and, and_self, reduceIte, Nat.add_left_cancel_iff, Nat.add_eq_left, Nat.left_eq_add, Nat.reduceAdd, Int.add_left_inj, Int.add_right_inj, e5]); rfl) ?_
    refine ks_ireturn rfl ?_
    -- at 31: ret  st [None]
    exact t (by omega) μ1 R1 T1 F1
end AD
end
section
/-! the acts, on both sides -/
def FrX (μ μ' : kx_M) : Prop := ∀ c, c < 30 ∨ 43 < c → μ' c = μ c
def FrM (μ μ' : kx_M) : Prop := (∀ j, j ≠ 17 → μ' 77 j = μ 77 j) ∧ ∀ c, c ≠ 77 → c ≠ 81 → c ≠ 85 → μ' c = μ c
/-- no town, or a good one -/
def TN (s : Int → Int) : Prop := (∀ k, s k = 0) ∨ (tw_W 999 s ∧ tw_Z s)
theorem TN_in {s : Int → Int} (N : TN s) : (0 ≤ s 1 ∧ s 1 ≤ 6) ∧ (0 ≤ s 2 ∧ s 2 ≤ 4) ∧ (s 1 = 0 → s 2 = 0) := by
  rcases N with q | ⟨q, _⟩
  · rw [q 1, q 2]; omega
  · obtain ⟨w1, w2, _⟩ := q; omega
theorem TN_W {s : Int → Int} (N : TN s) (h : s 1 ≠ 0 ∨ s 2 ≠ 0) : tw_W 999 s ∧ tw_Z s := by
  rcases N with q | q
  · rw [q 1, q 2] at h; omega
  · exact q
theorem tw_W_self {B : Int} {s : Int → Int} (h : tw_W B s) : tw_W (s 3) s := by
  obtain ⟨w1, w2, w3, w4, w5, w6, w7, w8⟩ := h
  exact ⟨w1, w2, w3, w4, ⟨w5.1, Int.le_refl _⟩, w6, w7, w8⟩
theorem tw_Z_step {B : Int} {s : Int → Int} (h : tw_W B s) (z : tw_Z s) : tw_Z (tw_step s) := by
  intro k hk
  have hfi := tw_found_in s (s 4)
  have w1 := h.1
  have w2 := h.2.1
  have w3 := h.2.2.1
  rw [tw_step_at (by omega)]
  unfold tw_work
  split
  · exact z k hk
  · split
    · rw [up1_ne (by omega), up1_ne (by omega), up1_ne (by omega), up1_ne (by omega)]; exact z k hk
    · rw [up1_ne (by omega), up1_ne (by omega)]; exact z k hk
theorem tw_Z_go {B : Int} {s : Int → Int} (h : tw_W B s) (z : tw_Z s) : ∀ n : Nat, tw_Z (tw_go s n) := by
  intro n
  induction n with
  | zero => exact z
  | succ n ih => exact tw_Z_step (tw_W_go h n) ih
theorem tw_Z_up {s : Int → Int} {i v : Int} (z : tw_Z s) (h : 0 ≤ i ∧ i < 46) : tw_Z (up1 s i v) := by
  intro k hk
  rw [up1_ne (by omega)]; exact z k hk
theorem tw_W_wind {B v : Int} {s : Int → Int} (h : tw_W B s) (h0 : 0 ≤ v) (h1 : v ≤ 5) : tw_W B (up1 s 0 v) := by
  obtain ⟨w1, w2, w3, w4, w5, w6, w7, w8⟩ := h
  refine ⟨?_, ?_, ?_, ?_, ?_, ?_, fun i i0 i1 => ?_, fun k k0 k1 => ?_⟩
  · simp (disch := omega) only [up1_ne]; exact w1
  · simp (disch := omega) only [up1_ne]; exact w2
  · simp (disch := omega) only [up1_ne]; exact w3
  · rw [up1_self]; omega
  · simp (disch := omega) only [up1_ne]; exact w5
  · simp (disch := omega) only [up1_ne]; exact w6
  · simp (disch := omega) only [up1_ne] at i1; simp (disch := omega) only [up1_ne]; exact w7 i i0 i1
  · simp (disch := omega) only [up1_ne] at k1; simp (disch := omega) only [up1_ne]; exact w8 k k0 k1
theorem tw_W_give {B v : Int} {s : Int → Int} (h : tw_W B s) (h0 : 0 ≤ v) (h1 : v < s 1) : tw_W B (up1 (up1 s 4 v) 5 0) := by
  obtain ⟨w1, w2, w3, w4, w5, w6, w7, w8⟩ := h
  refine ⟨?_, ?_, ?_, ?_, ?_, ?_, fun i i0 i1 => ?_, fun k k0 k1 => ?_⟩
  · simp (disch := omega) only [up1_ne]; exact w1
  · simp (disch := omega) only [up1_ne]; exact w2
  · rw [up1_ne (by omega), up1_self, up1_ne (by omega), up1_ne (by omega)]; omega
  · simp (disch := omega) only [up1_ne]; exact w4
  · simp (disch := omega) only [up1_ne]; exact w5
  · rw [up1_self]; omega
  · simp (disch := omega) only [up1_ne] at i1; simp (disch := omega) only [up1_ne]; exact w7 i i0 i1
  · simp (disch := omega) only [up1_ne] at k1; simp (disch := omega) only [up1_ne]; exact w8 k k0 k1
theorem tw_W_back {B v : Int} {s : Int → Int} (h : tw_W B s) (h0 : 0 ≤ v) (h1 : v < s 2) : tw_W B (up1 s (38 + v) 2) := by
  obtain ⟨w1, w2, w3, w4, w5, w6, w7, w8⟩ := h
  refine ⟨?_, ?_, ?_, ?_, ?_, ?_, fun i i0 i1 => ?_, fun k k0 k1 => ?_⟩
  · simp (disch := omega) only [up1_ne]; exact w1
  · simp (disch := omega) only [up1_ne]; exact w2
  · simp (disch := omega) only [up1_ne]; exact w3
  · simp (disch := omega) only [up1_ne]; exact w4
  · simp (disch := omega) only [up1_ne]; exact w5
  · simp (disch := omega) only [up1_ne]; exact w6
  · simp (disch := omega) only [up1_ne] at i1; simp (disch := omega) only [up1_ne]; exact w7 i i0 i1
  · simp (disch := omega) only [up1_ne] at k1
    have := w8 k k0 k1
    by_cases e : k = v
    · subst e
      rw [up1_self]
      simp (disch := omega) only [up1_ne]
      omega
    · simp (disch := omega) only [up1_ne]; exact this
def tw_told (s : Int → Int) (u : Int) : Int → Int := up1 (up1 (up1 (up1 (up1 s (30 + s 2) u) (34 + s 2) u) (38 + s 2) 0) (42 + s 2) 0) 2 (s 2 + 1)
theorem tw_W_told {B u : Int} {s : Int → Int} (h : tw_W B s) (h0 : 1 ≤ u) (h1 : u ≤ 40) (h2 : s 2 < 4) : tw_W B (tw_told s u) := by
  obtain ⟨w1, w2, w3, w4, w5, w6, w7, w8⟩ := h
  unfold tw_told
  refine ⟨?_, ?_, ?_, ?_, ?_, ?_, fun i i0 i1 => ?_, fun k k0 k1 => ?_⟩
  · simp (disch := omega) only [up1_ne]; exact w1
  · rw [up1_self]; omega
  · simp (disch := omega) only [up1_ne]; exact w3
  · simp (disch := omega) only [up1_ne]; exact w4
  · simp (disch := omega) only [up1_ne]; exact w5
  · simp (disch := omega) only [up1_ne]; exact w6
  · simp (disch := omega) only [up1_ne] at i1; simp (disch := omega) only [up1_ne]; exact w7 i i0 i1
  · rw [up1_self] at k1
    by_cases e : k = s 2
    · subst e
      simp (disch := omega) only [up1_ne, up1_self]
      omega
    · have := w8 k k0 (by omega)
      simp (disch := omega) only [up1_ne]; exact this
theorem tw_Z_told {u : Int} {s : Int → Int} (z : tw_Z s) (h0 : 0 ≤ s 2) (h2 : s 2 < 4) : tw_Z (tw_told s u) :=
  tw_Z_up (tw_Z_up (tw_Z_up (tw_Z_up (tw_Z_up z (by omega)) (by omega)) (by omega)) (by omega)) (by omega)
def hs_g (m : Int) (h : Int → Int → Int) (s : Int → Int) : Nat → Int × (Int → Int → Int)
  | 0 => (m, h)
  | n + 1 => (hs_len (hs_g m h s n).1, hs_push (hs_g m h s n).1 (hs_g m h s n).2 (tw_go s n))
section AE
variable {d L : Nat} {G : kx_G} {μ : kx_M} {Q : Option kx_V → kx_G → kx_M → Prop} {m v : Int} {h : Int → Int → Int} {s : Int → Int}
theorem r_Xwind (hv : kx_in v) (N : TN s) (R : RC μ m h s) (T : TR μ 30 s) (t0 : s 1 = 0 → Q (some (kI (-1000002))) (kg L) μ) (t1 : 1 ≤ s 1 → ¬ (0 ≤ v ∧ v ≤ 5) → Q (some (kI (-1000001))) (kg L) μ) (t2 : 1 ≤ s 1 → 0 ≤ v → v ≤ 5 → ∀ μ', RC μ' (hs_len m) (hs_push m h s) (up1 s 0 v) → TR μ' 30 (up1 s 0 v) → FrX μ μ' → Q (some (kI (s 0))) (kg L) μ') : kx_cx (ke (d + 3)) 77 [kR 1, kI v] (kg L) μ Q := by
  refine ke_start (tb := kt_X_wind) (ls := [some (kR 1), some (kI v), none]) rfl rfl ?_
  obtain ⟨n1, n2, n3⟩ := TN_in N
  have T0 := T
  obtain ⟨e8, e9, e10, e11, e12, e13, eh, eo⟩ := T
  refine ks_aload_n rfl rfl ?_
  refine ks_callv_1 rfl rfl rfl (Nat.le_of_ble_eq_true rfl) ?_
  -- at 1: call X_isNoTown st []
  refine r_isNoTown ⟨by omega, by omega⟩ (fun c => ?_) (fun c => ?_)
  · show kx_wx _ _ _ _ _ (_ :: _) _ _
    refine ks_if_eq_1 rfl ?_
    refine ks_ldc rfl ?_
    refine ks_ireturn rfl ?_
    -- at 9: ret  st ['-1000002']
    exact t0 (by omega)
  · show kx_wx _ _ _ _ _ (_ :: _) _ _
    refine ks_if_eq_0 rfl ?_
    refine ks_iload_n rfl rfl ?_
    refine ks_iconst rfl ?_
    refine ks_iconst rfl ?_
    refine ks_calls_3 rfl (Nat.le_of_ble_eq_true rfl) ?_
    -- at 13: call X_isBetween st []
    refine r_isBetween hv ⟨by omega, by omega⟩ ⟨by omega, by omega⟩ (fun c2 => ?_) (fun c2 => ?_)
    · show kx_wx _ _ _ _ _ (_ :: _) _ _
      refine ks_if_ne_1 rfl ?_
      refine ks_aload_n rfl rfl ?_
      refine ks_getr (b := 30) rfl rfl rfl rfl (by decide) ?_
      refine ks_geti rfl rfl rfl rfl (by (try simp only [kx_up_at, kx_row_at, up1_at, Nat.reduceEqDiff, Int.reduceEq, Int.reduceNeg, and_true, true_and, and_false, false_and, and_self, reduceIte, Nat.add_left_cancel_iff, Nat.add_eq_left, Nat.left_eq_add, Nat.reduceAdd, Int.add_left_inj, Int.add_right_inj, e10, e11, e12]); rfl) ?_
      refine ks_istore_n_2 rfl rfl ?_
      refine ks_aload_n rfl rfl ?_
      refine ks_getr (b := 39) rfl rfl rfl rfl (by decide) ?_
      refine ks_iconst rfl ?_
      refine ks_aload_n rfl rfl ?_
      refine ks_getr (b := 30) rfl rfl rfl rfl (by decide) ?_
      refine ks_geti rfl rfl rfl rfl (by (try simp only [kx_up_at, kx_row_at, up1_at, Nat.reduceEqDiff, Int.reduceEq, Int.reduceNeg, and_true, true_and, and_false, false_and, and_self, reduceIte, Nat.add_left_cancel_iff, Nat.add_eq_left, Nat.left_eq_add, Nat.reduceAdd, Int.add_left_inj, Int.add_right_inj, e10, e11, e12]); rfl) ?_
      refine ks_aload_n rfl rfl ?_
      refine ks_getr (b := 30) rfl rfl rfl rfl (by decide) ?_
      refine ks_geti rfl rfl rfl rfl (by (try simp only [kx_up_at, kx_row_at, up1_at, Nat.reduceEqDiff, Int.reduceEq, Int.reduceNeg, and_true, true_and, and_false, false_and, and_self, reduceIte, Nat.add_left_cancel_iff, Nat.add_eq_left, Nat.left_eq_add, Nat.reduceAdd, Int.add_left_inj, Int.add_right_inj, e10, e11, e12]); rfl) ?_
      refine ks_iload_n rfl rfl ?_
      refine ks_callv_5 rfl rfl rfl (Nat.le_of_ble_eq_true rfl) ?_
      -- at 50: call Acts_keep st []
      obtain ⟨W, Z⟩ := TN_W N (by omega)
      refine r_keep2 (s' := up1 s 0 v) R W Z (Or.inr (Or.inl ⟨rfl, rfl, v, rfl⟩)) (fun μ1 R1 F1 => ?_)
      show kx_wx _ _ _ _ _ _ _ _
      refine ks_aload_n rfl rfl ?_
      refine ks_getr (b := 30) rfl rfl rfl rfl (by decide) ?_
      refine ks_iload_n rfl rfl ?_
      refine ks_puti rfl rfl ?_
      refine ks_iload_n rfl rfl ?_
      refine ks_ireturn rfl ?_
      -- at 62: ret  st [None]
      refine t2 (by omega) c2.1 c2.2 _ (RC_fr R1 (fun c c0 c1 => by rw [kx_up_row (by omega)])) ?_ (fun c hc => ?_)
      · have := TRx_10 (v := v) (TR_fr T0 (fun c c0 c1 => F1 c (by omega)))
        unfold TR
        rw [up1_ne (by omega)]
        exact this
      · rw [kx_up_row (by omega), F1 c (by omega)]
    · show kx_wx _ _ _ _ _ (_ :: _) _ _
      refine ks_if_ne_0 rfl ?_
      refine ks_ldc rfl ?_
      refine ks_ireturn rfl ?_
      -- at 21: ret  st ['-1000001']
      exact t1 (by omega) c2
theorem r_Xgive (hv : kx_in v) (N : TN s) (R : RC μ m h s) (T : TR μ 30 s) (t0 : ¬ (0 ≤ v ∧ v < s 1) → Q (some (kI (-1000001))) (kg L) μ) (t2 : 0 ≤ v → v < s 1 → ∀ μ', RC μ' (hs_len m) (hs_push m h s) (up1 (up1 s 4 v) 5 0) → TR μ' 30 (up1 (up1 s 4 v) 5 0) → FrX μ μ' → Q (some (kI (s 4))) (kg L) μ') : kx_cx (ke (d + 3)) 78 [kR 1, kI v] (kg L) μ Q := by
  refine ke_start (tb := kt_X_give) (ls := [some (kR 1), some (kI v), none]) rfl rfl ?_
  obtain ⟨n1, n2, n3⟩ := TN_in N
  have T0 := T
  obtain ⟨e8, e9, e10, e11, e12, e13, eh, eo⟩ := T
  refine ks_aload_n rfl rfl ?_
  refine ks_getr (b := 30) rfl rfl rfl rfl (by decide) ?_
  refine ks_iload_n rfl rfl ?_
  refine ks_callv_2 rfl rfl rfl (Nat.le_of_ble_eq_true rfl) ?_
  -- at 5: call Town_hasHead st []
  refine r_hasHead (kg_T30 L) hv ⟨by omega, by omega⟩ (fun c => ?_) (fun c => ?_)
  · show kx_wx _ _ _ _ _ (_ :: _) _ _
    refine ks_if_ne_1 rfl ?_
    refine ks_aload_n rfl rfl ?_
    refine ks_getr (b := 30) rfl rfl rfl rfl (by decide) ?_
    refine ks_geti rfl rfl rfl rfl (by (try simp only [kx_up_at, kx_row_at, up1_at, Nat.reduceEqDiff, Int.reduceEq, Int.reduceNeg, and_true, true_and, and_false, false_and, and_self, reduceIte, Nat.add_left_cancel_iff, Nat.add_eq_left, Nat.left_eq_add, Nat.reduceAdd, Int.add_left_inj, Int.add_right_inj, e10, e11, e12]); rfl) ?_
    refine ks_istore_n_2 rfl rfl ?_
    refine ks_aload_n rfl rfl ?_
    refine ks_getr (b := 39) rfl rfl rfl rfl (by decide) ?_
    refine ks_iconst rfl ?_
    refine ks_iload_n rfl rfl ?_
    refine ks_aload_n rfl rfl ?_
    refine ks_getr (b := 30) rfl rfl rfl rfl (by decide) ?_
    refine ks_geti rfl rfl rfl rfl (by (try simp only [kx_up_at, kx_row_at, up1_at, Nat.reduceEqDiff, Int.reduceEq, Int.reduceNeg, and_true, true_and, and_false, false_and, and_self, reduceIte, Nat.add_left_cancel_iff, Nat.add_eq_left, Nat.left_eq_add, Nat.reduceAdd, Int.add_left_inj, Int.add_right_inj, e10, e11, e12]); rfl) ?_
    refine ks_iload_n rfl rfl ?_
    refine ks_callv_5 rfl rfl rfl (Nat.le_of_ble_eq_true rfl) ?_
    -- at 36: call Acts_keep st []
    obtain ⟨W, Z⟩ := TN_W N (by omega)
    refine r_keep2 (s' := up1 (up1 s 4 v) 5 0) R W Z (Or.inr (Or.inr (Or.inl ⟨rfl, rfl, rfl, v, rfl⟩))) (fun μ1 R1 F1 => ?_)
    show kx_wx _ _ _ _ _ _ _ _
    refine ks_aload_n rfl rfl ?_
    refine ks_getr (b := 30) rfl rfl rfl rfl (by decide) ?_
    refine ks_iload_n rfl rfl ?_
    refine ks_callv_2 rfl rfl rfl (Nat.le_of_ble_eq_true rfl) ?_
    -- at 44: call Town_handTo st []
    refine r_handTo (kg_T30 L) ?_
    show kx_wx _ _ _ _ _ _ _ _
    refine ks_iload_n rfl rfl ?_
    refine ks_ireturn rfl ?_
    -- at 48: ret  st [None]
    refine t2 (by omega) (by omega) _ (RC_fr R1 (fun c c0 c1 => by rw [kx_up_row (by omega), kx_up_row (by omega)])) ?_ (fun c hc => ?_)
    · have := TRx_12 (v := 0) (TRx_11 (v := v) (TR_fr T0 (fun c c0 c1 => F1 c (by omega)))) (by rw [up1_ne (by omega)]; omega)
      unfold TR
      rw [up1_ne (by omega), up1_ne (by omega)]
      exact this
    · rw [kx_up_row (by omega), kx_up_row (by omega), F1 c (by omega)]
  · show kx_wx _ _ _ _ _ (_ :: _) _ _
    refine ks_if_ne_0 rfl ?_
    refine ks_ldc rfl ?_
    refine ks_ireturn rfl ?_
    -- at 13: ret  st ['-1000001']
    exact t0 (by omega)
theorem r_Xorder (hv : kx_in v) (N : TN s) (R : RC μ m h s) (T : TR μ 30 s) (t0 : s 1 = 0 → Q (some (kI (-1000002))) (kg L) μ) (t1 : 1 ≤ s 1 → ¬ (1 ≤ v ∧ v ≤ 40) → Q (some (kI (-1000001))) (kg L) μ) (t3 : 1 ≤ s 1 → 1 ≤ v → v ≤ 40 → s 2 = 4 → Q (some (kI (-1000003))) (kg L) μ) (t2 : 1 ≤ s 1 → 1 ≤ v → v ≤ 40 → s 2 < 4 → ∀ μ', RC μ' (hs_len m) (hs_push m h s) (tw_told s v) → TR μ' 30 (tw_told s v) → FrX μ μ' → Q (some (kI (s 2))) (kg L) μ') : kx_cx (ke (d + 3)) 79 [kR 1, kI v] (kg L) μ Q := by
  refine ke_start (tb := kt_X_order) (ls := [some (kR 1), some (kI v), none]) rfl rfl ?_
  obtain ⟨n1, n2, n3⟩ := TN_in N
  have T0 := T
  obtain ⟨e8, e9, e10, e11, e12, e13, eh, eo⟩ := T
  refine ks_aload_n rfl rfl ?_
  refine ks_callv_1 rfl rfl rfl (Nat.le_of_ble_eq_true rfl) ?_
  -- at 1: call X_isNoTown st []
  refine r_isNoTown ⟨by omega, by omega⟩ (fun c => ?_) (fun c => ?_)
  · show kx_wx _ _ _ _ _ (_ :: _) _ _
    refine ks_if_eq_1 rfl ?_
    refine ks_ldc rfl ?_
    refine ks_ireturn rfl ?_
    -- at 9: ret  st ['-1000002']
    exact t0 (by omega)
  · show kx_wx _ _ _ _ _ (_ :: _) _ _
    refine ks_if_eq_0 rfl ?_
    refine ks_iload_n rfl rfl ?_
    refine ks_iconst rfl ?_
    refine ks_bipush rfl ?_
    refine ks_calls_3 rfl (Nat.le_of_ble_eq_true rfl) ?_
    -- at 14: call X_isBetween st []
    refine r_isBetween hv ⟨by omega, by omega⟩ ⟨by omega, by omega⟩ (fun c2 => ?_) (fun c2 => ?_)
    · show kx_wx _ _ _ _ _ (_ :: _) _ _
      refine ks_if_ne_1 rfl ?_
      refine ks_aload_n rfl rfl ?_
      refine ks_getr (b := 30) rfl rfl rfl rfl (by decide) ?_
      refine ks_geti rfl rfl rfl rfl (by (try simp only [kx_up_at, kx_row_at, up1_at, Nat.reduceEqDiff, Int.reduceEq, Int.reduceNeg, and_true, true_and, and_false, false_and, and_self, reduceIte, Nat.add_left_cancel_iff, Nat.add_eq_left, Nat.left_eq_add, Nat.reduceAdd, Int.add_left_inj, Int.add_right_inj, e9]); rfl) ?_
      refine ks_iconst rfl ?_
      -- at 31: if lt -> 37 else 34 st ['4', None]
      obtain ⟨W, Z⟩ := TN_W N (by omega)
      refine ks_icmp_lt rfl ⟨by omega, by omega⟩ ⟨by omega, by omega⟩ (fun c3 => ?_) (fun c3 => ?_)
      · refine ks_aload_n rfl rfl ?_
        refine ks_getr (b := 30) rfl rfl rfl rfl (by decide) ?_
        refine ks_iload_n rfl rfl ?_
        refine ks_callv_2 rfl rfl rfl (Nat.le_of_ble_eq_true rfl) ?_
        -- at 42: call Town_addOrder st []
        refine r_addOrder (kg_T30 L) T0 (by omega) (by omega) (fun μ1 T1 F1 => ?_)
        obtain ⟨f8, f9, f10, f11, f12, f13, fh, fo⟩ := T1
        simp (disch := omega) only [up1_ne, up1_self] at f8 f9 f10 f11 f12 f13 fh fo
        show kx_wx _ _ _ _ _ (_ :: _) _ _
        refine ks_istore_n_2 rfl rfl ?_
        refine ks_aload_n rfl rfl ?_
        refine ks_getr (b := 39) rfl rfl rfl rfl (by decide) ?_
        refine ks_iconst rfl ?_
        refine ks_aload_n rfl rfl ?_
        refine ks_getr (b := 30) rfl rfl rfl rfl (by decide) ?_
        refine ks_geti rfl rfl rfl rfl (by (try simp only [kx_up_at, kx_row_at, up1_at, Nat.reduceEqDiff, Int.reduceEq, Int.reduceNeg, and_true, true_and, and_false, false_and, and_self, reduceIte, Nat.add_left_cancel_iff, Nat.add_eq_left, Nat.left_eq_add, Nat.reduceAdd, Int.add_left_inj, Int.add_right_inj, f11, f12]); rfl) ?_
        refine ks_aload_n rfl rfl ?_
        refine ks_getr (b := 30) rfl rfl rfl rfl (by decide) ?_
        refine ks_geti rfl rfl rfl rfl (by (try simp only [kx_up_at, kx_row_at, up1_at, Nat.reduceEqDiff, Int.reduceEq, Int.reduceNeg, and_true, true_and, and_false, false_and, and_self, reduceIte, Nat.add_left_cancel_iff, Nat.add_eq_left, Nat.left_eq_add, Nat.reduceAdd, Int.add_left_inj, Int.add_right_inj, f11, f12]); rfl) ?_
        refine ks_iload_n rfl rfl ?_
        refine ks_callv_5 rfl rfl rfl (Nat.le_of_ble_eq_true rfl) ?_
        -- at 66: call Acts_keep st []
        refine r_keep2 (s' := tw_told s v) (RC_fr R (fun c c0 c1 => F1 c (by omega))) W Z (Or.inr (Or.inr (Or.inr (Or.inl ⟨rfl, rfl, c3, v, rfl⟩)))) (fun μ2 R2 F2 => ?_)
        show kx_wx _ _ _ _ _ _ _ _
        refine ks_iload_n rfl rfl ?_
        refine ks_ireturn rfl ?_
        -- at 70: ret  st [None]
        refine t2 (by omega) c2.1 c2.2 c3 _ R2 (TR_fr (μ := μ1) ?_ (fun c c0 c1 => F2 c (by omega))) (fun c hc => ?_)
        · unfold tw_told
          refine ⟨?_, ?_, ?_, ?_, ?_, ?_, fun i i0 i1 => ?_, fun k k0 k1 => ?_⟩
          · simp (disch := omega) only [up1_ne]; exact f8
          · simp (disch := omega) only [up1_self]; exact f9
          · simp (disch := omega) only [up1_ne]; exact f10
          · simp (disch := omega) only [up1_ne]; exact f11
          · simp (disch := omega) only [up1_ne]; exact f12
          · simp (disch := omega) only [up1_ne]; exact f13
          · simp (disch := omega) only [up1_ne] at i1
            have := fh i i0 i1
            simp (disch := omega) only [up1_ne] at this ⊢; exact this
          · rw [up1_self] at k1
            have := fo k k0 (by omega)
            by_cases e : k = s 2
            · subst e
              rw [up1_ne (i := 2) (j := 38 + s 2) (by omega), up1_self (i := 38 + s 2)] at this
              rw [up1_ne (i := 2) (j := 38 + s 2) (by omega), up1_ne (i := 42 + s 2) (j := 38 + s 2) (by omega), up1_self (i := 38 + s 2)]
              simp (disch := omega) only [up1_ne, up1_self] at this ⊢; exact this
            · rw [up1_ne (i := 2) (j := 38 + k) (by omega), up1_ne (i := 38 + s 2) (j := 38 + k) (by omega), up1_ne (i := 34 + s 2) (j := 38 + k) (by omega), up1_ne (i := 30 + s 2) (j := 38 + k) (by omega)] at this
              rw [up1_ne (i := 2) (j := 38 + k) (by omega), up1_ne (i := 42 + s 2) (j := 38 + k) (by omega), up1_ne (i := 38 + s 2) (j := 38 + k) (by omega), up1_ne (i := 34 + s 2) (j := 38 + k) (by omega), up1_ne (i := 30 + s 2) (j := 38 + k) (by omega)]
              simp (disch := omega) only [up1_ne] at this ⊢; exact this
        · rw [F2 c (by omega), F1 c (by omega)]
      · refine ks_ldc rfl ?_
        refine ks_ireturn rfl ?_
        -- at 36: ret  st ['-1000003']
        exact t3 (by omega) c2.1 c2.2 (by omega)
    · show kx_wx _ _ _ _ _ (_ :: _) _ _
      refine ks_if_ne_0 rfl ?_
      refine ks_ldc rfl ?_
      refine ks_ireturn rfl ?_
      -- at 22: ret  st ['-1000001']
      exact t1 (by omega) c2
theorem r_Xback (hv : kx_in v) (N : TN s) (R : RC μ m h s) (T : TR μ 30 s) (t0 : ¬ (0 ≤ v ∧ v < s 2) → Q (some (kI (-1000001))) (kg L) μ) (t1 : 0 ≤ v → v < s 2 → ¬ s (38 + v) = 0 → Q (some (kI (-1000002))) (kg L) μ) (t2 : 0 ≤ v → v < s 2 → s (38 + v) = 0 → ∀ μ', RC μ' (hs_len m) (hs_push m h s) (up1 s (38 + v) 2) → TR μ' 30 (up1 s (38 + v) 2) → FrX μ μ' → Q (some (kI (s (34 + v)))) (kg L) μ') : kx_cx (ke (d + 3)) 80 [kR 1, kI v] (kg L) μ Q := by
  refine ke_start (tb := kt_X_back) (ls := [some (kR 1), some (kI v)]) rfl rfl ?_
  obtain ⟨n1, n2, n3⟩ := TN_in N
  have T0 := T
  obtain ⟨e8, e9, e10, e11, e12, e13, eh, eo⟩ := T
  refine ks_aload_n rfl rfl ?_
  refine ks_getr (b := 30) rfl rfl rfl rfl (by decide) ?_
  refine ks_iload_n rfl rfl ?_
  refine ks_callv_2 rfl rfl rfl (Nat.le_of_ble_eq_true rfl) ?_
  -- at 5: call Town_hasOrder st []
  refine r_hasOrder (kg_T30 L) hv ⟨by omega, by omega⟩ (fun c => ?_) (fun c => ?_)
  · have c0 := c.1
    have c1 : v < s 2 := by omega
    obtain ⟨W, Z⟩ := TN_W N (by omega)
    have w8 := W.2.2.2.2.2.2.2 v c0 c1
    obtain ⟨o1, o2, o3, o4⟩ := eo v c0 c1
    show kx_wx _ _ _ _ _ (_ :: _) _ _
    refine ks_if_ne_1 rfl ?_
    refine ks_aload_n rfl rfl ?_
    refine ks_getr (b := 30) rfl rfl rfl rfl (by decide) ?_
    refine ks_getr (b := 37) rfl rfl rfl rfl (by decide) ?_
    refine ks_iload_n rfl rfl ?_
    refine ks_iaload rfl rfl (by omega) (by omega) (by (try simp only [kx_up_at, kx_row_at, up1_at, Nat.reduceEqDiff, Int.reduceEq, Int.reduceNeg, and_true, true_and, and_false, false_and, and_self, reduceIte, Nat.add_left_cancel_iff, Nat.add_eq_left, Nat.left_eq_add, Nat.reduceAdd, Int.add_left_inj, Int.add_right_inj, e11, e12, o3]); rfl) ?_
    -- at 23: if eq -> 29 else 26 st [None]
    refine ks_if_eq rfl ⟨by omega, by omega⟩ (fun c2 => ?_) (fun c2 => ?_)
    · refine ks_aload_n rfl rfl ?_
      refine ks_getr (b := 39) rfl rfl rfl rfl (by decide) ?_
      refine ks_iconst rfl ?_
      refine ks_aload_n rfl rfl ?_
      refine ks_getr (b := 30) rfl rfl rfl rfl (by decide) ?_
      refine ks_geti rfl rfl rfl rfl (by (try simp only [kx_up_at, kx_row_at, up1_at, Nat.reduceEqDiff, Int.reduceEq, Int.reduceNeg, and_true, true_and, and_false, false_and, and_self, reduceIte, Nat.add_left_cancel_iff, Nat.add_eq_left, Nat.left_eq_add, Nat.reduceAdd, Int.add_left_inj, Int.add_right_inj, e11, e12, o3]); rfl) ?_
      refine ks_aload_n rfl rfl ?_
      refine ks_getr (b := 30) rfl rfl rfl rfl (by decide) ?_
      refine ks_geti rfl rfl rfl rfl (by (try simp only [kx_up_at, kx_row_at, up1_at, Nat.reduceEqDiff, Int.reduceEq, Int.reduceNeg, and_true, true_and, and_false, false_and, and_self, reduceIte, Nat.add_left_cancel_iff, Nat.add_eq_left, Nat.left_eq_add, Nat.reduceAdd, Int.add_left_inj, Int.add_right_inj, e11, e12, o3]); rfl) ?_
      refine ks_iload_n rfl rfl ?_
      refine ks_callv_5 rfl rfl rfl (Nat.le_of_ble_eq_true rfl) ?_
      -- at 49: call Acts_keep st []
      refine r_keep2 (s' := up1 s (38 + v) 2) R W Z (Or.inr (Or.inr (Or.inr (Or.inr ⟨rfl, c0, c1, c2, rfl⟩)))) (fun μ1 R1 F1 => ?_)
      have o5 : μ1 36 v = s (34 + v) := by rw [F1 36 (by omega)]; exact o2
      show kx_wx _ _ _ _ _ _ _ _
      refine ks_aload_n rfl rfl ?_
      refine ks_getr (b := 30) rfl rfl rfl rfl (by decide) ?_
      refine ks_getr (b := 37) rfl rfl rfl rfl (by decide) ?_
      refine ks_iload_n rfl rfl ?_
      refine ks_iconst rfl ?_
      refine ks_iastore rfl rfl (by omega) (by omega) ?_
      refine ks_aload_n rfl rfl ?_
      refine ks_getr (b := 30) rfl rfl rfl rfl (by decide) ?_
      refine ks_getr (b := 36) rfl rfl rfl rfl (by decide) ?_
      refine ks_iload_n rfl rfl ?_
      refine ks_iaload rfl rfl (by omega) (by omega) (by (try simp only [kx_up_at, kx_row_at, up1_at, Nat.reduceEqDiff, Int.reduceEq, Int.reduceNeg, and_true, true_and, and_false, false_and, and_self, reduceIte, Nat.add_left_cancel_iff, Nat.add_eq_left, Nat.left_eq_add, Nat.reduceAdd, Int.add_left_inj, Int.add_right_inj, o5]); rfl) ?_
      refine ks_ireturn rfl ?_
      -- at 71: ret  st [None]
      refine t2 c0 c1 c2 _ (RC_fr R1 (fun c c0 c1 => by rw [kx_up_row (by omega)])) ?_ (fun c hc => ?_)
      · refine ⟨?_, ?_, ?_, ?_, ?_, ?_, fun i i0 i1 => ?_, fun k k0 k1 => ?_⟩
        · simp (disch := omega) only [up1_ne, kx_up_row, F1]; exact e8
        · simp (disch := omega) only [up1_ne, kx_up_row, F1]; exact e9
        · simp (disch := omega) only [up1_ne, kx_up_row, F1]; exact e10
        · simp (disch := omega) only [up1_ne, kx_up_row, F1]; exact e11
        · simp (disch := omega) only [up1_ne, kx_up_row, F1]; exact e12
        · simp (disch := omega) only [up1_ne, kx_up_row, F1]; exact e13
        · simp (disch := omega) only [up1_ne] at i1
          have := eh i i0 i1
          simp (disch := omega) only [up1_ne, kx_up_row, F1]; exact this
        · simp (disch := omega) only [up1_ne] at k1
          obtain ⟨p1, p2, p3, p4⟩ := eo k k0 k1
          by_cases e : k = v
          · subst e
            rw [up1_self, if_neg (by omega)]
            rw [c2, if_neg (by omega)] at p4
            simp (disch := omega) only [up1_ne, kx_up_row, kx_up_self, F1]
            exact ⟨p1, p2, trivial, p4⟩
          · rw [up1_ne (i := 38 + v) (j := 38 + k) (by omega)]
            simp (disch := omega) only [up1_ne, kx_up_row, kx_up_oth, F1]
            exact ⟨p1, p2, p3, p4⟩
      · rw [kx_up_row (by omega), F1 c (by omega)]
    · refine ks_ldc rfl ?_
      refine ks_ireturn rfl ?_
      -- at 28: ret  st ['-1000002']
      exact t1 c0 c1 c2
  · show kx_wx _ _ _ _ _ (_ :: _) _ _
    refine ks_if_ne_0 rfl ?_
    refine ks_ldc rfl ?_
    refine ks_ireturn rfl ?_
    -- at 13: ret  st ['-1000001']
    exact t0 (by omega)
theorem l_Xsteps {n : Nat} (hn : n ≤ 20) (hb : s 3 + n ≤ 999) (W : tw_W 999 s) (Z : tw_Z s) (t : ∀ μ', RC μ' (hs_g m h s n).1 (hs_g m h s n).2 (tw_go s n) → TR μ' 30 (tw_go s n) → FrX μ μ' → Q (some (kI (tw_go s n 4))) (kg L) μ') : ∀ (r j : Nat) (μ1 : kx_M) (x3 x4 : Option kx_V), j + r = n → RC μ1 (hs_g m h s j).1 (hs_g m h s j).2 (tw_go s j) → TR μ1 30 (tw_go s j) → FrX μ μ1 → kx_wx (ke (d + 3)) kt_X_steps Q 43 [some (kR 1), some (kI n), some (kI j), x3, x4] [] (kg L) μ1 := by
  have W0 := tw_W_self W
  intro r
  induction r with
  | zero =>
    intro j μ1 x3 x4 hj R T F
    rw [Nat.add_zero] at hj
    subst hj
    have e11 := T.2.2.2.1
    refine ks_iload_n rfl rfl ?_
    refine ks_iload_n rfl rfl ?_
    -- at 45: if ge -> 89 else 48 st [None, None]
    refine ks_icmp_ge rfl ⟨by omega, by omega⟩ ⟨by omega, by omega⟩ (fun c => absurd c (by omega)) (fun c => ?_)
    refine ks_aload_n rfl rfl ?_
    refine ks_getr (b := 30) rfl rfl rfl rfl (by decide) ?_
    refine ks_geti rfl rfl rfl rfl (by (try simp only [kx_up_at, kx_row_at, up1_at, Nat.reduceEqDiff, Int.reduceEq, Int.reduceNeg, and_true, true_and, and_false, false_and, and_self, reduceIte, Nat.add_left_cancel_iff, Nat.add_eq_left, Nat.left_eq_add, Nat.reduceAdd, Int.add_left_inj, Int.add_right_inj, e11]); rfl) ?_
    refine ks_ireturn rfl ?_
    -- at 96: ret  st [None]
    exact t _ R T F
  | succ r ih =>
    intro j μ1 x3 x4 hj R T F
    have Wj := tw_W_mono (tw_W_go W0 j) (C := 999) (by omega)
    have Zj := tw_Z_go W Z j
    obtain ⟨e8, e9, e10, e11, e12, e13, eh, eo⟩ := T
    have T0 : TR μ1 30 (tw_go s j) := ⟨e8, e9, e10, e11, e12, e13, eh, eo⟩
    refine ks_iload_n rfl rfl ?_
    refine ks_iload_n rfl rfl ?_
    -- at 45: if ge -> 89 else 48 st [None, None]
    refine ks_icmp_ge rfl ⟨by omega, by omega⟩ ⟨by omega, by omega⟩ (fun c => ?_) (fun c => absurd c (by omega))
    refine ks_aload_n rfl rfl ?_
    refine ks_getr (b := 30) rfl rfl rfl rfl (by decide) ?_
    refine ks_geti rfl rfl rfl rfl (by (try simp only [kx_up_at, kx_row_at, up1_at, Nat.reduceEqDiff, Int.reduceEq, Int.reduceNeg, and_true, true_and, and_false, false_and, and_self, reduceIte, Nat.add_left_cancel_iff, Nat.add_eq_left, Nat.left_eq_add, Nat.reduceAdd, Int.add_left_inj, Int.add_right_inj, e11, e12]); rfl) ?_
    refine ks_istore_n_3 rfl rfl ?_
    refine ks_aload_n rfl rfl ?_
    refine ks_getr (b := 30) rfl rfl rfl rfl (by decide) ?_
    refine ks_geti rfl rfl rfl rfl (by (try simp only [kx_up_at, kx_row_at, up1_at, Nat.reduceEqDiff, Int.reduceEq, Int.reduceNeg, and_true, true_and, and_false, false_and, and_self, reduceIte, Nat.add_left_cancel_iff, Nat.add_eq_left, Nat.left_eq_add, Nat.reduceAdd, Int.add_left_inj, Int.add_right_inj, e11, e12]); rfl) ?_
    refine ks_istore_4 rfl rfl ?_
    refine ks_aload_n rfl rfl ?_
    refine ks_getr (b := 39) rfl rfl rfl rfl (by decide) ?_
    refine ks_iconst rfl ?_
    refine ks_iload_n rfl rfl ?_
    refine ks_iload rfl rfl ?_
    refine ks_aload_n rfl rfl ?_
    refine ks_getr (b := 30) rfl rfl rfl rfl (by decide) ?_
    refine ks_callv_1 rfl rfl rfl (Nat.le_of_ble_eq_true rfl) ?_
    -- at 77: call Town_takeStep st [None, None, '0', '39']
    refine r_takeStep (by omega) (kg_T30 L) T0 Wj (fun μ2 T2 F2 => ?_)
    show kx_wx _ _ _ _ _ (_ :: _) _ _
    refine ks_callv_5 rfl rfl rfl (Nat.le_of_ble_eq_true rfl) ?_
    -- at 80: call Acts_keep st []
    refine r_keep2 (s' := tw_step (tw_go s j)) (RC_fr R (fun c c0 c1 => F2 c (by omega))) Wj Zj (Or.inl ⟨rfl, rfl, rfl, rfl, rfl⟩) (fun μ3 R3 F3 => ?_)
    show kx_wx _ _ _ _ _ _ _ _
    refine ks_iinc_2 rfl rfl ?_
    refine ks_goto rfl ?_
    -- at 43: stop  st []
    refine ih (j + 1) μ3 _ _ (by omega) R3 (TR_fr T2 (fun c c0 c1 => F3 c (by omega))) (fun c hc => ?_)
    rw [F3 c (by omega), F2 c (by omega), F c hc]
theorem r_Xsteps (hv : kx_in v) (N : TN s) (R : RC μ m h s) (T : TR μ 30 s) (t0 : s 1 = 0 → Q (some (kI (-1000002))) (kg L) μ) (t1 : 1 ≤ s 1 → ¬ (1 ≤ v ∧ v ≤ 20) → Q (some (kI (-1000001))) (kg L) μ) (t3 : 1 ≤ s 1 → 1 ≤ v → v ≤ 20 → 999 < s 3 + v → Q (some (kI (-1000003))) (kg L) μ) (t2 : 1 ≤ s 1 → 1 ≤ v → v ≤ 20 → s 3 + v ≤ 999 → ∀ μ', RC μ' (hs_g m h s v.toNat).1 (hs_g m h s v.toNat).2 (tw_go s v.toNat) → TR μ' 30 (tw_go s v.toNat) → FrX μ μ' → Q (some (kI (tw_go s v.toNat 4))) (kg L) μ') : kx_cx (ke (d + 4)) 76 [kR 1, kI v] (kg L) μ Q := by
  refine ke_start (tb := kt_X_steps) (ls := [some (kR 1), some (kI v), none, none, none]) rfl rfl ?_
  obtain ⟨n1, n2, n3⟩ := TN_in N
  have T0 := T
  obtain ⟨e8, e9, e10, e11, e12, e13, eh, eo⟩ := T
  refine ks_aload_n rfl rfl ?_
  refine ks_callv_1 rfl rfl rfl (Nat.le_of_ble_eq_true rfl) ?_
  -- at 1: call X_isNoTown st []
  refine r_isNoTown ⟨by omega, by omega⟩ (fun c => ?_) (fun c => ?_)
  · show kx_wx _ _ _ _ _ (_ :: _) _ _
    refine ks_if_eq_1 rfl ?_
    refine ks_ldc rfl ?_
    refine ks_ireturn rfl ?_
    -- at 9: ret  st ['-1000002']
    exact t0 (by omega)
  · show kx_wx _ _ _ _ _ (_ :: _) _ _
    refine ks_if_eq_0 rfl ?_
    refine ks_iload_n rfl rfl ?_
    refine ks_iconst rfl ?_
    refine ks_bipush rfl ?_
    refine ks_calls_3 rfl (Nat.le_of_ble_eq_true rfl) ?_
    -- at 14: call X_isBetween st []
    refine r_isBetween hv ⟨by omega, by omega⟩ ⟨by omega, by omega⟩ (fun c2 => ?_) (fun c2 => ?_)
    · obtain ⟨W, Z⟩ := TN_W N (by omega)
      have w5 := W.2.2.2.2.1
      show kx_wx _ _ _ _ _ (_ :: _) _ _
      refine ks_if_ne_1 rfl ?_
      refine ks_aload_n rfl rfl ?_
      refine ks_getr (b := 30) rfl rfl rfl rfl (by decide) ?_
      refine ks_geti rfl rfl rfl rfl (by (try simp only [kx_up_at, kx_row_at, up1_at, Nat.reduceEqDiff, Int.reduceEq, Int.reduceNeg, and_true, true_and, and_false, false_and, and_self, reduceIte, Nat.add_left_cancel_iff, Nat.add_eq_left, Nat.left_eq_add, Nat.reduceAdd, Int.add_left_inj, Int.add_right_inj, e13]); rfl) ?_
      refine ks_iload_n rfl rfl ?_
      refine ks_iadd rfl ?_
      refine ks_sipush rfl ?_
      -- at 35: if le -> 41 else 38 st ['999', None]
      refine ks_icmp_le rfl ⟨by omega, by omega⟩ ⟨by omega, by omega⟩ (fun c3 => ?_) (fun c3 => ?_)
      · refine ks_ldc rfl ?_
        refine ks_ireturn rfl ?_
        -- at 40: ret  st ['-1000003']
        exact t3 (by omega) c2.1 c2.2 c3
      · refine ks_iconst rfl ?_
        refine ks_istore_n_2 rfl rfl ?_
        -- at 43: stop  st []
        have ev : v = (v.toNat : Int) := by omega
        generalize v.toNat = n at *
        subst ev
        exact l_Xsteps (by omega) (by omega) W Z (fun μ' a b c => t2 (by omega) (by omega) (by omega) (by omega) μ' a b c) n 0 μ _ _ (by omega) R T0 (fun _ _ => rfl)
    · show kx_wx _ _ _ _ _ (_ :: _) _ _
      refine ks_if_ne_0 rfl ?_
      refine ks_ldc rfl ?_
      refine ks_ireturn rfl ?_
      -- at 22: ret  st ['-1000001']
      exact t1 (by omega) c2
end AE
end
section
/-! the acts of the reference -/
section AF
variable {d L : Nat} {G : kx_G} {μ : kx_M} {Q : Option kx_V → kx_G → kx_M → Prop} {m v : Int} {h : Int → Int → Int} {s : Int → Int}
/-- whether there is a town, as the reference tells it -/
def IT (μ : kx_M) (s : Int → Int) : Prop := (μ 77 4 = 0 ∧ s 1 = 0) ∨ (μ 77 4 = 1 ∧ 1 ≤ s 1)
theorem IT_in {μ : kx_M} {s : Int → Int} (h : IT μ s) : 0 ≤ μ 77 4 ∧ μ 77 4 ≤ 1 ∧ (μ 77 4 = 0 ↔ s 1 = 0) ∧ 0 ≤ s 1 := by
  unfold IT at h
  omega
theorem r_giveTo (t : Q none (kg L) (kx_row μ 81 (up1 (up1 (μ 81) 4 v) 5 0))) : kx_cx (ke (d + 1)) 145 [kR 77, kI v] (kg L) μ Q := by
  refine ke_start (tb := kt_M_giveTo) (ls := [some (kR 77), some (kI v)]) rfl rfl ?_
  refine ks_aload_n rfl rfl ?_
  refine ks_getr (b := 81) rfl rfl rfl rfl (by decide) ?_
  refine ks_iconst rfl ?_
  refine ks_iload_n rfl rfl ?_
  refine ks_iastore rfl rfl (by omega) (by omega) ?_
  refine ks_aload_n rfl rfl ?_
  refine ks_getr (b := 81) rfl rfl rfl rfl (by decide) ?_
  refine ks_iconst rfl ?_
  refine ks_iconst rfl ?_
  refine ks_iastore rfl rfl (by omega) (by omega) ?_
  refine ks_return rfl ?_
  -- at 14: ret  st []
  simp only [kx_up_up1, kx_row_self, kx_row_row]
  exact t
theorem r_Mwind (hv : kx_in v) (hs : μ 81 = s) (N : TN s) (I : IT μ s) (R : RM μ m h) (t0 : s 1 = 0 → Q (some (kI (-1000002))) (kg L) μ) (t1 : 1 ≤ s 1 → ¬ (0 ≤ v ∧ v ≤ 5) → Q (some (kI (-1000001))) (kg L) μ) (t2 : 1 ≤ s 1 → 0 ≤ v → v ≤ 5 → ∀ μ', RM μ' (hs_len m) (hs_push m h s) → μ' 81 = up1 s 0 v → FrM μ μ' → Q (some (kI (s 0))) (kg L) μ') : kx_cx (ke (d + 2)) 144 [kR 77, kI v] (kg L) μ Q := by
  refine ke_start (tb := kt_M_wind) (ls := [some (kR 77), some (kI v), none]) rfl rfl ?_
  obtain ⟨i0, i1, i2, i3⟩ := IT_in I
  obtain ⟨_, _⟩ := hv
  refine ks_aload_n rfl rfl ?_
  refine ks_geti rfl rfl rfl rfl (by (try simp only [kx_up_at, kx_row_at, up1_at, Nat.reduceEqDiff, Int.reduceEq, Int.reduceNeg, and_true, true_and, and_false, false_and, and_self, reduceIte, Nat.add_left_cancel_iff, Nat.add_eq_left, Nat.left_eq_add, Nat.reduceAdd, Int.add_left_inj, Int.add_right_inj]); rfl) ?_
  -- at 4: if ne -> 10 else 7 st [None]
  refine ks_if_ne rfl ⟨by omega, by omega⟩ (fun c => ?_) (fun c => ?_)
  · refine ks_ldc rfl ?_
    refine ks_ireturn rfl ?_
    -- at 9: ret  st ['-1000002']
    exact t0 (by omega)
  · refine ks_iload_n rfl rfl ?_
    refine ks_i2l rfl ⟨by omega, by omega⟩ ?_
    refine ks_lconst rfl ?_
    refine ks_ldc2_w rfl ?_
    refine ks_calls_3 rfl (Nat.le_of_ble_eq_true rfl) ?_
    -- at 16: call M_in st []
    refine r_in ⟨by omega, by omega⟩ ⟨by omega, by omega⟩ ⟨by omega, by omega⟩ (fun c2 => ?_) (fun c2 => ?_)
    · show kx_wx _ _ _ _ _ (_ :: _) _ _
      refine ks_if_ne_1 rfl ?_
      refine ks_aload_n rfl rfl ?_
      refine ks_callv_1 rfl rfl rfl (Nat.le_of_ble_eq_true rfl) ?_
      -- at 26: call M_note st []
      refine r_note2 R (fun μ1 R1 F1 F2 => ?_)
      have e : μ1 81 = s := by rw [F2 81 (by omega) (by omega)]; exact hs
      show kx_wx _ _ _ _ _ _ _ _
      refine ks_aload_n rfl rfl ?_
      refine ks_getr (b := 81) rfl rfl rfl rfl (by decide) ?_
      refine ks_iconst rfl ?_
      refine ks_iaload rfl rfl (by omega) (by omega) (by (try simp only [kx_up_at, kx_row_at, up1_at, Nat.reduceEqDiff, Int.reduceEq, Int.reduceNeg, and_true, true_and, and_false, false_and, and_self, reduceIte, Nat.add_left_cancel_iff, Nat.add_eq_left, Nat.left_eq_add, Nat.reduceAdd, Int.add_left_inj, Int.add_right_inj, e]); rfl) ?_
      refine ks_istore_n_2 rfl rfl ?_
      refine ks_aload_n rfl rfl ?_
      refine ks_getr (b := 81) rfl rfl rfl rfl (by decide) ?_
      refine ks_iconst rfl ?_
      refine ks_iload_n rfl rfl ?_
      refine ks_iastore rfl rfl (by omega) (by omega) ?_
      refine ks_iload_n rfl rfl ?_
      refine ks_ireturn rfl ?_
      -- at 44: ret  st [None]
      rw [hs] at R1
      refine t2 (by omega) c2.1 c2.2 _ (RM_fr R1 (by rw [kx_up_row (by omega)]) (by rw [kx_up_row (by omega)])) (by rw [kx_up_up1, kx_row_self, e]) ⟨fun j hj => ?_, fun c a1 a2 a3 => ?_⟩
      · rw [kx_up_row (by omega), F1 j hj]
      · rw [kx_up_row (by omega), F2 c a3 a1]
    · show kx_wx _ _ _ _ _ (_ :: _) _ _
      refine ks_if_ne_0 rfl ?_
      refine ks_ldc rfl ?_
      refine ks_ireturn rfl ?_
      -- at 24: ret  st ['-1000001']
      exact t1 (by omega) c2
theorem r_Mgive (hv : kx_in v) (hs : μ 81 = s) (N : TN s) (R : RM μ m h) (t0 : ¬ (0 ≤ v ∧ v < s 1) → Q (some (kI (-1000001))) (kg L) μ) (t2 : 0 ≤ v → v < s 1 → ∀ μ', RM μ' (hs_len m) (hs_push m h s) → μ' 81 = up1 (up1 s 4 v) 5 0 → FrM μ μ' → Q (some (kI (s 4))) (kg L) μ') : kx_cx (ke (d + 3)) 146 [kR 77, kI v] (kg L) μ Q := by
  refine ke_start (tb := kt_M_give) (ls := [some (kR 77), some (kI v), none]) rfl rfl ?_
  obtain ⟨n1, n2, n3⟩ := TN_in N
  refine ks_aload_n rfl rfl ?_
  refine ks_iload_n rfl rfl ?_
  refine ks_callv_2 rfl rfl rfl (Nat.le_of_ble_eq_true rfl) ?_
  -- at 2: call M_isHead st []
  refine r_isHead hv (by rw [hs]; exact ⟨by omega, by omega⟩) (fun c => ?_) (fun c => ?_)
  · rw [hs] at c
    show kx_wx _ _ _ _ _ (_ :: _) _ _
    refine ks_if_ne_1 rfl ?_
    refine ks_aload_n rfl rfl ?_
    refine ks_callv_1 rfl rfl rfl (Nat.le_of_ble_eq_true rfl) ?_
    -- at 12: call M_note st []
    refine r_note2 R (fun μ1 R1 F1 F2 => ?_)
    have e : μ1 81 = s := by rw [F2 81 (by omega) (by omega)]; exact hs
    show kx_wx _ _ _ _ _ _ _ _
    refine ks_aload_n rfl rfl ?_
    refine ks_getr (b := 81) rfl rfl rfl rfl (by decide) ?_
    refine ks_iconst rfl ?_
    refine ks_iaload rfl rfl (by omega) (by omega) (by (try simp only [kx_up_at, kx_row_at, up1_at, Nat.reduceEqDiff, Int.reduceEq, Int.reduceNeg, and_true, true_and, and_false, false_and, and_self, reduceIte, Nat.add_left_cancel_iff, Nat.add_eq_left, Nat.left_eq_add, Nat.reduceAdd, Int.add_left_inj, Int.add_right_inj, e]); rfl) ?_
    refine ks_istore_n_2 rfl rfl ?_
    refine ks_aload_n rfl rfl ?_
    refine ks_iload_n rfl rfl ?_
    refine ks_callv_2 rfl rfl rfl (Nat.le_of_ble_eq_true rfl) ?_
    -- at 24: call M_giveTo st []
    refine r_giveTo ?_
    show kx_wx _ _ _ _ _ _ _ _
    refine ks_iload_n rfl rfl ?_
    refine ks_ireturn rfl ?_
    -- at 28: ret  st [None]
    rw [hs] at R1
    refine t2 c.1 c.2 _ (RM_fr R1 (by rw [kx_row_ne (by omega)]) (by rw [kx_row_ne (by omega)])) (by rw [kx_row_self, e]) ⟨fun j hj => ?_, fun c a1 a2 a3 => ?_⟩
    · rw [kx_row_ne (by omega), F1 j hj]
    · rw [kx_row_ne (by omega), F2 c a3 a1]
  · rw [hs] at c
    show kx_wx _ _ _ _ _ (_ :: _) _ _
    refine ks_if_ne_0 rfl ?_
    refine ks_ldc rfl ?_
    refine ks_ireturn rfl ?_
    -- at 10: ret  st ['-1000001']
    exact t0 c
theorem r_Morder (hv : kx_in v) (hs : μ 81 = s) (N : TN s) (I : IT μ s) (R : RM μ m h) (t0 : s 1 = 0 → Q (some (kI (-1000002))) (kg L) μ) (t1 : 1 ≤ s 1 → ¬ (1 ≤ v ∧ v ≤ 40) → Q (some (kI (-1000001))) (kg L) μ) (t3 : 1 ≤ s 1 → 1 ≤ v → v ≤ 40 → s 2 = 4 → Q (some (kI (-1000003))) (kg L) μ) (t2 : 1 ≤ s 1 → 1 ≤ v → v ≤ 40 → s 2 < 4 → ∀ μ', RM μ' (hs_len m) (hs_push m h s) → μ' 81 = tw_told s v → FrM μ μ' → Q (some (kI (s 2))) (kg L) μ') : kx_cx (ke (d + 2)) 147 [kR 77, kI v] (kg L) μ Q := by
  refine ke_start (tb := kt_M_order) (ls := [some (kR 77), some (kI v), none]) rfl rfl ?_
  obtain ⟨i0, i1, i2, i3⟩ := IT_in I
  obtain ⟨n1, n2, n3⟩ := TN_in N
  obtain ⟨_, _⟩ := hv
  refine ks_aload_n rfl rfl ?_
  refine ks_geti rfl rfl rfl rfl (by (try simp only [kx_up_at, kx_row_at, up1_at, Nat.reduceEqDiff, Int.reduceEq, Int.reduceNeg, and_true, true_and, and_false, false_and, and_self, reduceIte, Nat.add_left_cancel_iff, Nat.add_eq_left, Nat.left_eq_add, Nat.reduceAdd, Int.add_left_inj, Int.add_right_inj]); rfl) ?_
  -- at 4: if ne -> 10 else 7 st [None]
  refine ks_if_ne rfl ⟨by omega, by omega⟩ (fun c => ?_) (fun c => ?_)
  · refine ks_ldc rfl ?_
    refine ks_ireturn rfl ?_
    -- at 9: ret  st ['-1000002']
    exact t0 (by omega)
  · refine ks_iload_n rfl rfl ?_
    refine ks_i2l rfl ⟨by omega, by omega⟩ ?_
    refine ks_lconst rfl ?_
    refine ks_ldc2_w rfl ?_
    refine ks_calls_3 rfl (Nat.le_of_ble_eq_true rfl) ?_
    -- at 16: call M_in st []
    refine r_in ⟨by omega, by omega⟩ ⟨by omega, by omega⟩ ⟨by omega, by omega⟩ (fun c2 => ?_) (fun c2 => ?_)
    · show kx_wx _ _ _ _ _ (_ :: _) _ _
      refine ks_if_ne_1 rfl ?_
      refine ks_aload_n rfl rfl ?_
      refine ks_getr (b := 81) rfl rfl rfl rfl (by decide) ?_
      refine ks_iconst rfl ?_
      refine ks_iaload rfl rfl (by omega) (by omega) (by (try simp only [kx_up_at, kx_row_at, up1_at, Nat.reduceEqDiff, Int.reduceEq, Int.reduceNeg, and_true, true_and, and_false, false_and, and_self, reduceIte, Nat.add_left_cancel_iff, Nat.add_eq_left, Nat.left_eq_add, Nat.reduceAdd, Int.add_left_inj, Int.add_right_inj, hs]); rfl) ?_
      refine ks_iconst rfl ?_
      -- at 32: if ne -> 38 else 35 st ['4', None]
      refine ks_icmp_ne rfl ⟨by omega, by omega⟩ ⟨by omega, by omega⟩ (fun c3 => ?_) (fun c3 => ?_)
      · refine ks_ldc rfl ?_
        refine ks_ireturn rfl ?_
        -- at 37: ret  st ['-1000003']
        exact t3 (by omega) c2.1 c2.2 c3
      · refine ks_aload_n rfl rfl ?_
        refine ks_callv_1 rfl rfl rfl (Nat.le_of_ble_eq_true rfl) ?_
        -- at 39: call M_note st []
        refine r_note2 R (fun μ1 R1 F1 F2 => ?_)
        have e : μ1 81 = s := by rw [F2 81 (by omega) (by omega)]; exact hs
        have m1 : ¬ (2 = 42 + s 2) := by omega
        have m2 : ¬ (2 = 38 + s 2) := by omega
        have m3 : ¬ (2 = 34 + s 2) := by omega
        have m4 : ¬ (2 = 30 + s 2) := by omega
        show kx_wx _ _ _ _ _ _ _ _
        refine ks_aload_n rfl rfl ?_
        refine ks_getr (b := 81) rfl rfl rfl rfl (by decide) ?_
        refine ks_iconst rfl ?_
        refine ks_iaload rfl rfl (by omega) (by omega) (by (try simp only [kx_up_at, kx_row_at, up1_at, Nat.reduceEqDiff, Int.reduceEq, Int.reduceNeg, and_true, true_and, and_false, false_and, and_self, reduceIte, Nat.add_left_cancel_iff, Nat.add_eq_left, Nat.left_eq_add, Nat.reduceAdd, Int.add_left_inj, Int.add_right_inj, e, m1, m2, m3, m4]); rfl) ?_
        refine ks_istore_n_2 rfl rfl ?_
        refine ks_aload_n rfl rfl ?_
        refine ks_getr (b := 81) rfl rfl rfl rfl (by decide) ?_
        refine ks_bipush rfl ?_
        refine ks_iload_n rfl rfl ?_
        refine ks_iadd rfl ?_
        refine ks_iload_n rfl rfl ?_
        refine ks_iastore rfl rfl (by omega) (by omega) ?_
        refine ks_aload_n rfl rfl ?_
        refine ks_getr (b := 81) rfl rfl rfl rfl (by decide) ?_
        refine ks_bipush rfl ?_
        refine ks_iload_n rfl rfl ?_
        refine ks_iadd rfl ?_
        refine ks_iload_n rfl rfl ?_
        refine ks_iastore rfl rfl (by omega) (by omega) ?_
        refine ks_aload_n rfl rfl ?_
        refine ks_getr (b := 81) rfl rfl rfl rfl (by decide) ?_
        refine ks_bipush rfl ?_
        refine ks_iload_n rfl rfl ?_
        refine ks_iadd rfl ?_
        refine ks_iconst rfl ?_
        refine ks_iastore rfl rfl (by omega) (by omega) ?_
        refine ks_aload_n rfl rfl ?_
        refine ks_getr (b := 81) rfl rfl rfl rfl (by decide) ?_
        refine ks_bipush rfl ?_
        refine ks_iload_n rfl rfl ?_
        refine ks_iadd rfl ?_
        refine ks_iconst rfl ?_
        refine ks_iastore rfl rfl (by omega) (by omega) ?_
        refine ks_aload_n rfl rfl ?_
        refine ks_getr (b := 81) rfl rfl rfl rfl (by decide) ?_
        refine ks_iconst rfl ?_
        refine ks_dup2 rfl ?_
        refine ks_iaload rfl rfl (by omega) (by omega) (by (try simp only [kx_up_at, kx_row_at, up1_at, Nat.reduceEqDiff, Int.reduceEq, Int.reduceNeg, and_true, true_and, and_false, false_and, and_self, reduceIte, Nat.add_left_cancel_iff, Nat.add_eq_left, Nat.left_eq_add, Nat.reduceAdd, Int.add_left_inj, Int.add_right_inj, e, m1, m2, m3, m4]); rfl) ?_
        refine ks_iconst rfl ?_
        refine ks_iadd rfl ?_
        refine ks_iastore rfl rfl (by omega) (by omega) ?_
        refine ks_iload_n rfl rfl ?_
        refine ks_ireturn rfl ?_
        -- at 100: ret  st [None]
        rw [hs] at R1
        refine t2 (by omega) c2.1 c2.2 (by omega) _ (RM_fr R1 (by simp (disch := omega) only [kx_up_row]) (by simp (disch := omega) only [kx_up_row])) (by simp only [kx_up_up1, kx_row_self, kx_row_row, e]; rfl) ⟨fun j hj => ?_, fun c a1 a2 a3 => ?_⟩
        · simp (disch := omega) only [kx_up_row]; rw [F1 j hj]
        · simp (disch := omega) only [kx_up_row]; rw [F2 c a3 a1]
    · show kx_wx _ _ _ _ _ (_ :: _) _ _
      refine ks_if_ne_0 rfl ?_
      refine ks_ldc rfl ?_
      refine ks_ireturn rfl ?_
      -- at 24: ret  st ['-1000001']
      exact t1 (by omega) c2
theorem r_Mback (hv : kx_in v) (hs : μ 81 = s) (N : TN s) (R : RM μ m h) (t0 : ¬ (0 ≤ v ∧ v < s 2) → Q (some (kI (-1000001))) (kg L) μ) (t1 : 0 ≤ v → v < s 2 → ¬ s (38 + v) = 0 → Q (some (kI (-1000002))) (kg L) μ) (t2 : 0 ≤ v → v < s 2 → s (38 + v) = 0 → ∀ μ', RM μ' (hs_len m) (hs_push m h s) → μ' 81 = up1 s (38 + v) 2 → FrM μ μ' → Q (some (kI (s (34 + v)))) (kg L) μ') : kx_cx (ke (d + 3)) 148 [kR 77, kI v] (kg L) μ Q := by
  refine ke_start (tb := kt_M_back) (ls := [some (kR 77), some (kI v)]) rfl rfl ?_
  obtain ⟨n1, n2, n3⟩ := TN_in N
  refine ks_aload_n rfl rfl ?_
  refine ks_iload_n rfl rfl ?_
  refine ks_callv_2 rfl rfl rfl (Nat.le_of_ble_eq_true rfl) ?_
  -- at 2: call M_isOrder st []
  refine r_isOrder hv (by rw [hs]; exact ⟨by omega, by omega⟩) (fun c => ?_) (fun c => ?_)
  · rw [hs] at c
    obtain ⟨W, Z⟩ := TN_W N (by omega)
    have w8 := W.2.2.2.2.2.2.2 v c.1 c.2
    show kx_wx _ _ _ _ _ (_ :: _) _ _
    refine ks_if_ne_1 rfl ?_
    refine ks_aload_n rfl rfl ?_
    refine ks_getr (b := 81) rfl rfl rfl rfl (by decide) ?_
    refine ks_bipush rfl ?_
    refine ks_iload_n rfl rfl ?_
    refine ks_iadd rfl ?_
    refine ks_iaload rfl rfl (by omega) (by omega) (by (try simp only [kx_up_at, kx_row_at, up1_at, Nat.reduceEqDiff, Int.reduceEq, Int.reduceNeg, and_true, true_and, and_false, false_and, and_self, reduceIte, Nat.add_left_cancel_iff, Nat.add_eq_left, Nat.left_eq_add, Nat.reduceAdd, Int.add_left_inj, Int.add_right_inj, hs]); rfl) ?_
    -- at 20: if eq -> 26 else 23 st [None]
    refine ks_if_eq rfl ⟨by omega, by omega⟩ (fun c2 => ?_) (fun c2 => ?_)
    · refine ks_aload_n rfl rfl ?_
      refine ks_callv_1 rfl rfl rfl (Nat.le_of_ble_eq_true rfl) ?_
      -- at 27: call M_note st []
      refine r_note2 R (fun μ1 R1 F1 F2 => ?_)
      have e : μ1 81 = s := by rw [F2 81 (by omega) (by omega)]; exact hs
      have m1 : ¬ (34 + v = 38 + v) := by omega
      show kx_wx _ _ _ _ _ _ _ _
      refine ks_aload_n rfl rfl ?_
      refine ks_getr (b := 81) rfl rfl rfl rfl (by decide) ?_
      refine ks_bipush rfl ?_
      refine ks_iload_n rfl rfl ?_
      refine ks_iadd rfl ?_
      refine ks_iconst rfl ?_
      refine ks_iastore rfl rfl (by omega) (by omega) ?_
      refine ks_aload_n rfl rfl ?_
      refine ks_getr (b := 81) rfl rfl rfl rfl (by decide) ?_
      refine ks_bipush rfl ?_
      refine ks_iload_n rfl rfl ?_
      refine ks_iadd rfl ?_
      refine ks_iaload rfl rfl (by omega) (by omega) (by (try simp only [kx_up_at, kx_row_at, up1_at, Nat.reduceEqDiff, Int.reduceEq, Int.reduceNeg, and_true, true_and, and_false, false_and, and_self, reduceIte, Nat.add_left_cancel_iff, Nat.add_eq_left, Nat.left_eq_add, Nat.reduceAdd, Int.add_left_inj, Int.add_right_inj, e, m1]); rfl) ?_
      refine ks_ireturn rfl ?_
      -- at 49: ret  st [None]
      rw [hs] at R1
      refine t2 c.1 c.2 c2 _ (RM_fr R1 (by rw [kx_up_row (by omega)]) (by rw [kx_up_row (by omega)])) (by rw [kx_up_up1, kx_row_self, e]) ⟨fun j hj => ?_, fun c a1 a2 a3 => ?_⟩
      · rw [kx_up_row (by omega), F1 j hj]
      · rw [kx_up_row (by omega), F2 c a3 a1]
    · refine ks_ldc rfl ?_
      refine ks_ireturn rfl ?_
      -- at 25: ret  st ['-1000002']
      exact t1 c.1 c.2 c2
  · rw [hs] at c
    show kx_wx _ _ _ _ _ (_ :: _) _ _
    refine ks_if_ne_0 rfl ?_
    refine ks_ldc rfl ?_
    refine ks_ireturn rfl ?_
    -- at 10: ret  st ['-1000001']
    exact t0 c
theorem l_Msteps {n : Nat} (hn : n ≤ 20) (hb : s 3 + n ≤ 999) (W : tw_W 999 s) (Z : tw_Z s) (t : ∀ μ', RM μ' (hs_g m h s n).1 (hs_g m h s n).2 → μ' 81 = tw_go s n → FrM μ μ' → Q (some (kI (tw_go s n 4))) (kg L) μ') : ∀ (r j : Nat) (μ1 : kx_M), j + r = n → RM μ1 (hs_g m h s j).1 (hs_g m h s j).2 → μ1 81 = tw_go s j → FrM μ μ1 → kx_wx (ke (d + 3)) kt_M_steps Q 44 [some (kR 77), some (kI n), some (kI j)] [] (kg L) μ1 := by
  have W0 := tw_W_self W
  intro r
  induction r with
  | zero =>
    intro j μ1 hj R e F
    rw [Nat.add_zero] at hj
    subst hj
    refine ks_iload_n rfl rfl ?_
    refine ks_iload_n rfl rfl ?_
    -- at 46: if ge -> 63 else 49 st [None, None]
    refine ks_icmp_ge rfl ⟨by omega, by omega⟩ ⟨by omega, by omega⟩ (fun c => absurd c (by omega)) (fun c => ?_)
    refine ks_aload_n rfl rfl ?_
    refine ks_getr (b := 81) rfl rfl rfl rfl (by decide) ?_
    refine ks_iconst rfl ?_
    refine ks_iaload rfl rfl (by omega) (by omega) (by (try simp only [kx_up_at, kx_row_at, up1_at, Nat.reduceEqDiff, Int.reduceEq, Int.reduceNeg, and_true, true_and, and_false, false_and, and_self, reduceIte, Nat.add_left_cancel_iff, Nat.add_eq_left, Nat.left_eq_add, Nat.reduceAdd, Int.add_left_inj, Int.add_right_inj, e]); rfl) ?_
    refine ks_ireturn rfl ?_
    -- at 69: ret  st [None]
    exact t _ R e F
  | succ r ih =>
    intro j μ1 hj R e F
    have Wj := tw_W_mono (tw_W_go W0 j) (C := 999) (by omega)
    refine ks_iload_n rfl rfl ?_
    refine ks_iload_n rfl rfl ?_
    -- at 46: if ge -> 63 else 49 st [None, None]
    refine ks_icmp_ge rfl ⟨by omega, by omega⟩ ⟨by omega, by omega⟩ (fun c => ?_) (fun c => absurd c (by omega))
    refine ks_aload_n rfl rfl ?_
    refine ks_callv_1 rfl rfl rfl (Nat.le_of_ble_eq_true rfl) ?_
    -- at 50: call M_note st []
    refine r_note2 R (fun μ2 R2 F2 F3 => ?_)
    show kx_wx _ _ _ _ _ _ _ _
    refine ks_aload_n rfl rfl ?_
    refine ks_callv_1 rfl rfl rfl (Nat.le_of_ble_eq_true rfl) ?_
    -- at 54: call M_oneStep st []
    have e2 : μ2 81 = tw_go s j := by rw [F3 81 (by omega) (by omega)]; exact e
    refine r_oneStep (B := 999) (by omega) e2 Wj ?_
    show kx_wx _ _ _ _ _ _ _ _
    refine ks_iinc_2 rfl rfl ?_
    refine ks_goto rfl ?_
    -- at 44: stop  st []
    rw [e] at R2
    refine ih (j + 1) _ (by omega) (RM_fr R2 (by rw [kx_row_ne (by omega)]) (by rw [kx_row_ne (by omega)])) (kx_row_self _ _ _) ⟨fun j hj => ?_, fun c a1 a2 a3 => ?_⟩
    · rw [kx_row_ne (by omega), F2 j hj, F.1 j hj]
    · rw [kx_row_ne (by omega), F3 c a3 a1, F.2 c a1 a2 a3]
theorem r_Msteps (hv : kx_in v) (hs : μ 81 = s) (N : TN s) (I : IT μ s) (R : RM μ m h) (t0 : s 1 = 0 → Q (some (kI (-1000002))) (kg L) μ) (t1 : 1 ≤ s 1 → ¬ (1 ≤ v ∧ v ≤ 20) → Q (some (kI (-1000001))) (kg L) μ) (t3 : 1 ≤ s 1 → 1 ≤ v → v ≤ 20 → 999 < s 3 + v → Q (some (kI (-1000003))) (kg L) μ) (t2 : 1 ≤ s 1 → 1 ≤ v → v ≤ 20 → s 3 + v ≤ 999 → ∀ μ', RM μ' (hs_g m h s v.toNat).1 (hs_g m h s v.toNat).2 → μ' 81 = tw_go s v.toNat → FrM μ μ' → Q (some (kI (tw_go s v.toNat 4))) (kg L) μ') : kx_cx (ke (d + 4)) 143 [kR 77, kI v] (kg L) μ Q := by
  refine ke_start (tb := kt_M_steps) (ls := [some (kR 77), some (kI v), none]) rfl rfl ?_
  obtain ⟨i0, i1, i2, i3⟩ := IT_in I
  obtain ⟨n1, n2, n3⟩ := TN_in N
  obtain ⟨_, _⟩ := hv
  refine ks_aload_n rfl rfl ?_
  refine ks_geti rfl rfl rfl rfl (by (try simp only [kx_up_at, kx_row_at, up1_at, Nat.reduceEqDiff, Int.reduceEq, Int.reduceNeg, and_true, true_and, and_false, false_and, and_self, reduceIte, Nat.add_left_cancel_iff, Nat.add_eq_left, Nat.left_eq_add, Nat.reduceAdd, Int.add_left_inj, Int.add_right_inj]); rfl) ?_
  -- at 4: if ne -> 10 else 7 st [None]
  refine ks_if_ne rfl ⟨by omega, by omega⟩ (fun c => ?_) (fun c => ?_)
  · refine ks_ldc rfl ?_
    refine ks_ireturn rfl ?_
    -- at 9: ret  st ['-1000002']
    exact t0 (by omega)
  · refine ks_iload_n rfl rfl ?_
    refine ks_i2l rfl ⟨by omega, by omega⟩ ?_
    refine ks_lconst rfl ?_
    refine ks_ldc2_w rfl ?_
    refine ks_calls_3 rfl (Nat.le_of_ble_eq_true rfl) ?_
    -- at 16: call M_in st []
    refine r_in ⟨by omega, by omega⟩ ⟨by omega, by omega⟩ ⟨by omega, by omega⟩ (fun c2 => ?_) (fun c2 => ?_)
    · obtain ⟨W, Z⟩ := TN_W N (by omega)
      have w5 := W.2.2.2.2.1
      show kx_wx _ _ _ _ _ (_ :: _) _ _
      refine ks_if_ne_1 rfl ?_
      refine ks_aload_n rfl rfl ?_
      refine ks_getr (b := 81) rfl rfl rfl rfl (by decide) ?_
      refine ks_iconst rfl ?_
      refine ks_iaload rfl rfl (by omega) (by omega) (by (try simp only [kx_up_at, kx_row_at, up1_at, Nat.reduceEqDiff, Int.reduceEq, Int.reduceNeg, and_true, true_and, and_false, false_and, and_self, reduceIte, Nat.add_left_cancel_iff, Nat.add_eq_left, Nat.left_eq_add, Nat.reduceAdd, Int.add_left_inj, Int.add_right_inj, hs]); rfl) ?_
      refine ks_iload_n rfl rfl ?_
      refine ks_iadd rfl ?_
      refine ks_sipush rfl ?_
      -- at 36: if le -> 42 else 39 st ['999', None]
      refine ks_icmp_le rfl ⟨by omega, by omega⟩ ⟨by omega, by omega⟩ (fun c3 => ?_) (fun c3 => ?_)
      · refine ks_ldc rfl ?_
        refine ks_ireturn rfl ?_
        -- at 41: ret  st ['-1000003']
        exact t3 (by omega) c2.1 c2.2 c3
      · refine ks_iconst rfl ?_
        refine ks_istore_n_2 rfl rfl ?_
        -- at 44: stop  st []
        have ev : v = (v.toNat : Int) := by omega
        generalize v.toNat = n at *
        subst ev
        exact l_Msteps (by omega) (by omega) W Z (fun μ' a b c => t2 (by omega) (by omega) (by omega) (by omega) μ' a b c) n 0 μ (by omega) R hs ⟨fun _ _ => rfl, fun _ _ _ _ => rfl⟩
    · show kx_wx _ _ _ _ _ (_ :: _) _ _
      refine ks_if_ne_0 rfl ?_
      refine ks_ldc rfl ?_
      refine ks_ireturn rfl ?_
      -- at 24: ret  st ['-1000001']
      exact t1 (by omega) c2
end AF
end
section
/-! foretold, class side -/
theorem Fr_30 {μ μ' : kx_M} {s : Int → Int} {z : Int} (T : TRx μ 30 s z) (F : Fr 45 μ μ') : TRx μ' 30 s z := TR_fr T (fun c c0 c1 => F c (by omega))
theorem tw_W_go60 {s : Int → Int} (W : tw_W 999 s) {n : Nat} (hn : n ≤ 61) : tw_W 2000 (tw_go s n) := tw_W_mono (tw_W_go W n) (by omega)
/-- order o is done behind n steps, and not before -/
def DN (s : Int → Int) (o : Int) (n : Nat) : Prop := tw_go s n (38 + o) = 1 ∧ ∀ i, i < n → tw_go s i (38 + o) = 0
theorem tw_go_12 {B : Int} {s : Int → Int} (W : tw_W B s) (n : Nat) : tw_go s n 1 = s 1 ∧ tw_go s n 2 = s 2 := by
  induction n with
  | zero => exact ⟨rfl, rfl⟩
  | succ n ih =>
    have Wn := tw_W_go W n
    have hfi := tw_found_in (tw_go s n) (tw_go s n 4)
    have w2 := Wn.2.1
    have w1 := Wn.1
    have w3 := Wn.2.2.1
    constructor
    · rw [← ih.1]; show tw_step (tw_go s n) 1 = _
      rw [tw_step_at (by omega), tw_work_lo (by omega) (by omega) (by omega)]
    · rw [← ih.2]; show tw_step (tw_go s n) 2 = _
      rw [tw_step_at (by omega), tw_work_lo (by omega) (by omega) (by omega)]
theorem tw_go_3 {B : Int} {s : Int → Int} (W : tw_W B s) (n : Nat) : tw_go s n 3 = s 3 + n := by
  induction n with
  | zero => simp [tw_go]
  | succ n ih =>
    show tw_step (tw_go s n) 3 = _
    rw [tw_step_3 (tw_W_go W n), ih]; omega
/-- how an order may change in a step -/
theorem tw_step_o {B : Int} {s : Int → Int} (W : tw_W B s) {o : Int} (o0 : 0 ≤ o) (o1 : o < s 2) : (o ≠ tw_found s (s 4) → tw_step s (38 + o) = s (38 + o) ∧ tw_step s (42 + o) = s (42 + o)) ∧ (o = tw_found s (s 4) → s (38 + o) = 0 ∧ (tw_step s (38 + o) = 0 ∨ tw_step s (38 + o) = 1 ∧ tw_step s (42 + o) = s 3 + 1)) := by
  have hfi := tw_found_in s (s 4)
  have w1 := W.1
  have w2 := W.2.1
  have w3 := W.2.2.1
  rw [tw_step_at (by omega), tw_step_at (by omega)]
  generalize tw_found s (s 4) = f at *
  constructor
  · intro e
    unfold tw_work
    split
    · exact ⟨rfl, rfl⟩
    · split
      · simp (disch := omega) only [up1_ne]
        simp
      · simp (disch := omega) only [up1_ne]
        simp
  · intro e
    subst e
    have f2 := (hfi.resolve_left (by omega)).2.2.1
    refine ⟨f2, ?_⟩
    unfold tw_work
    rw [if_neg (by omega)]
    split
    · right
      simp (disch := omega) only [up1_ne, up1_self]
      simp
    · left
      simp (disch := omega) only [up1_ne]
      exact f2
theorem dn_01 {B : Int} {s : Int → Int} (W : tw_W B s) {o : Int} (o0 : 0 ≤ o) (o1 : o < s 2) {n : Nat} (h : tw_go s n (38 + o) = 0) : tw_go s (n + 1) (38 + o) = 0 ∨ (tw_go s (n + 1) (38 + o) = 1 ∧ tw_go s (n + 1) (42 + o) = s 3 + (n + 1 : Nat)) := by
  have e := (tw_go_12 W n).2
  have e3 := tw_go_3 W n
  obtain ⟨k1, k2⟩ := tw_step_o (tw_W_go W n) o0 (by omega)
  show tw_step (tw_go s n) (38 + o) = 0 ∨ (tw_step (tw_go s n) (38 + o) = 1 ∧ tw_step (tw_go s n) (42 + o) = _)
  by_cases e : o = tw_found (tw_go s n) (tw_go s n 4)
  · rcases (k2 e).2 with q | ⟨q1, q2⟩
    · exact Or.inl q
    · exact Or.inr ⟨q1, by rw [q2]; omega⟩
  · rw [(k1 e).1, h]; exact Or.inl rfl
theorem dn_uniq {s : Int → Int} {o : Int} {n m : Nat} (h : DN s o n) (k : DN s o m) : n = m := by
  rcases Nat.lt_trichotomy n m with q | q | q
  · have := k.2 n q; rw [h.1] at this; omega
  · exact q
  · have := h.2 m q; rw [k.1] at this; omega
theorem dn_no {s : Int → Int} {o : Int} {n N : Nat} (h : DN s o n) (k : ∀ i, i ≤ N → tw_go s i (38 + o) = 0) : N < n := by
  rcases Nat.lt_or_ge N n with q | q
  · exact q
  · have := k n q; rw [h.1] at this; omega
section FO
variable {d L : Nat} {G : kx_G} {μ : kx_M} {Q : Option kx_V → kx_G → kx_M → Prop} {s : Int → Int} {z : Int}
theorem r_try (T : TR μ 30 s) (W : tw_W 999 s) (t : ∀ μ', TR μ' 45 s → Fr 45 μ μ' → Q none (kg L) μ') : kx_cx (ke (d + 1)) 54 [kR 45, kR 30] (kg L) μ Q :=
  r_becomeLike (kg_T45 L) (kg_T30 L) (by omega) T W.1.2 W.2.1.2 t
theorem l_go {n : Nat} (hn : n ≤ 60) (W : tw_W 999 s) (t : ∀ μ', TR μ' 45 (tw_go s n) → Fr 45 μ μ' → Q none (kg L) μ') : ∀ (r j : Nat) (μ1 : kx_M), j + r = n → TR μ1 45 (tw_go s j) → Fr 45 μ μ1 → kx_wx (ke (d + 3)) kt_Fore_go Q 2 [some (kR 44), some (kI n), some (kI j)] [] (kg L) μ1 := by
  intro r
  induction r with
  | zero =>
    intro j μ1 hj T F
    rw [Nat.add_zero] at hj
    subst hj
    refine ks_iload_n rfl rfl ?_
    refine ks_iload_n rfl rfl ?_
    -- at 4: if ge -> 21 else 7 st [None, None]
    refine ks_icmp_ge rfl ⟨by omega, by omega⟩ ⟨by omega, by omega⟩ (fun c => absurd c (by omega)) (fun c => ?_)
    refine ks_return rfl ?_
    -- at 21: ret  st []
    exact t _ T F
  | succ r ih =>
    intro j μ1 hj T F
    refine ks_iload_n rfl rfl ?_
    refine ks_iload_n rfl rfl ?_
    -- at 4: if ge -> 21 else 7 st [None, None]
    refine ks_icmp_ge rfl ⟨by omega, by omega⟩ ⟨by omega, by omega⟩ (fun c => ?_) (fun c => absurd c (by omega))
    refine ks_aload_n rfl rfl ?_
    refine ks_getr (b := 45) rfl rfl rfl rfl (by decide) ?_
    refine ks_callv_1 rfl rfl rfl (Nat.le_of_ble_eq_true rfl) ?_
    -- at 11: call Town_takeStep st []
    refine r_takeStep (B := 2000) (by omega) (kg_T45 L) T (tw_W_go60 W (by omega)) (fun μ2 T2 F2 => ?_)
    show kx_wx _ _ _ _ _ (_ :: _) _ _
    refine ks_pop rfl ?_
    refine ks_iinc_2 rfl rfl ?_
    refine ks_goto rfl ?_
    -- at 2: stop  st []
    exact ih (j + 1) μ2 (by omega) T2 (Fr_tr F F2)
theorem r_go {n : Nat} (hn : n ≤ 60) (W : tw_W 999 s) (T : TR μ 45 s) (t : ∀ μ', TR μ' 45 (tw_go s n) → Fr 45 μ μ' → Q none (kg L) μ') : kx_cx (ke (d + 4)) 22 [kR 44, kI n] (kg L) μ Q := by
  refine ke_start (tb := kt_Fore_go) (ls := [some (kR 44), some (kI n), none]) rfl rfl ?_
  refine ks_iconst rfl ?_
  refine ks_istore_n_2 rfl rfl ?_
  -- at 2: stop  st []
  exact l_go hn W t n 0 μ (by omega) T (Fr_rf _ _)
theorem r_holderBehind {n : Nat} (hn : n ≤ 60) (W : tw_W 999 s) (T : TR μ 30 s) (t : ∀ μ', Fr 45 μ μ' → Q (some (kI (tw_go s n 4))) (kg L) μ') : kx_cx (ke (d + 5)) 11 [kR 44, kI n] (kg L) μ Q := by
  refine ke_start (tb := kt_Fore_holderBehind) (ls := [some (kR 44), some (kI n)]) rfl rfl ?_
  refine ks_aload_n rfl rfl ?_
  refine ks_getr (b := 45) rfl rfl rfl rfl (by decide) ?_
  refine ks_aload_n rfl rfl ?_
  refine ks_getr (b := 30) rfl rfl rfl rfl (by decide) ?_
  refine ks_callv_2 rfl rfl rfl (Nat.le_of_ble_eq_true rfl) ?_
  -- at 8: call Town_becomeLike st []
  refine r_try T W (fun μ1 T1 F1 => ?_)
  show kx_wx _ _ _ _ _ _ _ _
  refine ks_aload_n rfl rfl ?_
  refine ks_iload_n rfl rfl ?_
  refine ks_callv_2 rfl rfl rfl (Nat.le_of_ble_eq_true rfl) ?_
  -- at 13: call Fore_go st []
  refine r_go hn W T1 (fun μ2 T2 F2 => ?_)
  have e11 := T2.2.2.2.1
  show kx_wx _ _ _ _ _ _ _ _
  refine ks_aload_n rfl rfl ?_
  refine ks_getr (b := 45) rfl rfl rfl rfl (by decide) ?_
  refine ks_geti rfl rfl rfl rfl (by (try simp only [kx_up_at, kx_row_at, up1_at, Nat.reduceEqDiff, Int.reduceEq, Int.reduceNeg, and_true, true_and, and_false, false_and, and_self, reduceIte, Nat.add_left_cancel_iff, Nat.add_eq_left, Nat.left_eq_add, Nat.reduceAdd, Int.add_left_inj, Int.add_right_inj, e11]); rfl) ?_
  refine ks_ireturn rfl ?_
  -- at 23: ret  st [None]
  exact t _ (Fr_tr F1 F2)
theorem r_workWithin {n : Nat} {h : Int} (hn : n ≤ 60) (h0 : 0 ≤ h) (h1 : h < s 1) (W : tw_W 999 s) (T : TR μ 30 s) (t : ∀ μ', Fr 45 μ μ' → Q (some (kI (tw_go s n (24 + h) - s (24 + h)))) (kg L) μ') : kx_cx (ke (d + 5)) 17 [kR 44, kI h, kI n] (kg L) μ Q := by
  refine ke_start (tb := kt_Fore_workWithin) (ls := [some (kR 44), some (kI h), some (kI n)]) rfl rfl ?_
  have w1 := W.1
  refine ks_aload_n rfl rfl ?_
  refine ks_getr (b := 45) rfl rfl rfl rfl (by decide) ?_
  refine ks_aload_n rfl rfl ?_
  refine ks_getr (b := 30) rfl rfl rfl rfl (by decide) ?_
  refine ks_callv_2 rfl rfl rfl (Nat.le_of_ble_eq_true rfl) ?_
  -- at 8: call Town_becomeLike st []
  refine r_try T W (fun μ1 T1 F1 => ?_)
  show kx_wx _ _ _ _ _ _ _ _
  refine ks_aload_n rfl rfl ?_
  refine ks_iload_n rfl rfl ?_
  refine ks_callv_2 rfl rfl rfl (Nat.le_of_ble_eq_true rfl) ?_
  -- at 13: call Fore_go st []
  refine r_go hn W T1 (fun μ2 T2 F2 => ?_)
  have e := (T2.2.2.2.2.2.2.1 h h0 (by rw [(tw_go_12 W n).1]; exact h1)).2.2.2
  have e2 := ((Fr_30 T (Fr_tr F1 F2)).2.2.2.2.2.2.1 h h0 h1).2.2.2
  show kx_wx _ _ _ _ _ _ _ _
  refine ks_aload_n rfl rfl ?_
  refine ks_getr (b := 45) rfl rfl rfl rfl (by decide) ?_
  refine ks_getr (b := 49) rfl rfl rfl rfl (by decide) ?_
  refine ks_iload_n rfl rfl ?_
  refine ks_iaload rfl rfl (by omega) (by omega) (by (try simp only [kx_up_at, kx_row_at, up1_at, Nat.reduceEqDiff, Int.reduceEq, Int.reduceNeg, and_true, true_and, and_false, false_and, and_self, reduceIte, Nat.add_left_cancel_iff, Nat.add_eq_left, Nat.left_eq_add, Nat.reduceAdd, Int.add_left_inj, Int.add_right_inj, e, e2]); rfl) ?_
  refine ks_aload_n rfl rfl ?_
  refine ks_getr (b := 30) rfl rfl rfl rfl (by decide) ?_
  refine ks_getr (b := 34) rfl rfl rfl rfl (by decide) ?_
  refine ks_iload_n rfl rfl ?_
  refine ks_iaload rfl rfl (by omega) (by omega) (by (try simp only [kx_up_at, kx_row_at, up1_at, Nat.reduceEqDiff, Int.reduceEq, Int.reduceNeg, and_true, true_and, and_false, false_and, and_self, reduceIte, Nat.add_left_cancel_iff, Nat.add_eq_left, Nat.left_eq_add, Nat.reduceAdd, Int.add_left_inj, Int.add_right_inj, e, e2]); rfl) ?_
  refine ks_isub rfl ?_
  refine ks_ireturn rfl ?_
  -- at 35: ret  st [None]
  exact t _ (Fr_tr F1 F2)
def q_gets (s : Int → Int) (h : Int) : Nat → Nat → Int
  | 0, _ => -1000000
  | r + 1, n => if tw_go s n 4 = h then n else q_gets s h r (n + 1)
theorem l_stepsUntilHolder {h : Int} (h0 : 0 ≤ h) (h1 : h < s 1) (W : tw_W 999 s) (t : ∀ μ', Fr 45 μ μ' → Q (some (kI (q_gets s h 61 0))) (kg L) μ') : ∀ (r j : Nat) (μ1 : kx_M), j + r = 61 → q_gets s h r j = q_gets s h 61 0 → TR μ1 45 (tw_go s j) → Fr 45 μ μ1 → kx_wx (ke (d + 3)) kt_Fore_stepsUntilHolder Q 13 [some (kR 44), some (kI h), some (kI j)] [] (kg L) μ1 := by
  have w1 := W.1
  intro r
  induction r with
  | zero =>
    intro j μ1 hj q T F
    refine ks_iload_n rfl rfl ?_
    refine ks_bipush rfl ?_
    -- at 16: if gt -> 46 else 19 st ['60', None]
    refine ks_icmp_gt rfl ⟨by omega, by omega⟩ ⟨by omega, by omega⟩ (fun c => ?_) (fun c => absurd c (by omega))
    refine ks_ldc rfl ?_
    refine ks_ireturn rfl ?_
    -- at 48: ret  st ['-1000000']
    rw [← q] at t
    exact t _ F
  | succ r ih =>
    intro j μ1 hj q T F
    have Wj := tw_W_go60 W (n := j) (by omega)
    have w3 := Wj.2.2.1
    have w1' := Wj.1
    have e11 := T.2.2.2.1
    refine ks_iload_n rfl rfl ?_
    refine ks_bipush rfl ?_
    -- at 16: if gt -> 46 else 19 st ['60', None]
    refine ks_icmp_gt rfl ⟨by omega, by omega⟩ ⟨by omega, by omega⟩ (fun c => absurd c (by omega)) (fun c => ?_)
    refine ks_aload_n rfl rfl ?_
    refine ks_getr (b := 45) rfl rfl rfl rfl (by decide) ?_
    refine ks_geti rfl rfl rfl rfl (by (try simp only [kx_up_at, kx_row_at, up1_at, Nat.reduceEqDiff, Int.reduceEq, Int.reduceNeg, and_true, true_and, and_false, false_and, and_self, reduceIte, Nat.add_left_cancel_iff, Nat.add_eq_left, Nat.left_eq_add, Nat.reduceAdd, Int.add_left_inj, Int.add_right_inj, e11]); rfl) ?_
    refine ks_iload_n rfl rfl ?_
    -- at 27: if ne -> 32 else 30 st [None, None]
    refine ks_icmp_ne rfl ⟨by omega, by omega⟩ ⟨by omega, by omega⟩ (fun c2 => ?_) (fun c2 => ?_)
    · refine ks_iload_n rfl rfl ?_
      refine ks_ireturn rfl ?_
      -- at 31: ret  st [None]
      rw [← q] at t
      simp only [q_gets] at t
      rw [if_pos c2] at t
      exact t _ F
    · refine ks_aload_n rfl rfl ?_
      refine ks_getr (b := 45) rfl rfl rfl rfl (by decide) ?_
      refine ks_callv_1 rfl rfl rfl (Nat.le_of_ble_eq_true rfl) ?_
      -- at 36: call Town_takeStep st []
      simp only [q_gets] at q
      rw [if_neg c2] at q
      refine r_takeStep (B := 2000) (by omega) (kg_T45 L) T Wj (fun μ2 T2 F2 => ?_)
      show kx_wx _ _ _ _ _ (_ :: _) _ _
      refine ks_pop rfl ?_
      refine ks_iinc_2 rfl rfl ?_
      refine ks_goto rfl ?_
      -- at 13: stop  st []
      exact ih (j + 1) μ2 (by omega) q T2 (Fr_tr F F2)
theorem r_stepsUntilHolder {h : Int} (h0 : 0 ≤ h) (h1 : h < s 1) (W : tw_W 999 s) (T : TR μ 30 s) (t : ∀ μ', Fr 45 μ μ' → Q (some (kI (q_gets s h 61 0))) (kg L) μ') : kx_cx (ke (d + 5)) 12 [kR 44, kI h] (kg L) μ Q := by
  refine ke_start (tb := kt_Fore_stepsUntilHolder) (ls := [some (kR 44), some (kI h), none]) rfl rfl ?_
  refine ks_aload_n rfl rfl ?_
  refine ks_getr (b := 45) rfl rfl rfl rfl (by decide) ?_
  refine ks_aload_n rfl rfl ?_
  refine ks_getr (b := 30) rfl rfl rfl rfl (by decide) ?_
  refine ks_callv_2 rfl rfl rfl (Nat.le_of_ble_eq_true rfl) ?_
  -- at 8: call Town_becomeLike st []
  refine r_try T W (fun μ1 T1 F1 => ?_)
  show kx_wx _ _ _ _ _ _ _ _
  refine ks_iconst rfl ?_
  refine ks_istore_n_2 rfl rfl ?_
  -- at 13: stop  st []
  exact l_stepsUntilHolder (μ := μ) h0 h1 W t 61 0 μ1 (by omega) rfl T1 F1
def q_ever (s : Int → Int) : Nat → Int
  | 0 => 1 * 2 ^ (s 4).toNat
  | n + 1 => kx_or (q_ever s n) (1 * 2 ^ (tw_go s (n + 1) 4).toNat)
theorem l_holdersWithin {n : Nat} (hn : n ≤ 60) (W : tw_W 999 s) (t : ∀ μ', Fr 45 μ μ' → Q (some (kI (q_ever s n))) (kg L) μ') : ∀ (r j : Nat) (μ1 : kx_M), j + r = n → TR μ1 45 (tw_go s j) → Fr 45 μ μ1 → kx_wx (ke (d + 3)) kt_Fore_holdersWithin Q 23 [some (kR 44), some (kI n), some (kI (q_ever s j)), some (kI j)] [] (kg L) μ1 := by
  intro r
  induction r with
  | zero =>
    intro j μ1 hj T F
    rw [Nat.add_zero] at hj
    subst hj
    refine ks_iload_n rfl rfl ?_
    refine ks_iload_n rfl rfl ?_
    -- at 25: if ge -> 54 else 28 st [None, None]
    refine ks_icmp_ge rfl ⟨by omega, by omega⟩ ⟨by omega, by omega⟩ (fun c => absurd c (by omega)) (fun c => ?_)
    refine ks_iload_n rfl rfl ?_
    refine ks_ireturn rfl ?_
    -- at 55: ret  st [None]
    exact t _ F
  | succ r ih =>
    intro j μ1 hj T F
    refine ks_iload_n rfl rfl ?_
    refine ks_iload_n rfl rfl ?_
    -- at 25: if ge -> 54 else 28 st [None, None]
    refine ks_icmp_ge rfl ⟨by omega, by omega⟩ ⟨by omega, by omega⟩ (fun c => ?_) (fun c => absurd c (by omega))
    refine ks_aload_n rfl rfl ?_
    refine ks_getr (b := 45) rfl rfl rfl rfl (by decide) ?_
    refine ks_callv_1 rfl rfl rfl (Nat.le_of_ble_eq_true rfl) ?_
    -- at 32: call Town_takeStep st []
    refine r_takeStep (B := 2000) (by omega) (kg_T45 L) T (tw_W_go60 W (by omega)) (fun μ2 T2 F2 => ?_)
    have W2 := tw_W_go60 W (n := j + 1) (by omega)
    have w3 : 0 ≤ tw_step (tw_go s j) 4 ∧ tw_step (tw_go s j) 4 < tw_step (tw_go s j) 1 := W2.2.2.1
    have w1 : 1 ≤ tw_step (tw_go s j) 1 ∧ tw_step (tw_go s j) 1 ≤ 6 := W2.1
    have e11 := T2.2.2.2.1
    show kx_wx _ _ _ _ _ (_ :: _) _ _
    refine ks_pop rfl ?_
    refine ks_iload_n rfl rfl ?_
    refine ks_iconst rfl ?_
    refine ks_aload_n rfl rfl ?_
    refine ks_getr (b := 45) rfl rfl rfl rfl (by decide) ?_
    refine ks_geti rfl rfl rfl rfl (by (try simp only [kx_up_at, kx_row_at, up1_at, Nat.reduceEqDiff, Int.reduceEq, Int.reduceNeg, and_true, true_and, and_false, false_and, and_self, reduceIte, Nat.add_left_cancel_iff, Nat.add_eq_left, Nat.left_eq_add, Nat.reduceAdd, Int.add_left_inj, Int.add_right_inj, e11]); rfl) ?_
    refine ks_ishl rfl (by omega) (by omega) ?_
    refine ks_ior rfl ?_
    refine ks_istore_n_2 rfl rfl ?_
    refine ks_iinc_3 rfl rfl ?_
    refine ks_goto rfl ?_
    -- at 23: stop  st []
    exact ih (j + 1) μ2 (by omega) T2 (Fr_tr F F2)
theorem r_holdersWithin {n : Nat} (hn : n ≤ 60) (W : tw_W 999 s) (T : TR μ 30 s) (t : ∀ μ', Fr 45 μ μ' → Q (some (kI (q_ever s n))) (kg L) μ') : kx_cx (ke (d + 5)) 13 [kR 44, kI n] (kg L) μ Q := by
  refine ke_start (tb := kt_Fore_holdersWithin) (ls := [some (kR 44), some (kI n), none, none]) rfl rfl ?_
  have w3 := W.2.2.1
  have w1 := W.1
  refine ks_aload_n rfl rfl ?_
  refine ks_getr (b := 45) rfl rfl rfl rfl (by decide) ?_
  refine ks_aload_n rfl rfl ?_
  refine ks_getr (b := 30) rfl rfl rfl rfl (by decide) ?_
  refine ks_callv_2 rfl rfl rfl (Nat.le_of_ble_eq_true rfl) ?_
  -- at 8: call Town_becomeLike st []
  refine r_try T W (fun μ1 T1 F1 => ?_)
  have e11 := T1.2.2.2.1
  show kx_wx _ _ _ _ _ _ _ _
  refine ks_iconst rfl ?_
  refine ks_aload_n rfl rfl ?_
  refine ks_getr (b := 45) rfl rfl rfl rfl (by decide) ?_
  refine ks_geti rfl rfl rfl rfl (by (try simp only [kx_up_at, kx_row_at, up1_at, Nat.reduceEqDiff, Int.reduceEq, Int.reduceNeg, and_true, true_and, and_false, false_and, and_self, reduceIte, Nat.add_left_cancel_iff, Nat.add_eq_left, Nat.left_eq_add, Nat.reduceAdd, Int.add_left_inj, Int.add_right_inj, e11]); rfl) ?_
  refine ks_ishl rfl (by omega) (by omega) ?_
  refine ks_istore_n_2 rfl rfl ?_
  refine ks_iconst rfl ?_
  refine ks_istore_n_3 rfl rfl ?_
  -- at 23: stop  st []
  exact l_holdersWithin (μ := μ) hn W t n 0 μ1 (by omega) T1 F1
theorem l_stepsUntilDone {o : Int} {m : Nat} (hm : m ≤ 60) (o0 : 0 ≤ o) (o1 : o < s 2) (W : tw_W 999 s) (t1 : ∀ n μ', 1 ≤ n → n ≤ m → DN s o n → TR μ' 45 (tw_go s n) → Fr 45 μ μ' → Q (some (kI (n : Nat))) (kg L) μ') (t0 : ∀ μ', (∀ i, i ≤ m → tw_go s i (38 + o) = 0) → TR μ' 45 (tw_go s m) → Fr 45 μ μ' → Q (some (kI 61)) (kg L) μ') : ∀ (r j : Nat) (μ1 : kx_M), j + r = m → (∀ i, i ≤ j → tw_go s i (38 + o) = 0) → TR μ1 45 (tw_go s j) → Fr 45 μ μ1 → kx_wx (ke (d + 3)) kt_Fore_stepsUntilDone Q 2 [some (kR 44), some (kI o), some (kI m), some (kI (j + 1))] [] (kg L) μ1 := by
  have w2 := W.2.1
  intro r
  induction r with
  | zero =>
    intro j μ1 hj h T F
    rw [Nat.add_zero] at hj
    subst hj
    refine ks_iload_n rfl rfl ?_
    refine ks_iload_n rfl rfl ?_
    -- at 4: if gt -> 36 else 7 st [None, None]
    refine ks_icmp_gt rfl ⟨by omega, by omega⟩ ⟨by omega, by omega⟩ (fun c => ?_) (fun c => absurd c (by omega))
    refine ks_bipush rfl ?_
    refine ks_ireturn rfl ?_
    -- at 38: ret  st ['61']
    exact t0 _ h T F
  | succ r ih =>
    intro j μ1 hj h T F
    refine ks_iload_n rfl rfl ?_
    refine ks_iload_n rfl rfl ?_
    -- at 4: if gt -> 36 else 7 st [None, None]
    refine ks_icmp_gt rfl ⟨by omega, by omega⟩ ⟨by omega, by omega⟩ (fun c => absurd c (by omega)) (fun c => ?_)
    refine ks_aload_n rfl rfl ?_
    refine ks_getr (b := 45) rfl rfl rfl rfl (by decide) ?_
    refine ks_callv_1 rfl rfl rfl (Nat.le_of_ble_eq_true rfl) ?_
    -- at 11: call Town_takeStep st []
    refine r_takeStep (B := 2000) (by omega) (kg_T45 L) T (tw_W_go60 W (by omega)) (fun μ2 T2 F2 => ?_)
    have e := (T2.2.2.2.2.2.2.2 o o0 (by show o < tw_go s (j + 1) 2; rw [(tw_go_12 W (j + 1)).2]; exact o1)).2.2.1
    have q := dn_01 W o0 o1 (h j (Nat.le_refl j))
    have e' : tw_step (tw_go s j) (38 + o) = tw_go s (j + 1) (38 + o) := rfl
    rw [e'] at e
    show kx_wx _ _ _ _ _ (_ :: _) _ _
    refine ks_pop rfl ?_
    refine ks_aload_n rfl rfl ?_
    refine ks_getr (b := 45) rfl rfl rfl rfl (by decide) ?_
    refine ks_getr (b := 52) rfl rfl rfl rfl (by decide) ?_
    refine ks_iload_n rfl rfl ?_
    refine ks_iaload rfl rfl (by omega) (by omega) (by (try simp only [kx_up_at, kx_row_at, up1_at, Nat.reduceEqDiff, Int.reduceEq, Int.reduceNeg, and_true, true_and, and_false, false_and, and_self, reduceIte, Nat.add_left_cancel_iff, Nat.add_eq_left, Nat.left_eq_add, Nat.reduceAdd, Int.add_left_inj, Int.add_right_inj, e]); rfl) ?_
    refine ks_iconst rfl ?_
    -- at 25: if ne -> 30 else 28 st ['1', None]
    refine ks_icmp_ne rfl ⟨by omega, by omega⟩ ⟨by omega, by omega⟩ (fun c2 => ?_) (fun c2 => ?_)
    · refine ks_iload_n rfl rfl ?_
      refine ks_ireturn rfl ?_
      -- at 29: ret  st [None]
      refine t1 (j + 1) μ2 (by omega) (by omega) ⟨c2, fun i hi => h i (by omega)⟩ T2 (Fr_tr F F2)
    · refine ks_iinc_3 rfl rfl ?_
      refine ks_goto rfl ?_
      -- at 2: stop  st []
      refine ih (j + 1) μ2 (by omega) (fun i hi => ?_) T2 (Fr_tr F F2)
      by_cases e : i = j + 1
      · subst e; omega
      · exact h i (by omega)
theorem r_stepsUntilDone {o : Int} {m : Nat} (hm : m ≤ 60) (o0 : 0 ≤ o) (o1 : o < s 2) (W : tw_W 999 s) (hz : s (38 + o) = 0) (T : TR μ 45 s) (t1 : ∀ n μ', 1 ≤ n → n ≤ m → DN s o n → TR μ' 45 (tw_go s n) → Fr 45 μ μ' → Q (some (kI (n : Nat))) (kg L) μ') (t0 : ∀ μ', (∀ i, i ≤ m → tw_go s i (38 + o) = 0) → TR μ' 45 (tw_go s m) → Fr 45 μ μ' → Q (some (kI 61)) (kg L) μ') : kx_cx (ke (d + 4)) 23 [kR 44, kI o, kI m] (kg L) μ Q := by
  refine ke_start (tb := kt_Fore_stepsUntilDone) (ls := [some (kR 44), some (kI o), some (kI m), none]) rfl rfl ?_
  refine ks_iconst rfl ?_
  refine ks_istore_n_3 rfl rfl ?_
  -- at 2: stop  st []
  refine l_stepsUntilDone hm o0 o1 W t1 t0 m 0 μ (by omega) (fun i hi => ?_) T (Fr_rf _ _)
  rw [Nat.le_zero.mp hi]; exact hz
/-- on which step an order is done, by 60 more -/
def q_done (s : Int → Int) (o x : Int) : Prop := (s (38 + o) = 1 ∧ x = s (42 + o)) ∨ (s (38 + o) = 2 ∧ x = -1000000) ∨ (s (38 + o) = 0 ∧ ∃ n : Nat, n ≤ 60 ∧ DN s o n ∧ x = s 3 + n) ∨ (s (38 + o) = 0 ∧ (∀ i, i ≤ 60 → tw_go s i (38 + o) = 0) ∧ x = -1000000)
theorem q_done_u {s : Int → Int} {o x y : Int} (h : q_done s o x) (k : q_done s o y) : x = y := by
  rcases h with ⟨a1, a2⟩ | ⟨a1, a2⟩ | ⟨a1, n, a2, a3, a4⟩ | ⟨a1, a2, a3⟩ <;> rcases k with ⟨b1, b2⟩ | ⟨b1, b2⟩ | ⟨b1, m, b2, b3, b4⟩ | ⟨b1, b2, b3⟩ <;> try omega
  · have := dn_uniq a3 b3; subst this; omega
  · have := dn_no a3 b2; omega
  · have := dn_no b3 a2; omega
theorem r_stepOfDone {o : Int} (o0 : 0 ≤ o) (o1 : o < s 2) (W : tw_W 999 s) (T : TR μ 30 s) (t : ∀ x μ', q_done s o x → Fr 45 μ μ' → Q (some (kI x)) (kg L) μ') : kx_cx (ke (d + 5)) 15 [kR 44, kI o] (kg L) μ Q := by
  refine ke_start (tb := kt_Fore_stepOfDone) (ls := [some (kR 44), some (kI o)]) rfl rfl ?_
  have w2 := W.2.1
  have w8 := W.2.2.2.2.2.2.2 o o0 o1
  obtain ⟨k1, k2, k3, k4⟩ := T.2.2.2.2.2.2.2 o o0 o1
  refine ks_aload_n rfl rfl ?_
  refine ks_getr (b := 30) rfl rfl rfl rfl (by decide) ?_
  refine ks_getr (b := 37) rfl rfl rfl rfl (by decide) ?_
  refine ks_iload_n rfl rfl ?_
  refine ks_iaload rfl rfl (by omega) (by omega) (by (try simp only [kx_up_at, kx_row_at, up1_at, Nat.reduceEqDiff, Int.reduceEq, Int.reduceNeg, and_true, true_and, and_false, false_and, and_self, reduceIte, Nat.add_left_cancel_iff, Nat.add_eq_left, Nat.left_eq_add, Nat.reduceAdd, Int.add_left_inj, Int.add_right_inj, k3]); rfl) ?_
  -- at 9: if ne -> 41 else 12 st [None]
  refine ks_if_ne rfl ⟨by omega, by omega⟩ (fun c => ?_) (fun c => ?_)
  · refine ks_aload_n rfl rfl ?_
    refine ks_getr (b := 45) rfl rfl rfl rfl (by decide) ?_
    refine ks_aload_n rfl rfl ?_
    refine ks_getr (b := 30) rfl rfl rfl rfl (by decide) ?_
    refine ks_callv_2 rfl rfl rfl (Nat.le_of_ble_eq_true rfl) ?_
    -- at 20: call Town_becomeLike st []
    refine r_try T W (fun μ1 T1 F1 => ?_)
    show kx_wx _ _ _ _ _ _ _ _
    refine ks_aload_n rfl rfl ?_
    refine ks_iload_n rfl rfl ?_
    refine ks_bipush rfl ?_
    refine ks_callv_3 rfl rfl rfl (Nat.le_of_ble_eq_true rfl) ?_
    -- at 27: call Fore_stepsUntilDone st []
    refine r_stepsUntilDone (m := 60) (by omega) o0 o1 W c T1 (fun n μ2 n0 n1 D T2 F2 => ?_) (fun μ2 D T2 F2 => ?_)
    · have e := (T2.2.2.2.2.2.2.2 o o0 (by rw [(tw_go_12 W n).2]; exact o1)).2.2.2
      rw [if_pos D.1] at e
      have e' : tw_go s n (42 + o) = s 3 + n := by
        obtain ⟨j, rfl⟩ : ∃ j, n = j + 1 := ⟨n - 1, by omega⟩
        rcases dn_01 W o0 o1 (D.2 j (by omega)) with q | q
        · have := D.1; omega
        · exact q.2
      rw [e'] at e
      show kx_wx _ _ _ _ _ (_ :: _) _ _
      refine ks_pop rfl ?_
      refine ks_aload_n rfl rfl ?_
      refine ks_getr (b := 45) rfl rfl rfl rfl (by decide) ?_
      refine ks_getr (b := 53) rfl rfl rfl rfl (by decide) ?_
      refine ks_iload_n rfl rfl ?_
      refine ks_iaload rfl rfl (by omega) (by omega) (by (try simp only [kx_up_at, kx_row_at, up1_at, Nat.reduceEqDiff, Int.reduceEq, Int.reduceNeg, and_true, true_and, and_false, false_and, and_self, reduceIte, Nat.add_left_cancel_iff, Nat.add_eq_left, Nat.left_eq_add, Nat.reduceAdd, Int.add_left_inj, Int.add_right_inj, e]); rfl) ?_
      refine ks_ireturn rfl ?_
      -- at 40: ret  st [None]
      exact t _ _ (Or.inr (Or.inr (Or.inl ⟨c, n, n1, D, rfl⟩))) (Fr_tr F1 F2)
    · have e := (T2.2.2.2.2.2.2.2 o o0 (by rw [(tw_go_12 W 60).2]; exact o1)).2.2.2
      rw [if_neg (by rw [D 60 (Nat.le_refl _)]; omega)] at e
      refine ks_pop rfl ?_
      refine ks_aload_n rfl rfl ?_
      refine ks_getr (b := 45) rfl rfl rfl rfl (by decide) ?_
      refine ks_getr (b := 53) rfl rfl rfl rfl (by decide) ?_
      refine ks_iload_n rfl rfl ?_
      refine ks_iaload rfl rfl (by omega) (by omega) (by (try simp only [kx_up_at, kx_row_at, up1_at, Nat.reduceEqDiff, Int.reduceEq, Int.reduceNeg, and_true, true_and, and_false, false_and, and_self, reduceIte, Nat.add_left_cancel_iff, Nat.add_eq_left, Nat.left_eq_add, Nat.reduceAdd, Int.add_left_inj, Int.add_right_inj, e]); rfl) ?_
      refine ks_ireturn rfl ?_
      -- at 40: ret  st [None]
      exact t _ _ (Or.inr (Or.inr (Or.inr ⟨c, D, rfl⟩))) (Fr_tr F1 F2)
  · refine ks_aload_n rfl rfl ?_
    refine ks_getr (b := 30) rfl rfl rfl rfl (by decide) ?_
    refine ks_getr (b := 38) rfl rfl rfl rfl (by decide) ?_
    refine ks_iload_n rfl rfl ?_
    refine ks_iaload rfl rfl (by omega) (by omega) (by (try simp only [kx_up_at, kx_row_at, up1_at, Nat.reduceEqDiff, Int.reduceEq, Int.reduceNeg, and_true, true_and, and_false, false_and, and_self, reduceIte, Nat.add_left_cancel_iff, Nat.add_eq_left, Nat.left_eq_add, Nat.reduceAdd, Int.add_left_inj, Int.add_right_inj, k4]); rfl) ?_
    refine ks_ireturn rfl ?_
    -- at 50: ret  st [None]
    refine t _ _ ?_ (Fr_rf _ _)
    by_cases e : s (38 + o) = 1
    · rw [if_pos e]; exact Or.inl ⟨e, rfl⟩
    · rw [if_neg e]; exact Or.inr (Or.inl ⟨by omega, rfl⟩)
end FO
end
section
/-! foretold, class side, more -/
theorem kx_or_0 {a : Int} (h : kx_in a) : kx_or a 0 = a := by
  unfold kx_or
  have e : Int32.ofInt 0 = 0 := rfl
  rw [e, Int32.or_zero, Int32.toInt_ofInt_of_le (by have := h.1; omega) (by have := h.2; omega)]
/-- the least of those that come to it soonest, and when -/
def q_min (P : Int → Nat → Prop) (N best least : Int) : Prop := (best = -1000000 ∧ ∀ k n, 0 ≤ k → k < N → n ≤ 60 → ¬ P k n) ∨ (0 ≤ best ∧ best < N ∧ ∃ l : Nat, least = l ∧ 1 ≤ l ∧ l ≤ 60 ∧ P best l ∧ ∀ k n, 0 ≤ k → k < N → n ≤ 60 → P k n → l < n ∨ (l = n ∧ best ≤ k))
theorem q_min_u {P : Int → Nat → Prop} {N b1 b2 l1 l2 : Int} (h : q_min P N b1 l1) (k : q_min P N b2 l2) : b1 = b2 ∧ (b1 ≠ -1000000 → l1 = l2) := by
  rcases h with ⟨a1, a2⟩ | ⟨a1, a2, n, a3, a4, a5, a6, a7⟩ <;> rcases k with ⟨c1, c2⟩ | ⟨c1, c2, m, c3, c4, c5, c6, c7⟩
  · exact ⟨by omega, fun q => absurd a1 q⟩
  · exact absurd c6 (a2 _ _ c1 c2 c5)
  · exact absurd a6 (c2 _ _ a1 a2 a5)
  · have p1 := a7 _ _ c1 c2 c5 c6
    have p2 := c7 _ _ a1 a2 a5 a6
    omega
theorem q_min_0 {P : Int → Nat → Prop} {l : Int} : q_min P 0 (-1000000) l := Or.inl ⟨rfl, fun k n a b => by omega⟩
theorem q_min_hit {P : Int → Nat → Prop} {N best least : Int} {n : Nat} (h : q_min P N best least) (h0 : 0 ≤ N) (hp : P N n) (n0 : 1 ≤ n) (n1 : n ≤ 60) (hb : best = -1000000 ∨ (n : Int) < least) (hu : ∀ m, P N m → m = n) : q_min P (N + 1) N n := by
  refine Or.inr ⟨h0, by omega, n, rfl, n0, n1, hp, fun k m k0 k1 m1 hk => ?_⟩
  by_cases e : k = N
  · subst e; have := hu m hk; omega
  · rcases h with ⟨a1, a2⟩ | ⟨a1, a2, l, a3, a4, a5, a6, a7⟩
    · exact absurd hk (a2 k m k0 (by omega) m1)
    · have := a7 k m k0 (by omega) m1 hk; omega
theorem q_min_miss {P : Int → Nat → Prop} {N best least : Int} (h : q_min P N best least) (h0 : 0 ≤ N) (hm : ∀ n, n ≤ 60 → P N n → best ≠ -1000000 ∧ least ≤ n) : q_min P (N + 1) best least := by
  rcases h with ⟨a1, a2⟩ | ⟨a1, a2, l, a3, a4, a5, a6, a7⟩
  · refine Or.inl ⟨a1, fun k n k0 k1 n1 hp => ?_⟩
    by_cases e : k = N
    · subst e; exact (hm n n1 hp).1 a1
    · exact a2 k n k0 (by omega) n1 hp
  · refine Or.inr ⟨a1, by omega, l, a3, a4, a5, a6, fun k n k0 k1 n1 hp => ?_⟩
    by_cases e : k = N
    · subst e; have := hm n n1 hp; omega
    · exact a7 k n k0 (by omega) n1 hp
theorem tw_how_stays {B : Int} {s : Int → Int} (W : tw_W B s) {o : Int} (o0 : 0 ≤ o) (o1 : o < s 2) (h : s (38 + o) ≠ 0) (n : Nat) : tw_go s n (38 + o) = s (38 + o) := by
  induction n with
  | zero => rfl
  | succ n ih =>
    have e := (tw_go_12 W n).2
    obtain ⟨k1, k2⟩ := tw_step_o (tw_W_go W n) o0 (by omega)
    show tw_step (tw_go s n) (38 + o) = _
    by_cases e : o = tw_found (tw_go s n) (tw_go s n 4)
    · have := (k2 e).1; omega
    · rw [(k1 e).1, ih]
def q_P (s : Int → Int) (k : Int) (n : Nat) : Prop := s (38 + k) = 0 ∧ DN s k n
def tw_gv (s : Int → Int) (h : Int) : Int → Int := up1 (up1 s 4 h) 5 0
def q_T (s : Int → Int) (o : Int) (h : Int) (n : Nat) : Prop := DN (tw_gv s h) o n
/-- items f tell where the hat goes -/
def q_ga (s f : Int → Int) : Nat → Bool
  | 0 => true
  | n + 1 => q_ga s f n && (decide (f n = -1) || decide (f n = tw_go s (n + 1) 4))
theorem q_ga_no {s f : Int → Int} {j n : Nat} (h : q_ga s f j = false) (hj : j ≤ n) : q_ga s f n = false := by
  induction n with
  | zero => rw [Nat.le_zero.mp hj] at h; exact h
  | succ n ih =>
    by_cases e : j = n + 1
    · rw [← e]; exact h
    · simp only [q_ga]; rw [ih (by omega)]; rfl
def q_wi (s : Int → Int) (h : Int) (n : Nat) : Nat → Int → Int → Int
  | 0, _, a => a
  | r + 1, w, a => q_wi s h n r (w + 1) (kx_or a (if tw_go (up1 s 0 w) n 4 = h then 1 * 2 ^ w.toNat else 0))
def q_se (s f : Int → Int) (n : Nat) : Nat → Int → Int → Int × Int
  | 0, a, b => (a, b)
  | r + 1, a, b => if q_ga (tw_gv s r) f n = true then q_se s f n r (a + 1) r else q_se s f n r a b
def q_ke (s f : Int → Int) (h : Int) (n : Nat) : Nat → Int → Int → Int
  | 0, _, a => a
  | r + 1, k, a => q_ke s f h n r (k + 1) (kx_or a (if q_ga (up1 s (12 + h) k) f n = true then 1 * 2 ^ (k - 1).toNat else 0))
theorem tw_W_keep {B v h : Int} {s : Int → Int} (W : tw_W B s) (h0 : 0 ≤ h) (h1 : h < s 1) (v0 : 1 ≤ v) (v1 : v ≤ 9) : tw_W B (up1 s (12 + h) v) := by
  obtain ⟨w1, w2, w3, w4, w5, w6, w7, w8⟩ := W
  refine ⟨?_, ?_, ?_, ?_, ?_, ?_, fun i i0 i1 => ?_, fun k k0 k1 => ?_⟩
  · simp (disch := omega) only [up1_ne]; exact w1
  · simp (disch := omega) only [up1_ne]; exact w2
  · simp (disch := omega) only [up1_ne]; exact w3
  · simp (disch := omega) only [up1_ne]; exact w4
  · simp (disch := omega) only [up1_ne]; exact w5
  · simp (disch := omega) only [up1_ne]; exact w6
  · simp (disch := omega) only [up1_ne] at i1
    have := w7 i i0 i1
    by_cases e : i = h
    · subst e
      simp (disch := omega) only [up1_ne, up1_self]
      omega
    · simp (disch := omega) only [up1_ne]; exact this
  · simp (disch := omega) only [up1_ne] at k1; simp (disch := omega) only [up1_ne]; exact w8 k k0 k1
theorem TR_keep {μ : kx_M} {a : Nat} {B v h : Int} {s : Int → Int} (W : tw_W B s) (T : TR μ a s) (h0 : 0 ≤ h) (h1 : h < s 1) : TR (kx_up μ (a + 2) h v) a (up1 s (12 + h) v) := by
  obtain ⟨w1, w2, w3, w4, w5, w6, w7, w8⟩ := W
  obtain ⟨e8, e9, e10, e11, e12, e13, eh, eo⟩ := T
  refine ⟨?_, ?_, ?_, ?_, ?_, ?_, fun i i0 i1 => ?_, fun k k0 k1 => ?_⟩
  · simp (disch := omega) only [up1_ne, kx_up_row]; exact e8
  · simp (disch := omega) only [up1_ne, kx_up_row]; exact e9
  · simp (disch := omega) only [up1_ne, kx_up_row]; exact e10
  · simp (disch := omega) only [up1_ne, kx_up_row]; exact e11
  · simp (disch := omega) only [up1_ne, kx_up_row]; exact e12
  · simp (disch := omega) only [up1_ne, kx_up_row]; exact e13
  · simp (disch := omega) only [up1_ne] at i1
    have := eh i i0 i1
    by_cases e : i = h
    · subst e
      simp (disch := omega) only [up1_ne, kx_up_row, kx_up_self, up1_self]
      exact ⟨this.1, trivial, this.2.2⟩
    · simp (disch := omega) only [up1_ne, kx_up_row, kx_up_oth]; exact this
  · simp (disch := omega) only [up1_ne] at k1
    have := eo k k0 k1
    rw [up1_ne (i := 12 + h) (j := 38 + k) (by omega)]
    simp (disch := omega) only [up1_ne, kx_up_row]; exact this
section FP
variable {d L : Nat} {G : kx_G} {μ : kx_M} {Q : Option kx_V → kx_G → kx_M → Prop} {s : Int → Int} {z : Int}
theorem l_orderDoneFirst (W : tw_W 999 s) (t : ∀ x l μ', q_min (q_P s) (s 2) x l → Fr 45 μ μ' → Q (some (kI x)) (kg L) μ') : ∀ (r j : Nat) (μ1 : kx_M) (x2 : Option kx_V), j + r = 60 → (∀ k, 0 ≤ k → k < s 2 → s (38 + k) = 0 → ∀ i, i ≤ j → tw_go s i (38 + k) = 0) → TR μ1 45 (tw_go s j) → Fr 45 μ μ1 → kx_wx (ke (d + 3)) kt_Fore_orderDoneFirst Q 13 [some (kR 44), some (kI j), x2] [] (kg L) μ1 := by
  have w2 := W.2.1
  intro r
  induction r with
  | zero =>
    intro j μ1 x2 hj h T F
    rw [Nat.add_zero] at hj
    subst hj
    refine ks_iload_n rfl rfl ?_
    refine ks_bipush rfl ?_
    -- at 16: if ge -> 53 else 19 st ['60', None]
    refine ks_icmp_ge rfl ⟨by omega, by omega⟩ ⟨by omega, by omega⟩ (fun c => absurd c (by omega)) (fun c => ?_)
    refine ks_ldc rfl ?_
    refine ks_ireturn rfl ?_
    -- at 55: ret  st ['-1000000']
    refine t _ 0 _ (Or.inl ⟨rfl, fun k n k0 k1 n1 hp => ?_⟩) F
    have := dn_no hp.2 (h k k0 k1 hp.1)
    omega
  | succ r ih =>
    intro j μ1 x2 hj h T F
    have e2 := (tw_go_12 W j).2
    have e2' := (tw_go_12 W (j + 1)).2
    have hfi := tw_found_in (tw_go s j) (tw_go s j 4)
    have W1 := tw_W_go60 W (n := j + 1) (by omega)
    refine ks_iload_n rfl rfl ?_
    refine ks_bipush rfl ?_
    -- at 16: if ge -> 53 else 19 st ['60', None]
    refine ks_icmp_ge rfl ⟨by omega, by omega⟩ ⟨by omega, by omega⟩ (fun c => ?_) (fun c => absurd c (by omega))
    refine ks_aload_n rfl rfl ?_
    refine ks_getr (b := 45) rfl rfl rfl rfl (by decide) ?_
    refine ks_callv_1 rfl rfl rfl (Nat.le_of_ble_eq_true rfl) ?_
    -- at 23: call Town_takeStep st []
    refine r_takeStep (B := 2000) (by omega) (kg_T45 L) T (tw_W_go60 W (by omega)) (fun μ2 T2 F2 => ?_)
    have old : ∀ k, 0 ≤ k → k < s 2 → k ≠ tw_found (tw_go s j) (tw_go s j 4) → tw_go s (j + 1) (38 + k) = tw_go s j (38 + k) := fun k k0 k1 kf => ((tw_step_o (tw_W_go W j) k0 (by omega)).1 kf).1
    generalize hf : tw_found (tw_go s j) (tw_go s j 4) = f at *
    have next : ∀ x, (0 ≤ f → tw_go s (j + 1) (38 + f) ≠ 1) → kx_wx (ke (d + 3)) kt_Fore_orderDoneFirst Q 47 [some (kR 44), some (kI j), x] [] (kg L) μ2 := by
      intro x hx
      refine ks_iinc_1 rfl rfl ?_
      refine ks_goto rfl ?_
      -- at 13: stop  st []
      refine ih (j + 1) μ2 _ (by omega) (fun k k0 k1 kz i hi => ?_) T2 (Fr_tr F F2)
      by_cases e : i = j + 1
      · subst e
        have z0 := h k k0 k1 kz j (Nat.le_refl j)
        by_cases ef : k = f
        · subst ef
          rcases dn_01 W k0 k1 z0 with q | q
          · exact q
          · exact absurd q.1 (hx k0)
        · rw [old k k0 k1 ef]; exact z0
      · exact h k k0 k1 kz i (by omega)
    show kx_wx _ _ _ _ _ (_ :: _) _ _
    refine ks_istore_n_2 rfl rfl ?_
    refine ks_iload_n rfl rfl ?_
    refine ks_iconst rfl ?_
    -- at 29: if eq -> 47 else 32 st ['-1', None]
    refine ks_icmp_eq rfl ⟨by omega, by omega⟩ ⟨by omega, by omega⟩ (fun c1 => ?_) (fun c1 => ?_)
    · refine next _ (by omega)
      -- at 47: stop
    · obtain ⟨f0, f1, f2⟩ := hfi.resolve_left c1
      have w8 := W1.2.2.2.2.2.2.2 f f0 (by omega)
      have e := (T2.2.2.2.2.2.2.2 f f0 (by show f < tw_go s (j + 1) 2; omega)).2.2.1
      have e' : tw_step (tw_go s j) (38 + f) = tw_go s (j + 1) (38 + f) := rfl
      rw [e'] at e
      refine ks_aload_n rfl rfl ?_
      refine ks_getr (b := 45) rfl rfl rfl rfl (by decide) ?_
      refine ks_getr (b := 52) rfl rfl rfl rfl (by decide) ?_
      refine ks_iload_n rfl rfl ?_
      refine ks_iaload rfl rfl (by omega) (by omega) (by (try simp only [kx_up_at, kx_row_at, up1_at, Nat.reduceEqDiff, Int.reduceEq, Int.reduceNeg, and_true, true_and, and_false, false_and, and_self, reduceIte, Nat.add_left_cancel_iff, Nat.add_eq_left, Nat.left_eq_add, Nat.reduceAdd, Int.add_left_inj, Int.add_right_inj, e]); rfl) ?_
      refine ks_iconst rfl ?_
      -- at 42: if ne -> 47 else 45 st ['1', None]
      refine ks_icmp_ne rfl ⟨by omega, by omega⟩ ⟨by omega, by omega⟩ (fun c3 => ?_) (fun c3 => ?_)
      · refine ks_iload_n rfl rfl ?_
        refine ks_ireturn rfl ?_
        -- at 46: ret  st [None]
        have hz : s (38 + f) = 0 := by
          by_cases e0 : s (38 + f) = 0
          · exact e0
          · have := tw_how_stays W f0 (by omega) e0 j
            have := f2.1
            omega
        refine t _ (j + 1 : Nat) _ (Or.inr ⟨f0, by omega, j + 1, rfl, by omega, by omega, ⟨hz, c3, fun i hi => h f f0 (by omega) hz i (by omega)⟩, fun k n k0 k1 n1 hp => ?_⟩) (Fr_tr F F2)
        have n2 := dn_no hp.2 (h k k0 k1 hp.1)
        by_cases en : n = j + 1
        · subst en
          by_cases ef : k = f
          · omega
          · have a1 := old k k0 k1 ef
            have a2 := h k k0 k1 hp.1 j (Nat.le_refl j)
            have a3 := hp.2.1
            omega
        · omega
      · refine next _ (fun _ => c3)
        -- at 47: stop
theorem r_orderDoneFirst (W : tw_W 999 s) (T : TR μ 30 s) (t : ∀ x l μ', q_min (q_P s) (s 2) x l → Fr 45 μ μ' → Q (some (kI x)) (kg L) μ') : kx_cx (ke (d + 5)) 16 [kR 44] (kg L) μ Q := by
  refine ke_start (tb := kt_Fore_orderDoneFirst) (ls := [some (kR 44), none, none]) rfl rfl ?_
  refine ks_aload_n rfl rfl ?_
  refine ks_getr (b := 45) rfl rfl rfl rfl (by decide) ?_
  refine ks_aload_n rfl rfl ?_
  refine ks_getr (b := 30) rfl rfl rfl rfl (by decide) ?_
  refine ks_callv_2 rfl rfl rfl (Nat.le_of_ble_eq_true rfl) ?_
  -- at 8: call Town_becomeLike st []
  refine r_try T W (fun μ1 T1 F1 => ?_)
  show kx_wx _ _ _ _ _ _ _ _
  refine ks_iconst rfl ?_
  refine ks_istore_n_1 rfl rfl ?_
  -- at 13: stop  st []
  refine l_orderDoneFirst (μ := μ) W t 60 0 μ1 _ (by omega) (fun k k0 k1 kz i hi => ?_) T1 F1
  rw [Nat.le_zero.mp hi]; exact kz
def q_tg (s : Int → Int) (o w x : Int) : Prop := ∃ b l, q_min (q_T s o) (s 1) b l ∧ x = if b = -1000000 then b else if w = 0 then b else l
theorem l_bestGift {o w : Int} (o0 : 0 ≤ o) (o1 : o < s 2) (hw : kx_in w) (hz : s (38 + o) = 0) (W : tw_W 999 s) (t : ∀ x μ', q_tg s o w x → Fr 45 μ μ' → Q (some (kI x)) (kg L) μ') : ∀ (r j : Nat) (b l : Int) (μ1 : kx_M) (x6 : Option kx_V), j + r = (s 1).toNat → q_min (q_T s o) j b l → (b = -1000000 → l = 61) → 1 ≤ l → l ≤ 61 → TR μ1 30 s → Fr 45 μ μ1 → kx_wx (ke (d + 4)) kt_Fore_bestGift Q 10 [some (kR 44), some (kI o), some (kI w), some (kI l), some (kI b), some (kI j), x6] [] (kg L) μ1 := by
  have w1 := W.1
  have w2 := W.2.1
  have hb : ∀ (j : Nat) b l, j ≤ (s 1).toNat → q_min (q_T s o) j b l → -1000000 ≤ b ∧ b ≤ 6 := by
    intro j b l hj hm
    rcases hm with ⟨a1, a2⟩ | ⟨a1, a2, _⟩ <;> omega
  intro r
  induction r with
  | zero =>
    intro j b l μ1 x6 hj hm hl l0 l1 T F
    have e8 := T.1
    have hbb := hb j b l (by omega) hm
    refine ks_iload rfl rfl ?_
    refine ks_aload_n rfl rfl ?_
    refine ks_getr (b := 30) rfl rfl rfl rfl (by decide) ?_
    refine ks_geti rfl rfl rfl rfl (by (try simp only [kx_up_at, kx_row_at, up1_at, Nat.reduceEqDiff, Int.reduceEq, Int.reduceNeg, and_true, true_and, and_false, false_and, and_self, reduceIte, Nat.add_left_cancel_iff, Nat.add_eq_left, Nat.left_eq_add, Nat.reduceAdd, Int.add_left_inj, Int.add_right_inj, e8]); rfl) ?_
    -- at 19: if ge -> 71 else 22 st [None, None]
    refine ks_icmp_ge rfl ⟨by omega, by omega⟩ ⟨by omega, by omega⟩ (fun c => absurd c (by omega)) (fun c => ?_)
    refine ks_iload rfl rfl ?_
    refine ks_ldc rfl ?_
    -- at 75: if ne -> 81 else 78 st ['-1000000', None]
    have ej : (j : Int) = s 1 := by omega
    rw [ej] at hm
    refine ks_icmp_ne rfl ⟨by omega, by omega⟩ ⟨by omega, by omega⟩ (fun c1 => ?_) (fun c1 => ?_)
    · refine ks_ldc rfl ?_
      refine ks_ireturn rfl ?_
      -- at 80: ret  st ['-1000000']
      exact t _ _ ⟨b, l, hm, by rw [if_pos c1, c1]⟩ F
    · refine ks_iload_n rfl rfl ?_
      -- at 82: if ne -> 90 else 85 st [None]
      obtain ⟨_, _⟩ := hw
      refine ks_if_ne rfl ⟨by omega, by omega⟩ (fun c2 => ?_) (fun c2 => ?_)
      · refine ks_iload rfl rfl ?_
        refine ks_goto rfl ?_
        refine ks_ireturn rfl ?_
        -- at 91: ret  st [None]
        exact t _ _ ⟨b, l, hm, by rw [if_neg c1, if_pos c2]⟩ F
      · refine ks_iload_n rfl rfl ?_
        refine ks_ireturn rfl ?_
        -- at 91: ret  st [None]
        exact t _ _ ⟨b, l, hm, by rw [if_neg c1, if_neg c2]⟩ F
  | succ r ih =>
    intro j b l μ1 x6 hj hm hl l0 l1 T F
    have e8 := T.1
    have hbb := hb j b l (by omega) hm
    refine ks_iload rfl rfl ?_
    refine ks_aload_n rfl rfl ?_
    refine ks_getr (b := 30) rfl rfl rfl rfl (by decide) ?_
    refine ks_geti rfl rfl rfl rfl (by (try simp only [kx_up_at, kx_row_at, up1_at, Nat.reduceEqDiff, Int.reduceEq, Int.reduceNeg, and_true, true_and, and_false, false_and, and_self, reduceIte, Nat.add_left_cancel_iff, Nat.add_eq_left, Nat.left_eq_add, Nat.reduceAdd, Int.add_left_inj, Int.add_right_inj, e8]); rfl) ?_
    -- at 19: if ge -> 71 else 22 st [None, None]
    refine ks_icmp_ge rfl ⟨by omega, by omega⟩ ⟨by omega, by omega⟩ (fun c => ?_) (fun c => absurd c (by omega))
    refine ks_aload_n rfl rfl ?_
    refine ks_getr (b := 45) rfl rfl rfl rfl (by decide) ?_
    refine ks_aload_n rfl rfl ?_
    refine ks_getr (b := 30) rfl rfl rfl rfl (by decide) ?_
    refine ks_callv_2 rfl rfl rfl (Nat.le_of_ble_eq_true rfl) ?_
    -- at 30: call Town_becomeLike st []
    refine r_try T W (fun μ2 T2 F2 => ?_)
    show kx_wx _ _ _ _ _ _ _ _
    refine ks_aload_n rfl rfl ?_
    refine ks_getr (b := 45) rfl rfl rfl rfl (by decide) ?_
    refine ks_iload rfl rfl ?_
    refine ks_callv_2 rfl rfl rfl (Nat.le_of_ble_eq_true rfl) ?_
    -- at 39: call Town_handTo st []
    refine r_handTo (kg_T45 L) ?_
    have T3 : TR (kx_up (kx_up μ2 45 11 j) 45 12 0) 45 (tw_gv s j) := by
      have := TRx_12 (v := 0) (TRx_11 (v := j) T2) (by rw [up1_ne (by omega)]; omega)
      unfold TR tw_gv
      rw [up1_ne (by omega), up1_ne (by omega)]
      exact this
    have F3 : Fr 45 μ (kx_up (kx_up μ2 45 11 j) 45 12 0) := Fr_up (Fr_up (Fr_tr F F2) (by omega)) (by omega)
    generalize kx_up (kx_up μ2 45 11 j) 45 12 0 = μ3 at *
    show kx_wx _ _ _ _ _ _ _ _
    refine ks_aload_n rfl rfl ?_
    refine ks_iload_n rfl rfl ?_
    refine ks_iload_n rfl rfl ?_
    refine ks_iconst rfl ?_
    refine ks_isub rfl ?_
    refine ks_callv_3 rfl rfl rfl (Nat.le_of_ble_eq_true rfl) ?_
    -- at 47: call Fore_stepsUntilDone st []
    have W3 : tw_W 999 (tw_gv s j) := tw_W_give W (by omega) (by omega)
    have o3 : o < tw_gv s j 2 := by unfold tw_gv; rw [up1_ne (by omega), up1_ne (by omega)]; exact o1
    have z3 : tw_gv s j (38 + o) = 0 := by unfold tw_gv; rw [up1_ne (by omega), up1_ne (by omega)]; exact hz
    obtain ⟨m, hm1⟩ : ∃ m : Nat, l - 1 = m := ⟨(l - 1).toNat, by omega⟩
    rw [hm1]
    have en : ((j + 1 : Nat) : Int) = (j : Int) + 1 := by omega
    refine r_stepsUntilDone (m := m) (by omega) o0 o3 W3 z3 T3 (fun n μ4 n0 n1 D T4 F4 => ?_) (fun μ4 D T4 F4 => ?_)
    · show kx_wx _ _ _ _ _ (_ :: _) _ _
      refine ks_istore_6 rfl rfl ?_
      refine ks_iload rfl rfl ?_
      refine ks_iload_n rfl rfl ?_
      -- at 55: if ge -> 65 else 58 st [None, None]
      have F5 := Fr_tr F3 F4
      refine ks_icmp_ge rfl ⟨by omega, by omega⟩ ⟨by omega, by omega⟩ (fun c3 => ?_) (fun c3 => absurd c3 (by omega))
      refine ks_iload rfl rfl ?_
      refine ks_istore_n_3 rfl rfl ?_
      refine ks_iload rfl rfl ?_
      refine ks_istore_4 rfl rfl ?_
      refine ks_iinc_5 rfl rfl ?_
      refine ks_goto rfl ?_
      -- at 10: stop  st []
      have hh := q_min_hit (n := n) hm (by omega) D n0 (by omega) (by omega) (fun k hk => dn_uniq hk D)
      rw [← en] at hh
      exact ih (j + 1) j n μ4 _ (by omega) hh (by omega) (by omega) (by omega) (TR_fr T (fun c c0 c1 => by rw [F5 c (by omega), F c (by omega)])) F5
    · have F5 := Fr_tr F3 F4
      refine ks_istore_6 rfl rfl ?_
      refine ks_iload rfl rfl ?_
      refine ks_iload_n rfl rfl ?_
      -- at 55: if ge -> 65 else 58 st [None, None]
      refine ks_icmp_ge rfl ⟨by omega, by omega⟩ ⟨by omega, by omega⟩ (fun c3 => absurd c3 (by omega)) (fun c3 => ?_)
      refine ks_iinc_5 rfl rfl ?_
      refine ks_goto rfl ?_
      -- at 10: stop  st []
      have hh := q_min_miss hm (by omega) (fun n n1 hp => by
        have := dn_no hp D
        by_cases eb : b = -1000000
        · have := hl eb; omega
        · exact ⟨eb, by omega⟩)
      rw [← en] at hh
      exact ih (j + 1) b l μ4 _ (by omega) hh hl l0 l1 (TR_fr T (fun c c0 c1 => by rw [F5 c (by omega), F c (by omega)])) F5
theorem r_bestGift {o w : Int} (o0 : 0 ≤ o) (o1 : o < s 2) (hw : kx_in w) (hz : s (38 + o) = 0) (W : tw_W 999 s) (T : TR μ 30 s) (t : ∀ x μ', q_tg s o w x → Fr 45 μ μ' → Q (some (kI x)) (kg L) μ') : kx_cx (ke (d + 5)) 18 [kR 44, kI o, kI w] (kg L) μ Q := by
  refine ke_start (tb := kt_Fore_bestGift) (ls := [some (kR 44), some (kI o), some (kI w), none, none, none, none]) rfl rfl ?_
  have w1 := W.1
  refine ks_bipush rfl ?_
  refine ks_istore_n_3 rfl rfl ?_
  refine ks_ldc rfl ?_
  refine ks_istore_4 rfl rfl ?_
  refine ks_iconst rfl ?_
  refine ks_istore_5 rfl rfl ?_
  -- at 10: stop  st []
  exact l_bestGift (μ := μ) o0 o1 hw hz W t (s 1).toNat 0 _ 61 μ _ (by omega) q_min_0 (fun _ => rfl) (by omega) (by omega) T (Fr_rf _ _)
theorem l_windsThatBring {h : Int} {n : Nat} (hn : n ≤ 60) (hh : kx_in h) (W : tw_W 999 s) (t : ∀ μ', Fr 45 μ μ' → Q (some (kI (q_wi s h n 6 0 0))) (kg L) μ') : ∀ (r j : Nat) (a : Int) (μ1 : kx_M), j + r = 6 → kx_in a → q_wi s h n r j a = q_wi s h n 6 0 0 → TR μ1 30 s → Fr 45 μ μ1 → kx_wx (ke (d + 4)) kt_Fore_windsThatBring Q 5 [some (kR 44), some (kI h), some (kI n), some (kI a), some (kI j)] [] (kg L) μ1 := by
  obtain ⟨_, _⟩ := hh
  intro r
  induction r with
  | zero =>
    intro j a μ1 hj ha q T F
    refine ks_iload rfl rfl ?_
    refine ks_iconst rfl ?_
    -- at 8: if gt -> 60 else 11 st ['5', None]
    refine ks_icmp_gt rfl ⟨by omega, by omega⟩ ⟨by omega, by omega⟩ (fun c => ?_) (fun c => absurd c (by omega))
    refine ks_iload_n rfl rfl ?_
    refine ks_ireturn rfl ?_
    -- at 61: ret  st [None]
    rw [← q] at t
    exact t _ F
  | succ r ih =>
    intro j a μ1 hj ha q T F
    refine ks_iload rfl rfl ?_
    refine ks_iconst rfl ?_
    -- at 8: if gt -> 60 else 11 st ['5', None]
    refine ks_icmp_gt rfl ⟨by omega, by omega⟩ ⟨by omega, by omega⟩ (fun c => absurd c (by omega)) (fun c => ?_)
    refine ks_aload_n rfl rfl ?_
    refine ks_getr (b := 45) rfl rfl rfl rfl (by decide) ?_
    refine ks_aload_n rfl rfl ?_
    refine ks_getr (b := 30) rfl rfl rfl rfl (by decide) ?_
    refine ks_callv_2 rfl rfl rfl (Nat.le_of_ble_eq_true rfl) ?_
    -- at 19: call Town_becomeLike st []
    refine r_try T W (fun μ2 T2 F2 => ?_)
    show kx_wx _ _ _ _ _ _ _ _
    refine ks_aload_n rfl rfl ?_
    refine ks_getr (b := 45) rfl rfl rfl rfl (by decide) ?_
    refine ks_iload rfl rfl ?_
    refine ks_puti rfl rfl ?_
    refine ks_aload_n rfl rfl ?_
    refine ks_iload_n rfl rfl ?_
    refine ks_callv_2 rfl rfl rfl (Nat.le_of_ble_eq_true rfl) ?_
    -- at 33: call Fore_go st []
    have T3 : TR (kx_up μ2 45 10 j) 45 (up1 s 0 j) := by
      have := TRx_10 (v := j) T2
      unfold TR
      rw [up1_ne (by omega)]
      exact this
    have F3 : Fr 45 μ (kx_up μ2 45 10 j) := Fr_up (Fr_tr F F2) (by omega)
    generalize kx_up μ2 45 10 j = μ3 at *
    have W3 := tw_W_wind (v := j) W (by omega) (by omega)
    refine r_go hn W3 T3 (fun μ4 T4 F4 => ?_)
    have W4 := tw_W_go60 W3 (n := n) (by omega)
    have w3 := W4.2.2.1
    have w1 := W4.1
    have e11 := T4.2.2.2.1
    have F5 := Fr_tr F3 F4
    have T5 : TR μ4 30 s := TR_fr T (fun c c0 c1 => by rw [F5 c (by omega), F c (by omega)])
    simp only [q_wi] at q
    show kx_wx _ _ _ _ _ _ _ _
    refine ks_aload_n rfl rfl ?_
    refine ks_getr (b := 45) rfl rfl rfl rfl (by decide) ?_
    refine ks_geti rfl rfl rfl rfl (by (try simp only [kx_up_at, kx_row_at, up1_at, Nat.reduceEqDiff, Int.reduceEq, Int.reduceNeg, and_true, true_and, and_false, false_and, and_self, reduceIte, Nat.add_left_cancel_iff, Nat.add_eq_left, Nat.left_eq_add, Nat.reduceAdd, Int.add_left_inj, Int.add_right_inj, e11]); rfl) ?_
    refine ks_iload_n rfl rfl ?_
    -- at 44: if ne -> 54 else 47 st [None, None]
    refine ks_icmp_ne rfl ⟨by omega, by omega⟩ ⟨by omega, by omega⟩ (fun c2 => ?_) (fun c2 => ?_)
    · refine ks_iload_n rfl rfl ?_
      refine ks_iconst rfl ?_
      refine ks_iload rfl rfl ?_
      refine ks_ishl rfl (by omega) (by omega) ?_
      refine ks_ior rfl ?_
      refine ks_istore_n_3 rfl rfl ?_
      refine ks_iinc_4 rfl rfl ?_
      refine ks_goto rfl ?_
      -- at 5: stop  st []
      rw [if_pos c2] at q
      exact ih (j + 1) _ μ4 (by omega) (kx_or_in _ _) q T5 F5
    · refine ks_iinc_4 rfl rfl ?_
      refine ks_goto rfl ?_
      -- at 5: stop  st []
      rw [if_neg c2, kx_or_0 ha] at q
      exact ih (j + 1) _ μ4 (by omega) ha q T5 F5
theorem r_windsThatBring {h : Int} {n : Nat} (hn : n ≤ 60) (hh : kx_in h) (W : tw_W 999 s) (T : TR μ 30 s) (t : ∀ μ', Fr 45 μ μ' → Q (some (kI (q_wi s h n 6 0 0))) (kg L) μ') : kx_cx (ke (d + 5)) 19 [kR 44, kI h, kI n] (kg L) μ Q := by
  refine ke_start (tb := kt_Fore_windsThatBring) (ls := [some (kR 44), some (kI h), some (kI n), none, none]) rfl rfl ?_
  refine ks_iconst rfl ?_
  refine ks_istore_n_3 rfl rfl ?_
  refine ks_iconst rfl ?_
  refine ks_istore_4 rfl rfl ?_
  -- at 5: stop  st []
  exact l_windsThatBring (μ := μ) hn hh W t 6 0 0 μ (by omega) ⟨by omega, by omega⟩ rfl T (Fr_rf _ _)
theorem l_goesAs {w : Nat} {i : Int} {n : Nat} {f : Int → Int} (hw : w + 1 < 45) (hR : kg_R L w) (i0 : 0 ≤ i) (i1 : i + n ≤ 40) (n1 : n ≤ 16) (hf : ∀ k, f k = μ (w + 1) (i + k)) (hi : ∀ k, 0 ≤ k → k < 40 → kx_in (μ (w + 1) k)) (W : tw_W 999 s) (t1 : q_ga s f n = true → ∀ μ', Fr 45 μ μ' → Q (some (kI 1)) (kg L) μ') (t0 : ¬ q_ga s f n = true → ∀ μ', Fr 45 μ μ' → Q (some (kI 0)) (kg L) μ') : ∀ (r j : Nat) (μ1 : kx_M), j + r = n → q_ga s f j = true → TR μ1 45 (tw_go s j) → Fr 45 μ μ1 → kx_wx (ke (d + 3)) kt_Fore_goesAs Q 3 [some (kR 44), some (kR w), some (kI i), some (kI n), some (kI (i + j))] [] (kg L) μ1 := by
  obtain ⟨g0, g1, g2⟩ := hR
  intro r
  induction r with
  | zero =>
    intro j μ1 hj q T F
    rw [Nat.add_zero] at hj
    subst hj
    refine ks_iload rfl rfl ?_
    refine ks_iload_n rfl rfl ?_
    refine ks_iload_n rfl rfl ?_
    refine ks_iadd rfl ?_
    -- at 8: if ge -> 55 else 11 st [None, None]
    refine ks_icmp_ge rfl ⟨by omega, by omega⟩ ⟨by omega, by omega⟩ (fun c => absurd c (by omega)) (fun c => ?_)
    refine ks_iconst rfl ?_
    refine ks_zreturn rfl (by omega) ?_
    -- at 56: ret  st ['1']
    exact t1 q _ F
  | succ r ih =>
    intro j μ1 hj q T F
    refine ks_iload rfl rfl ?_
    refine ks_iload_n rfl rfl ?_
    refine ks_iload_n rfl rfl ?_
    refine ks_iadd rfl ?_
    -- at 8: if ge -> 55 else 11 st [None, None]
    refine ks_icmp_ge rfl ⟨by omega, by omega⟩ ⟨by omega, by omega⟩ (fun c => ?_) (fun c => absurd c (by omega))
    refine ks_aload_n rfl rfl ?_
    refine ks_getr (b := 45) rfl rfl rfl rfl (by decide) ?_
    refine ks_callv_1 rfl rfl rfl (Nat.le_of_ble_eq_true rfl) ?_
    -- at 15: call Town_takeStep st []
    refine r_takeStep (B := 2000) (by omega) (kg_T45 L) T (tw_W_go60 W (by omega)) (fun μ2 T2 F2 => ?_)
    have F3 := Fr_tr F F2
    have W2 := tw_W_go60 W (n := j + 1) (by omega)
    have w3 : 0 ≤ tw_go s (j + 1) 4 ∧ tw_go s (j + 1) 4 < tw_go s (j + 1) 1 := W2.2.2.1
    have w1 : 1 ≤ tw_go s (j + 1) 1 ∧ tw_go s (j + 1) 1 ≤ 6 := W2.1
    have e11 : μ2 45 11 = tw_go s (j + 1) 4 := T2.2.2.2.1
    have ei : μ2 (w + 1) (i + j) = f j := by rw [F3 (w + 1) (by omega), hf]
    obtain ⟨b0, b1⟩ := hi (i + j) (by omega) (by omega)
    rw [← hf] at b0 b1
    have ej : i + (j : Int) + 1 = i + ((j + 1 : Nat) : Int) := by omega
    have qs : q_ga s f (j + 1) = (decide (f j = -1) || decide (f j = tw_go s (j + 1) 4)) := by simp only [q_ga]; rw [q]; rfl
    show kx_wx _ _ _ _ _ (_ :: _) _ _
    refine ks_pop rfl ?_
    refine ks_aload_n rfl rfl ?_
    refine ks_getr (b := w + 1) rfl rfl (by assumption) (by assumption) (Nat.succ_ne_zero _) ?_
    refine ks_iload rfl rfl ?_
    refine ks_iaload rfl (by assumption) (by omega) (by omega) (by (try simp only [kx_up_at, kx_row_at, up1_at, Nat.reduceEqDiff, Int.reduceEq, Int.reduceNeg, and_true, true_and, and_false, false_and, and_self, reduceIte, Nat.add_left_cancel_iff, Nat.add_eq_left, Nat.left_eq_add, Nat.reduceAdd, Int.add_left_inj, Int.add_right_inj, e11, ei]); rfl) ?_
    refine ks_iconst rfl ?_
    -- at 27: if eq -> 49 else 30 st ['-1', None]
    refine ks_icmp_eq rfl ⟨by omega, by omega⟩ ⟨by omega, by omega⟩ (fun c1 => ?_) (fun c1 => ?_)
    · refine ks_iinc_4 rfl rfl ?_
      refine ks_goto rfl ?_
      -- at 3: stop  st []
      rw [ej]
      exact ih (j + 1) μ2 (by omega) (by rw [qs, decide_eq_true c1]; rfl) T2 F3
    · refine ks_aload_n rfl rfl ?_
      refine ks_getr (b := w + 1) rfl rfl (by assumption) (by assumption) (Nat.succ_ne_zero _) ?_
      refine ks_iload rfl rfl ?_
      refine ks_iaload rfl (by assumption) (by omega) (by omega) (by (try simp only [kx_up_at, kx_row_at, up1_at, Nat.reduceEqDiff, Int.reduceEq, Int.reduceNeg, and_true, true_and, and_false, false_and, and_self, reduceIte, Nat.add_left_cancel_iff, Nat.add_eq_left, Nat.left_eq_add, Nat.reduceAdd, Int.add_left_inj, Int.add_right_inj, e11, ei]); rfl) ?_
      refine ks_aload_n rfl rfl ?_
      refine ks_getr (b := 45) rfl rfl rfl rfl (by decide) ?_
      refine ks_geti rfl rfl rfl rfl (by (try simp only [kx_up_at, kx_row_at, up1_at, Nat.reduceEqDiff, Int.reduceEq, Int.reduceNeg, and_true, true_and, and_false, false_and, and_self, reduceIte, Nat.add_left_cancel_iff, Nat.add_eq_left, Nat.left_eq_add, Nat.reduceAdd, Int.add_left_inj, Int.add_right_inj, e11, ei]); rfl) ?_
      -- at 44: if eq -> 49 else 47 st [None, None]
      refine ks_icmp_eq rfl ⟨by omega, by omega⟩ ⟨by omega, by omega⟩ (fun c2 => ?_) (fun c2 => ?_)
      · refine ks_iinc_4 rfl rfl ?_
        refine ks_goto rfl ?_
        -- at 3: stop  st []
        rw [ej]
        exact ih (j + 1) μ2 (by omega) (by rw [qs, decide_eq_true c2, Bool.or_true]) T2 F3
      · refine ks_iconst rfl ?_
        refine ks_zreturn rfl (by omega) ?_
        -- at 48: ret  st ['0']
        refine t0 ?_ _ F3
        rw [q_ga_no (j := j + 1) (by rw [qs, decide_eq_false c1, decide_eq_false c2]; rfl) (by omega)]
        exact Bool.false_ne_true
theorem r_goesAs {w : Nat} {i : Int} {n : Nat} {f : Int → Int} (hw : w + 1 < 45) (hR : kg_R L w) (i0 : 0 ≤ i) (i1 : i + n ≤ 40) (n1 : n ≤ 16) (hf : ∀ k, f k = μ (w + 1) (i + k)) (hi : ∀ k, 0 ≤ k → k < 40 → kx_in (μ (w + 1) k)) (W : tw_W 999 s) (T : TR μ 45 s) (t1 : q_ga s f n = true → ∀ μ', Fr 45 μ μ' → Q (some (kI 1)) (kg L) μ') (t0 : ¬ q_ga s f n = true → ∀ μ', Fr 45 μ μ' → Q (some (kI 0)) (kg L) μ') : kx_cx (ke (d + 4)) 24 [kR 44, kR w, kI i, kI n] (kg L) μ Q := by
  refine ke_start (tb := kt_Fore_goesAs) (ls := [some (kR 44), some (kR w), some (kI i), some (kI n), none]) rfl rfl ?_
  refine ks_iload_n rfl rfl ?_
  refine ks_istore_4 rfl rfl ?_
  -- at 3: stop  st []
  have := l_goesAs (μ := μ) (d := d) hw hR i0 i1 n1 hf hi W t1 t0 n 0 μ (by omega) rfl T (Fr_rf _ _)
  rw [show i + ((0 : Nat) : Int) = i by omega] at this
  exact this
end FP
end
section
/-! foretold, class side, rows seen, and the round -/
theorem lor_add {a b : Int} {k : Nat} (a0 : 0 ≤ a) (b0 : 0 ≤ b) (b1 : b < 2 ^ k) (h : a * 2 ^ k + b < 4611686018427387904) : kx_lor (a * 2 ^ k) b = a * 2 ^ k + b := by
  obtain ⟨m, rfl⟩ := Int.eq_ofNat_of_zero_le a0
  obtain ⟨n, rfl⟩ := Int.eq_ofNat_of_zero_le b0
  have hn : n < 2 ^ k := by exact_mod_cast b1
  have e0 : ((m : Int) * 2 ^ k) = ((m * 2 ^ k : Nat) : Int) := by push_cast; rfl
  rw [e0] at h ⊢
  have ho : m * 2 ^ k ||| n = m * 2 ^ k + n := by
    rw [← Nat.shiftLeft_eq, Nat.shiftLeft_add_eq_or_of_lt hn]
  generalize m * 2 ^ k = X at *
  have hX : X + n < 4611686018427387904 := by omega
  show (BitVec.ofInt 64 (X : Int) ||| BitVec.ofInt 64 (n : Int)).toInt = _
  have e1 : (BitVec.ofInt 64 (X : Int)).toNat = X := by rw [BitVec.toNat_ofInt]; omega
  have e2 : (BitVec.ofInt 64 (n : Int)).toNat = n := by rw [BitVec.toNat_ofInt]; omega
  have e3 : (BitVec.ofInt 64 (X : Int) ||| BitVec.ofInt 64 (n : Int)).toNat = X + n := by rw [BitVec.toNat_or, e1, e2, ho]
  rw [BitVec.toInt_eq_toNat_of_lt (by rw [e3]; omega), e3]
  omega
def tw_mk (s : Int → Int) : Nat → Int
  | 0 => s 5 * 8 + s 4
  | n + 1 => tw_mk s n * 64 + s (34 + n)
theorem tw_mk_in {B : Int} {s : Int → Int} (W : tw_W B s) : ∀ n : Nat, n ≤ (s 2).toNat → 0 ≤ tw_mk s n ∧ tw_mk s n < 128 * 64 ^ n ∧ (64 : Int) ^ n ≤ 16777216 := by
  obtain ⟨w1, w2, w3, w4, w5, w6, w7, w8⟩ := W
  intro n
  induction n with
  | zero => intro _; simp only [tw_mk]; refine ⟨by omega, by omega, by decide⟩
  | succ n ih =>
    intro hn
    obtain ⟨i1, i2, i3⟩ := ih (by omega)
    have q := w8 n (by omega) (by omega)
    simp only [tw_mk]
    have hp : (64 : Int) ^ (n + 1) ≤ 16777216 := by
      have hc : n = 0 ∨ n = 1 ∨ n = 2 ∨ n = 3 := by omega
      rcases hc with e | e | e | e <;> subst e <;> decide
    rw [Int.pow_succ] at hp ⊢
    generalize (64 : Int) ^ n = X at *
    refine ⟨by omega, by omega, hp⟩
/-- the mark of the town behind n steps -/
def q_mk (s : Int → Int) (n : Nat) : Int := tw_mk (tw_go s n) (s 2).toNat
theorem q_mk_in {s : Int → Int} (W : tw_W 999 s) (n : Nat) : 0 ≤ q_mk s n ∧ q_mk s n < 2147483648 := by
  have e := (tw_go_12 W n).2
  have := tw_mk_in (tw_W_go W n) (s 2).toNat (by rw [e]; exact Nat.le_refl _)
  unfold q_mk
  omega
def q_ea (g : Nat → Int) (n : Nat) : Nat → Nat → Nat
  | 0, _ => n
  | r + 1, k => if g k = g n then k else q_ea g n r (k + 1)
def q_ro (g : Nat → Int) (w : Int) : Nat → Nat → Int
  | 0, _ => -1000000
  | r + 1, n => if q_ea g n n 0 < n then (if w = 0 then (n : Int) else (q_ea g n n 0 : Nat)) else q_ro g w r (n + 1)
theorem q_ea_le {g : Nat → Int} {n : Nat} : ∀ r k, k + r = n → q_ea g n r k ≤ n := by
  intro r
  induction r with
  | zero => intro k _; exact Nat.le_refl _
  | succ r ih => intro k hk; simp only [q_ea]; split; omega; exact ih (k + 1) (by omega)
def F54 (μ μ' : kx_M) : Prop := ∀ c, c < 45 ∨ 54 < c → μ' c = μ c
section FQ
variable {d L : Nat} {G : kx_G} {μ : kx_M} {Q : Option kx_V → kx_G → kx_M → Prop} {s : Int → Int} {z : Int}
theorem l_giftsThatGoAs {w : Nat} {i v : Int} {n : Nat} {f : Int → Int} (hv : kx_in v) (hw : w + 1 < 45) (hR : kg_R L w) (i0 : 0 ≤ i) (i1 : i + n ≤ 40) (n1 : n ≤ 16) (hf : ∀ k, f k = μ (w + 1) (i + k)) (hi : ∀ k, 0 ≤ k → k < 40 → kx_in (μ (w + 1) k)) (W : tw_W 999 s) (t : ∀ μ', Fr 45 μ μ' → Q (some (kI (if v = 0 then (q_se s f n (s 1).toNat 0 (-1000000)).1 else (q_se s f n (s 1).toNat 0 (-1000000)).2))) (kg L) μ') : ∀ (r : Nat) (a b : Int) (μ1 : kx_M), r ≤ (s 1).toNat → q_se s f n r a b = q_se s f n (s 1).toNat 0 (-1000000) → TR μ1 30 s → Fr 45 μ μ1 → kx_wx (ke (d + 4)) kt_Fore_giftsThatGoAs Q 18 [some (kR 44), some (kR w), some (kI i), some (kI n), some (kI v), some (kI a), some (kI b), some (kI (r - 1))] [] (kg L) μ1 := by
  obtain ⟨_, _⟩ := hv
  have w1 := W.1
  have hR0 := hR
  intro r
  induction r with
  | zero =>
    intro a b μ1 hr q T F
    rw [← q] at t
    simp only [q_se] at t
    refine ks_iload rfl rfl ?_
    -- at 20: if lt -> 66 else 23 st [None]
    refine ks_if_lt rfl ⟨by omega, by omega⟩ (fun c => ?_) (fun c => absurd c (by omega))
    refine ks_iload rfl rfl ?_
    -- at 68: if ne -> 76 else 71 st [None]
    refine ks_if_ne rfl ⟨by omega, by omega⟩ (fun c2 => ?_) (fun c2 => ?_)
    · refine ks_iload rfl rfl ?_
      refine ks_goto rfl ?_
      refine ks_ireturn rfl ?_
      -- at 78: ret  st [None]
      rw [if_pos c2] at t
      exact t _ F
    · refine ks_iload rfl rfl ?_
      refine ks_ireturn rfl ?_
      -- at 78: ret  st [None]
      rw [if_neg c2] at t
      exact t _ F
  | succ r ih =>
    intro a b μ1 hr q T F
    have e : ((r + 1 : Nat) : Int) - 1 = r := by omega
    rw [e]
    refine ks_iload rfl rfl ?_
    -- at 20: if lt -> 66 else 23 st [None]
    refine ks_if_lt rfl ⟨by omega, by omega⟩ (fun c => absurd c (by omega)) (fun c => ?_)
    refine ks_aload_n rfl rfl ?_
    refine ks_getr (b := 45) rfl rfl rfl rfl (by decide) ?_
    refine ks_aload_n rfl rfl ?_
    refine ks_getr (b := 30) rfl rfl rfl rfl (by decide) ?_
    refine ks_callv_2 rfl rfl rfl (Nat.le_of_ble_eq_true rfl) ?_
    -- at 31: call Town_becomeLike st []
    refine r_try T W (fun μ2 T2 F2 => ?_)
    show kx_wx _ _ _ _ _ _ _ _
    refine ks_aload_n rfl rfl ?_
    refine ks_getr (b := 45) rfl rfl rfl rfl (by decide) ?_
    refine ks_iload rfl rfl ?_
    refine ks_callv_2 rfl rfl rfl (Nat.le_of_ble_eq_true rfl) ?_
    -- at 40: call Town_handTo st []
    refine r_handTo (kg_T45 L) ?_
    have T3 : TR (kx_up (kx_up μ2 45 11 r) 45 12 0) 45 (tw_gv s r) := by
      have := TRx_12 (v := 0) (TRx_11 (v := r) T2) (by rw [up1_ne (by omega)]; omega)
      unfold TR tw_gv
      rw [up1_ne (by omega), up1_ne (by omega)]
      exact this
    have F3 : Fr 45 μ (kx_up (kx_up μ2 45 11 r) 45 12 0) := Fr_up (Fr_up (Fr_tr F F2) (by omega)) (by omega)
    generalize kx_up (kx_up μ2 45 11 r) 45 12 0 = μ3 at *
    show kx_wx _ _ _ _ _ _ _ _
    refine ks_aload_n rfl rfl ?_
    refine ks_aload_n rfl rfl ?_
    refine ks_iload_n rfl rfl ?_
    refine ks_iload_n rfl rfl ?_
    refine ks_callv_4 rfl rfl rfl (Nat.le_of_ble_eq_true rfl) ?_
    -- at 47: call Fore_goesAs st []
    have W3 : tw_W 999 (tw_gv s r) := tw_W_give W (by omega) (by omega)
    simp only [q_se] at q
    refine r_goesAs (f := f) hw hR0 i0 i1 n1 (fun k => by rw [F3 (w + 1) (by omega)]; exact hf k) (fun k a b => by rw [F3 (w + 1) (by omega)]; exact hi k a b) W3 T3 (fun D μ4 F4 => ?_) (fun D μ4 F4 => ?_)
    · have F5 := Fr_tr F3 F4
      show kx_wx _ _ _ _ _ (_ :: _) _ _
      refine ks_if_eq_1 rfl ?_
      refine ks_iinc_5 rfl rfl ?_
      refine ks_iload rfl rfl ?_
      refine ks_istore_6 rfl rfl ?_
      refine ks_iinc_7 rfl rfl ?_
      refine ks_goto rfl ?_
      -- at 18: stop  st []
      rw [if_pos D] at q
      exact ih _ _ μ4 (by omega) q (TR_fr T (fun c c0 c1 => by rw [F5 c (by omega), F c (by omega)])) F5
    · have F5 := Fr_tr F3 F4
      show kx_wx _ _ _ _ _ (_ :: _) _ _
      refine ks_if_eq_0 rfl ?_
      refine ks_iinc_7 rfl rfl ?_
      refine ks_goto rfl ?_
      -- at 18: stop  st []
      rw [if_neg D] at q
      exact ih _ _ μ4 (by omega) q (TR_fr T (fun c c0 c1 => by rw [F5 c (by omega), F c (by omega)])) F5
theorem r_giftsThatGoAs {w : Nat} {i v : Int} {n : Nat} {f : Int → Int} (hv : kx_in v) (hw : w + 1 < 45) (hR : kg_R L w) (i0 : 0 ≤ i) (i1 : i + n ≤ 40) (n1 : n ≤ 16) (hf : ∀ k, f k = μ (w + 1) (i + k)) (hi : ∀ k, 0 ≤ k → k < 40 → kx_in (μ (w + 1) k)) (W : tw_W 999 s) (T : TR μ 30 s) (t : ∀ μ', Fr 45 μ μ' → Q (some (kI (if v = 0 then (q_se s f n (s 1).toNat 0 (-1000000)).1 else (q_se s f n (s 1).toNat 0 (-1000000)).2))) (kg L) μ') : kx_cx (ke (d + 5)) 20 [kR 44, kR w, kI i, kI n, kI v] (kg L) μ Q := by
  refine ke_start (tb := kt_Fore_giftsThatGoAs) (ls := [some (kR 44), some (kR w), some (kI i), some (kI n), some (kI v), none, none, none]) rfl rfl ?_
  have w1 := W.1
  have e8 := T.1
  refine ks_iconst rfl ?_
  refine ks_istore_5 rfl rfl ?_
  refine ks_ldc rfl ?_
  refine ks_istore_6 rfl rfl ?_
  refine ks_aload_n rfl rfl ?_
  refine ks_getr (b := 30) rfl rfl rfl rfl (by decide) ?_
  refine ks_geti rfl rfl rfl rfl (by (try simp only [kx_up_at, kx_row_at, up1_at, Nat.reduceEqDiff, Int.reduceEq, Int.reduceNeg, and_true, true_and, and_false, false_and, and_self, reduceIte, Nat.add_left_cancel_iff, Nat.add_eq_left, Nat.left_eq_add, Nat.reduceAdd, Int.add_left_inj, Int.add_right_inj, e8]); rfl) ?_
  refine ks_iconst rfl ?_
  refine ks_isub rfl ?_
  refine ks_istore_7 rfl rfl ?_
  -- at 18: stop  st []
  have := l_giftsThatGoAs (d := d) hv hw hR i0 i1 n1 hf hi W t (s 1).toNat 0 (-1000000) μ (Nat.le_refl _) rfl T (Fr_rf _ _)
  rw [show ((s 1).toNat : Int) - 1 = s 1 - 1 by omega] at this
  exact this
theorem l_keepsThatGoAs {w : Nat} {h i : Int} {n : Nat} {f : Int → Int} (h0 : 0 ≤ h) (h1 : h < s 1) (hw : w + 1 < 45) (hR : kg_R L w) (i0 : 0 ≤ i) (i1 : i + n ≤ 40) (n1 : n ≤ 16) (hf : ∀ k, f k = μ (w + 1) (i + k)) (hi : ∀ k, 0 ≤ k → k < 40 → kx_in (μ (w + 1) k)) (W : tw_W 999 s) (t : ∀ μ', Fr 45 μ μ' → Q (some (kI (q_ke s f h n 9 1 0))) (kg L) μ') : ∀ (r j : Nat) (a : Int) (μ1 : kx_M), j + r = 10 → 1 ≤ j → kx_in a → q_ke s f h n r j a = q_ke s f h n 9 1 0 → TR μ1 30 s → Fr 45 μ μ1 → kx_wx (ke (d + 4)) kt_Fore_keepsThatGoAs Q 6 [some (kR 44), some (kI h), some (kR w), some (kI i), some (kI n), some (kI a), some (kI j)] [] (kg L) μ1 := by
  have w1 := W.1
  have hR0 := hR
  intro r
  induction r with
  | zero =>
    intro j a μ1 hj j1 ha q T F
    rw [← q] at t
    simp only [q_ke] at t
    refine ks_iload rfl rfl ?_
    refine ks_bipush rfl ?_
    -- at 10: if gt -> 63 else 13 st ['9', None]
    refine ks_icmp_gt rfl ⟨by omega, by omega⟩ ⟨by omega, by omega⟩ (fun c => ?_) (fun c => absurd c (by omega))
    refine ks_iload rfl rfl ?_
    refine ks_ireturn rfl ?_
    -- at 65: ret  st [None]
    exact t _ F
  | succ r ih =>
    intro j a μ1 hj j1 ha q T F
    refine ks_iload rfl rfl ?_
    refine ks_bipush rfl ?_
    -- at 10: if gt -> 63 else 13 st ['9', None]
    refine ks_icmp_gt rfl ⟨by omega, by omega⟩ ⟨by omega, by omega⟩ (fun c => absurd c (by omega)) (fun c => ?_)
    refine ks_aload_n rfl rfl ?_
    refine ks_getr (b := 45) rfl rfl rfl rfl (by decide) ?_
    refine ks_aload_n rfl rfl ?_
    refine ks_getr (b := 30) rfl rfl rfl rfl (by decide) ?_
    refine ks_callv_2 rfl rfl rfl (Nat.le_of_ble_eq_true rfl) ?_
    -- at 21: call Town_becomeLike st []
    refine r_try T W (fun μ2 T2 F2 => ?_)
    show kx_wx _ _ _ _ _ _ _ _
    refine ks_aload_n rfl rfl ?_
    refine ks_getr (b := 45) rfl rfl rfl rfl (by decide) ?_
    refine ks_getr (b := 47) rfl rfl rfl rfl (by decide) ?_
    refine ks_iload_n rfl rfl ?_
    refine ks_iload rfl rfl ?_
    refine ks_iastore rfl rfl (by omega) (by omega) ?_
    refine ks_aload_n rfl rfl ?_
    refine ks_aload_n rfl rfl ?_
    refine ks_iload_n rfl rfl ?_
    refine ks_iload rfl rfl ?_
    refine ks_callv_4 rfl rfl rfl (Nat.le_of_ble_eq_true rfl) ?_
    -- at 40: call Fore_goesAs st []
    have T3 : TR (kx_up μ2 47 h j) 45 (up1 s (12 + h) j) := TR_keep (a := 45) W T2 h0 h1
    have F3 : Fr 45 μ (kx_up μ2 47 h j) := Fr_up (Fr_tr F F2) (by omega)
    generalize kx_up μ2 47 h j = μ3 at *
    have W3 : tw_W 999 (up1 s (12 + h) j) := tw_W_keep W h0 h1 (by omega) (by omega)
    simp only [q_ke] at q
    refine r_goesAs (f := f) hw hR0 i0 i1 n1 (fun k => by rw [F3 (w + 1) (by omega)]; exact hf k) (fun k a b => by rw [F3 (w + 1) (by omega)]; exact hi k a b) W3 T3 (fun D μ4 F4 => ?_) (fun D μ4 F4 => ?_)
    · have F5 := Fr_tr F3 F4
      show kx_wx _ _ _ _ _ (_ :: _) _ _
      refine ks_if_eq_1 rfl ?_
      refine ks_iload rfl rfl ?_
      refine ks_iconst rfl ?_
      refine ks_iload rfl rfl ?_
      refine ks_iconst rfl ?_
      refine ks_isub rfl ?_
      refine ks_ishl rfl (by omega) (by omega) ?_
      refine ks_ior rfl ?_
      refine ks_istore_5 rfl rfl ?_
      refine ks_iinc_6 rfl rfl ?_
      refine ks_goto rfl ?_
      -- at 6: stop  st []
      rw [if_pos D] at q
      exact ih (j + 1) _ μ4 (by omega) (by omega) (kx_or_in _ _) q (TR_fr T (fun c c0 c1 => by rw [F5 c (by omega), F c (by omega)])) F5
    · have F5 := Fr_tr F3 F4
      show kx_wx _ _ _ _ _ (_ :: _) _ _
      refine ks_if_eq_0 rfl ?_
      refine ks_iinc_6 rfl rfl ?_
      refine ks_goto rfl ?_
      -- at 6: stop  st []
      rw [if_neg D, kx_or_0 ha] at q
      exact ih (j + 1) _ μ4 (by omega) (by omega) ha q (TR_fr T (fun c c0 c1 => by rw [F5 c (by omega), F c (by omega)])) F5
theorem r_keepsThatGoAs {w : Nat} {h i : Int} {n : Nat} {f : Int → Int} (h0 : 0 ≤ h) (h1 : h < s 1) (hw : w + 1 < 45) (hR : kg_R L w) (i0 : 0 ≤ i) (i1 : i + n ≤ 40) (n1 : n ≤ 16) (hf : ∀ k, f k = μ (w + 1) (i + k)) (hi : ∀ k, 0 ≤ k → k < 40 → kx_in (μ (w + 1) k)) (W : tw_W 999 s) (T : TR μ 30 s) (t : ∀ μ', Fr 45 μ μ' → Q (some (kI (q_ke s f h n 9 1 0))) (kg L) μ') : kx_cx (ke (d + 5)) 21 [kR 44, kI h, kR w, kI i, kI n] (kg L) μ Q := by
  refine ke_start (tb := kt_Fore_keepsThatGoAs) (ls := [some (kR 44), some (kI h), some (kR w), some (kI i), some (kI n), none, none]) rfl rfl ?_
  refine ks_iconst rfl ?_
  refine ks_istore_5 rfl rfl ?_
  refine ks_iconst rfl ?_
  refine ks_istore_6 rfl rfl ?_
  -- at 6: stop  st []
  exact l_keepsThatGoAs (d := d) h0 h1 hw hR i0 i1 n1 hf hi W t 9 1 0 μ (by omega) (by omega) ⟨by omega, by omega⟩ rfl T (Fr_rf _ _)
theorem l_markOfTrial {B : Int} (T : TR μ 45 s) (W : tw_W B s) (t : Q (some (kL (tw_mk s (s 2).toNat))) (kg L) μ) : ∀ (r j : Nat), j + r = (s 2).toNat → kx_wx (ke d) kt_Fore_markOfTrial Q 24 [some (kR 44), some (kL (tw_mk s j)), none, some (kI j)] [] (kg L) μ := by
  have W0 := W
  obtain ⟨w1, w2, w3, w4, w5, w6, w7, w8⟩ := W
  have e9 := T.2.1
  intro r
  induction r with
  | zero =>
    intro j hj
    rw [Nat.add_zero] at hj
    rw [← hj] at t
    refine ks_iload_n rfl rfl ?_
    refine ks_aload_n rfl rfl ?_
    refine ks_getr (b := 45) rfl rfl rfl rfl (by decide) ?_
    refine ks_geti rfl rfl rfl rfl (by (try simp only [kx_up_at, kx_row_at, up1_at, Nat.reduceEqDiff, Int.reduceEq, Int.reduceNeg, and_true, true_and, and_false, false_and, and_self, reduceIte, Nat.add_left_cancel_iff, Nat.add_eq_left, Nat.left_eq_add, Nat.reduceAdd, Int.add_left_inj, Int.add_right_inj, e9]); rfl) ?_
    -- at 32: if ge -> 57 else 35 st [None, None]
    refine ks_icmp_ge rfl ⟨by omega, by omega⟩ ⟨by omega, by omega⟩ (fun c => absurd c (by omega)) (fun c => ?_)
    refine ks_lload_n rfl rfl ?_
    refine ks_lreturn rfl ?_
    -- at 58: ret  st [None]
    exact t
  | succ r ih =>
    intro j hj
    have q8 := w8 j (by omega) (by omega)
    have e6 := (T.2.2.2.2.2.2.2 j (by omega) (by omega)).2.1
    obtain ⟨m1, m2, m3⟩ := tw_mk_in W0 j (by omega)
    refine ks_iload_n rfl rfl ?_
    refine ks_aload_n rfl rfl ?_
    refine ks_getr (b := 45) rfl rfl rfl rfl (by decide) ?_
    refine ks_geti rfl rfl rfl rfl (by (try simp only [kx_up_at, kx_row_at, up1_at, Nat.reduceEqDiff, Int.reduceEq, Int.reduceNeg, and_true, true_and, and_false, false_and, and_self, reduceIte, Nat.add_left_cancel_iff, Nat.add_eq_left, Nat.left_eq_add, Nat.reduceAdd, Int.add_left_inj, Int.add_right_inj, e9, e6]); rfl) ?_
    -- at 32: if ge -> 57 else 35 st [None, None]
    refine ks_icmp_ge rfl ⟨by omega, by omega⟩ ⟨by omega, by omega⟩ (fun c => ?_) (fun c => absurd c (by omega))
    refine ks_lload_n rfl rfl ?_
    refine ks_bipush rfl ?_
    refine ks_lshl rfl (by omega) (by omega) ?_
    refine ks_aload_n rfl rfl ?_
    refine ks_getr (b := 45) rfl rfl rfl rfl (by decide) ?_
    refine ks_getr (b := 51) rfl rfl rfl rfl (by decide) ?_
    refine ks_iload_n rfl rfl ?_
    refine ks_iaload rfl rfl (by omega) (by omega) (by (try simp only [kx_up_at, kx_row_at, up1_at, Nat.reduceEqDiff, Int.reduceEq, Int.reduceNeg, and_true, true_and, and_false, false_and, and_self, reduceIte, Nat.add_left_cancel_iff, Nat.add_eq_left, Nat.left_eq_add, Nat.reduceAdd, Int.add_left_inj, Int.add_right_inj, e9, e6]); rfl) ?_
    refine ks_i2l rfl ⟨by omega, by omega⟩ ?_
    refine ks_lor rfl ?_
    refine ks_lstore_n_1 rfl rfl ?_
    refine ks_iinc_3 rfl rfl ?_
    refine ks_goto rfl ?_
    -- at 24: stop  st []
    have e : kx_lor (tw_mk s j * 2 ^ (6 : Int).toNat) (s (34 + j)) = tw_mk s (j + 1) := by
      have p : (2 : Int) ^ (6 : Int).toNat = 64 := by decide
      have := lor_add (a := tw_mk s j) (b := s (34 + j)) (k := (6 : Int).toNat) m1 (by omega) (by rw [p]; omega) (by rw [p]; omega)
      rw [this, p]; rfl
    rw [e]
    exact ih (j + 1) (by omega)
theorem r_markOfTrial {B : Int} (T : TR μ 45 s) (W : tw_W B s) (t : Q (some (kL (tw_mk s (s 2).toNat))) (kg L) μ) : kx_cx (ke (d + 1)) 25 [kR 44] (kg L) μ Q := by
  refine ke_start (tb := kt_Fore_markOfTrial) (ls := [some (kR 44), none, none, none]) rfl rfl ?_
  have W0 := W
  obtain ⟨w1, w2, w3, w4, w5, w6, w7, w8⟩ := W
  have e11 := T.2.2.2.1
  have e12 := T.2.2.2.2.1
  refine ks_aload_n rfl rfl ?_
  refine ks_getr (b := 45) rfl rfl rfl rfl (by decide) ?_
  refine ks_geti rfl rfl rfl rfl (by (try simp only [kx_up_at, kx_row_at, up1_at, Nat.reduceEqDiff, Int.reduceEq, Int.reduceNeg, and_true, true_and, and_false, false_and, and_self, reduceIte, Nat.add_left_cancel_iff, Nat.add_eq_left, Nat.left_eq_add, Nat.reduceAdd, Int.add_left_inj, Int.add_right_inj, e11, e12]); rfl) ?_
  refine ks_i2l rfl ⟨by omega, by omega⟩ ?_
  refine ks_lstore_n_1 rfl rfl ?_
  refine ks_lload_n rfl rfl ?_
  refine ks_iconst rfl ?_
  refine ks_lshl rfl (by omega) (by omega) ?_
  refine ks_aload_n rfl rfl ?_
  refine ks_getr (b := 45) rfl rfl rfl rfl (by decide) ?_
  refine ks_geti rfl rfl rfl rfl (by (try simp only [kx_up_at, kx_row_at, up1_at, Nat.reduceEqDiff, Int.reduceEq, Int.reduceNeg, and_true, true_and, and_false, false_and, and_self, reduceIte, Nat.add_left_cancel_iff, Nat.add_eq_left, Nat.left_eq_add, Nat.reduceAdd, Int.add_left_inj, Int.add_right_inj, e11, e12]); rfl) ?_
  refine ks_i2l rfl ⟨by omega, by omega⟩ ?_
  refine ks_lor rfl ?_
  refine ks_lstore_n_1 rfl rfl ?_
  refine ks_iconst rfl ?_
  refine ks_istore_n_3 rfl rfl ?_
  -- at 24: stop  st []
  have e : kx_lor (s 5 * 2 ^ (3 : Int).toNat) (s 4) = tw_mk s 0 := by
    have p : (2 : Int) ^ (3 : Int).toNat = 8 := by decide
    have := lor_add (a := s 5) (b := s 4) (k := (3 : Int).toNat) (by omega) (by omega) (by rw [p]; omega) (by rw [p]; omega)
    rw [this, p]; rfl
  rw [e]
  exact l_markOfTrial T W0 t (s 2).toNat 0 (by omega)
theorem l_earliest {g : Nat → Int} {n : Nat} (hn : n ≤ 60) (hg : ∀ k : Nat, k ≤ n → μ 54 k = g k) (hb : ∀ k, 0 ≤ g k ∧ g k < 2147483648) (t : Q (some (kI (q_ea g n n 0 : Nat))) (kg L) μ) : ∀ (r j : Nat), j + r = n → q_ea g n r j = q_ea g n n 0 → kx_wx (ke d) kt_Fore_earliestWithMarkOf Q 2 [some (kR 44), some (kI n), some (kI j)] [] (kg L) μ := by
  intro r
  induction r with
  | zero =>
    intro j hj q
    rw [← q] at t
    refine ks_iload_n rfl rfl ?_
    refine ks_iload_n rfl rfl ?_
    -- at 4: if ge -> 31 else 7 st [None, None]
    refine ks_icmp_ge rfl ⟨by omega, by omega⟩ ⟨by omega, by omega⟩ (fun c => absurd c (by omega)) (fun c => ?_)
    refine ks_iload_n rfl rfl ?_
    refine ks_ireturn rfl ?_
    -- at 32: ret  st [None]
    exact t
  | succ r ih =>
    intro j hj q
    have b1 := hb j
    have b2 := hb n
    have e1 := hg j (by omega)
    have e2 := hg n (Nat.le_refl n)
    simp only [q_ea] at q
    refine ks_iload_n rfl rfl ?_
    refine ks_iload_n rfl rfl ?_
    -- at 4: if ge -> 31 else 7 st [None, None]
    refine ks_icmp_ge rfl ⟨by omega, by omega⟩ ⟨by omega, by omega⟩ (fun c => ?_) (fun c => absurd c (by omega))
    refine ks_aload_n rfl rfl ?_
    refine ks_getr (b := 54) rfl rfl rfl rfl (by decide) ?_
    refine ks_iload_n rfl rfl ?_
    refine ks_laload rfl rfl (by omega) (by omega) (by (try simp only [kx_up_at, kx_row_at, up1_at, Nat.reduceEqDiff, Int.reduceEq, Int.reduceNeg, and_true, true_and, and_false, false_and, and_self, reduceIte, Nat.add_left_cancel_iff, Nat.add_eq_left, Nat.left_eq_add, Nat.reduceAdd, Int.add_left_inj, Int.add_right_inj, e1, e2]); rfl) ?_
    refine ks_aload_n rfl rfl ?_
    refine ks_getr (b := 54) rfl rfl rfl rfl (by decide) ?_
    refine ks_iload_n rfl rfl ?_
    refine ks_laload rfl rfl (by omega) (by omega) (by (try simp only [kx_up_at, kx_row_at, up1_at, Nat.reduceEqDiff, Int.reduceEq, Int.reduceNeg, and_true, true_and, and_false, false_and, and_self, reduceIte, Nat.add_left_cancel_iff, Nat.add_eq_left, Nat.left_eq_add, Nat.reduceAdd, Int.add_left_inj, Int.add_right_inj, e1, e2]); rfl) ?_
    -- at 19: lcmp  st [None, None]
    refine ks_lcmp rfl ⟨by omega, by omega⟩ ⟨by omega, by omega⟩ (fun hl => ?_) (fun hl => ?_) (fun hl => ?_)
    · rw [if_neg (by omega)] at q
      refine ks_if_ne_m rfl ?_
      refine ks_iinc_2 rfl rfl ?_
      refine ks_goto rfl ?_
      -- at 2: stop  st []
      exact ih (j + 1) (by omega) q
    · rw [if_pos (by omega)] at q
      rw [← q] at t
      refine ks_if_ne_0 rfl ?_
      refine ks_iload_n rfl rfl ?_
      refine ks_ireturn rfl ?_
      -- at 24: ret  st [None]
      exact t
    · rw [if_neg (by omega)] at q
      refine ks_if_ne_1 rfl ?_
      refine ks_iinc_2 rfl rfl ?_
      refine ks_goto rfl ?_
      -- at 2: stop  st []
      exact ih (j + 1) (by omega) q
theorem r_earliest {g : Nat → Int} {n : Nat} (hn : n ≤ 60) (hg : ∀ k : Nat, k ≤ n → μ 54 k = g k) (hb : ∀ k, 0 ≤ g k ∧ g k < 2147483648) (t : Q (some (kI (q_ea g n n 0 : Nat))) (kg L) μ) : kx_cx (ke (d + 1)) 26 [kR 44, kI n] (kg L) μ Q := by
  refine ke_start (tb := kt_Fore_earliestWithMarkOf) (ls := [some (kR 44), some (kI n), none]) rfl rfl ?_
  refine ks_iconst rfl ?_
  refine ks_istore_n_2 rfl rfl ?_
  -- at 2: stop  st []
  exact l_earliest hn hg hb t n 0 (by omega) rfl
theorem l_repetition {w X : Int} (hw : kx_in w) (W : tw_W 999 s) (t : ∀ μ', F54 μ μ' → Q (some (kI X)) (kg L) μ') : ∀ (r j : Nat) (μ1 : kx_M) (x3 : Option kx_V), j + r = 60 → q_ro (q_mk s) w r (j + 1) = X → (∀ k : Nat, k ≤ j → μ1 54 k = q_mk s k) → TR μ1 45 (tw_go s j) → F54 μ μ1 → kx_wx (ke (d + 3)) kt_Fore_repetition Q 23 [some (kR 44), some (kI w), some (kI (j + 1 : Nat)), x3] [] (kg L) μ1 := by
  obtain ⟨_, _⟩ := hw
  intro r
  induction r with
  | zero =>
    intro j μ1 x3 hj q hm T F
    rw [← q] at t
    simp only [q_ro] at t
    refine ks_iload_n rfl rfl ?_
    refine ks_bipush rfl ?_
    -- at 26: if gt -> 74 else 29 st ['60', None]
    refine ks_icmp_gt rfl ⟨by omega, by omega⟩ ⟨by omega, by omega⟩ (fun c => ?_) (fun c => absurd c (by omega))
    refine ks_ldc rfl ?_
    refine ks_ireturn rfl ?_
    -- at 76: ret  st ['-1000000']
    exact t _ F
  | succ r ih =>
    intro j μ1 x3 hj q hm T F
    simp only [q_ro] at q
    refine ks_iload_n rfl rfl ?_
    refine ks_bipush rfl ?_
    -- at 26: if gt -> 74 else 29 st ['60', None]
    refine ks_icmp_gt rfl ⟨by omega, by omega⟩ ⟨by omega, by omega⟩ (fun c => absurd c (by omega)) (fun c => ?_)
    refine ks_aload_n rfl rfl ?_
    refine ks_getr (b := 45) rfl rfl rfl rfl (by decide) ?_
    refine ks_callv_1 rfl rfl rfl (Nat.le_of_ble_eq_true rfl) ?_
    -- at 33: call Town_takeStep st []
    refine r_takeStep (B := 2000) (by omega) (kg_T45 L) T (tw_W_go60 W (by omega)) (fun μ2 T2 F2 => ?_)
    show kx_wx _ _ _ _ _ (_ :: _) _ _
    refine ks_pop rfl ?_
    refine ks_aload_n rfl rfl ?_
    refine ks_getr (b := 54) rfl rfl rfl rfl (by decide) ?_
    refine ks_iload_n rfl rfl ?_
    refine ks_aload_n rfl rfl ?_
    refine ks_callv_1 rfl rfl rfl (Nat.le_of_ble_eq_true rfl) ?_
    -- at 43: call Fore_markOfTrial st [None, '54']
    have T2' : TR μ2 45 (tw_go s (j + 1)) := T2
    refine r_markOfTrial T2' (tw_W_go60 W (n := j + 1) (by omega)) ?_
    have e2 : tw_mk (tw_go s (j + 1)) (tw_go s (j + 1) 2).toNat = q_mk s (j + 1) := by unfold q_mk; rw [(tw_go_12 W (j + 1)).2]
    rw [e2]
    show kx_wx _ _ _ _ _ (_ :: _) _ _
    refine ks_lastore rfl rfl (by omega) (by omega) ?_
    refine ks_aload_n rfl rfl ?_
    refine ks_iload_n rfl rfl ?_
    refine ks_callv_2 rfl rfl rfl (Nat.le_of_ble_eq_true rfl) ?_
    -- at 49: call Fore_earliestWithMarkOf st []
    have hm2 : ∀ k : Nat, k ≤ j + 1 → kx_up μ2 54 ((j + 1 : Nat) : Int) (q_mk s (j + 1)) 54 k = q_mk s k := by
      intro k hk
      by_cases e : k = j + 1
      · subst e; rw [kx_up_self]
      · rw [kx_up_oth (by omega), F2 54 (by omega)]; exact hm k (by omega)
    have T3 : TR (kx_up μ2 54 ((j + 1 : Nat) : Int) (q_mk s (j + 1))) 45 (tw_go s (j + 1)) := TR_fr T2' (fun c c0 c1 => kx_up_row (by omega))
    have F3 : F54 μ (kx_up μ2 54 ((j + 1 : Nat) : Int) (q_mk s (j + 1))) := fun c hc => by rw [kx_up_row (by omega), F2 c (by omega), F c hc]
    generalize kx_up μ2 54 ((j + 1 : Nat) : Int) (q_mk s (j + 1)) = μ3 at *
    have le := q_ea_le (g := q_mk s) (n := j + 1) (j + 1) 0 (by omega)
    refine r_earliest (n := j + 1) (by omega) hm2 (q_mk_in W) ?_
    show kx_wx _ _ _ _ _ (_ :: _) _ _
    refine ks_istore_n_3 rfl rfl ?_
    refine ks_iload_n rfl rfl ?_
    refine ks_iload_n rfl rfl ?_
    -- at 55: if ge -> 68 else 58 st [None, None]
    generalize q_ea (q_mk s) (j + 1) (j + 1) 0 = e at *
    refine ks_icmp_ge rfl ⟨by omega, by omega⟩ ⟨by omega, by omega⟩ (fun c2 => ?_) (fun c2 => ?_)
    · rw [if_pos (by omega)] at q
      refine ks_iload_n rfl rfl ?_
      -- at 59: if ne -> 66 else 62 st [None]
      refine ks_if_ne rfl ⟨by omega, by omega⟩ (fun c3 => ?_) (fun c3 => ?_)
      · rw [if_pos c3] at q
        rw [← q] at t
        refine ks_iload_n rfl rfl ?_
        refine ks_goto rfl ?_
        refine ks_ireturn rfl ?_
        -- at 67: ret  st [None]
        exact t _ F3
      · rw [if_neg c3] at q
        rw [← q] at t
        refine ks_iload_n rfl rfl ?_
        refine ks_ireturn rfl ?_
        -- at 67: ret  st [None]
        exact t _ F3
    · rw [if_neg (by omega)] at q
      refine ks_iinc_2 rfl rfl ?_
      refine ks_goto rfl ?_
      -- at 23: stop  st []
      exact ih (j + 1) μ3 _ (by omega) q hm2 T3 F3
theorem r_repetition {w : Int} (hw : kx_in w) (W : tw_W 999 s) (T : TR μ 30 s) (t : ∀ μ', F54 μ μ' → Q (some (kI (q_ro (q_mk s) w 60 1))) (kg L) μ') : kx_cx (ke (d + 5)) 14 [kR 44, kI w] (kg L) μ Q := by
  refine ke_start (tb := kt_Fore_repetition) (ls := [some (kR 44), some (kI w), none, none]) rfl rfl ?_
  refine ks_aload_n rfl rfl ?_
  refine ks_getr (b := 45) rfl rfl rfl rfl (by decide) ?_
  refine ks_aload_n rfl rfl ?_
  refine ks_getr (b := 30) rfl rfl rfl rfl (by decide) ?_
  refine ks_callv_2 rfl rfl rfl (Nat.le_of_ble_eq_true rfl) ?_
  -- at 8: call Town_becomeLike st []
  refine r_try T W (fun μ1 T1 F1 => ?_)
  show kx_wx _ _ _ _ _ _ _ _
  refine ks_aload_n rfl rfl ?_
  refine ks_getr (b := 54) rfl rfl rfl rfl (by decide) ?_
  refine ks_iconst rfl ?_
  refine ks_aload_n rfl rfl ?_
  refine ks_callv_1 rfl rfl rfl (Nat.le_of_ble_eq_true rfl) ?_
  -- at 17: call Fore_markOfTrial st ['0', '54']
  refine r_markOfTrial T1 W ?_
  show kx_wx _ _ _ _ _ (_ :: _) _ _
  refine ks_lastore rfl rfl (by omega) (by omega) ?_
  refine ks_iconst rfl ?_
  refine ks_istore_n_2 rfl rfl ?_
  -- at 23: stop  st []
  refine l_repetition (μ := μ) hw W t 60 0 _ _ (by omega) rfl (fun k hk => ?_) (TR_fr T1 (fun c c0 c1 => kx_up_row (by omega))) (fun c hc => by rw [kx_up_row (by omega), F1 c (by omega)])
  rw [Nat.le_zero.mp hk]
  exact kx_up_self _ _ _ _
end FQ
end
section
/-! foretold, the reference -/
def AS (μ : kx_M) (s : Int → Int) : Prop := ∀ k, 0 ≤ k → k < 46 → μ 86 k = s k
/-- all but the town, and what is put aside, is as it was -/
def FrI (μ μ' : kx_M) : Prop := ∀ c, c ≠ 81 → c ≠ 86 → c ≠ 87 → μ' c = μ c
def FrQ (μ μ' : kx_M) : Prop := ∀ c, c ≠ 86 → c ≠ 87 → μ' c = μ c
def Fr81 (μ μ' : kx_M) : Prop := ∀ c, c ≠ 81 → μ' c = μ c
theorem AS_fr {μ μ' : kx_M} {s : Int → Int} (A : AS μ s) (F : Fr81 μ μ') : AS μ' s := by
  intro k k0 k1
  rw [F 86 (by omega)]; exact A k k0 k1
theorem FrI_81 {μ μ1 μ2 : kx_M} (F : FrI μ μ1) (k : Fr81 μ1 μ2) : FrI μ μ2 := fun c a b e => by rw [k c a]; exact F c a b e
theorem Fr81_row (μ : kx_M) (f : Int → Int) : Fr81 μ (kx_row μ 81 f) := fun c hc => kx_row_ne hc
theorem Fr81_tr {μ μ1 μ2 : kx_M} (F : Fr81 μ μ1) (k : Fr81 μ1 μ2) : Fr81 μ μ2 := fun c a => by rw [k c a]; exact F c a
theorem FrQ_of {μ μ' : kx_M} {s : Int → Int} (F : FrI μ μ') (h : μ 81 = s) (h' : μ' 81 = s) : FrQ μ μ' := by
  intro c a b
  by_cases e : c = 81
  · subst e; rw [h, h']
  · exact F c e a b
section MF
variable {d L : Nat} {G : kx_G} {μ : kx_M} {Q : Option kx_V → kx_G → kx_M → Prop} {s s0 : Int → Int} {z v : Int}
theorem l_putAside (t : ∀ μ', (∀ k, 0 ≤ k → k < 46 → μ' 86 k = μ 81 k) → (∀ c, c ≠ 86 → μ' c = μ c) → Q none (kg L) μ') : ∀ (r j : Nat) (μ1 : kx_M), j + r = 46 → (∀ k : Int, 0 ≤ k → k < j → μ1 86 k = μ 81 k) → (∀ c, c ≠ 86 → μ1 c = μ c) → kx_wx (ke d) kt_M_putAside Q 2 [some (kR 77), some (kI j)] [] (kg L) μ1 := by
  intro r
  induction r with
  | zero =>
    intro j μ1 hj h1 h2
    rw [Nat.add_zero] at hj
    subst hj
    refine ks_iload_n rfl rfl ?_
    refine ks_bipush rfl ?_
    -- at 5: if ge -> 26 else 8 st ['46', None]
    refine ks_icmp_ge rfl ⟨by omega, by omega⟩ ⟨by omega, by omega⟩ (fun c => absurd c (by omega)) (fun c => ?_)
    refine ks_return rfl ?_
    -- at 26: ret  st []
    exact t _ h1 h2
  | succ r ih =>
    intro j μ1 hj h1 h2
    refine ks_iload_n rfl rfl ?_
    refine ks_bipush rfl ?_
    -- at 5: if ge -> 26 else 8 st ['46', None]
    refine ks_icmp_ge rfl ⟨by omega, by omega⟩ ⟨by omega, by omega⟩ (fun c => ?_) (fun c => absurd c (by omega))
    refine ks_aload_n rfl rfl ?_
    refine ks_getr (b := 86) rfl rfl rfl rfl (by decide) ?_
    refine ks_iload_n rfl rfl ?_
    refine ks_aload_n rfl rfl ?_
    refine ks_getr (b := 81) rfl rfl rfl rfl (by decide) ?_
    refine ks_iload_n rfl rfl ?_
    refine ks_iaload rfl rfl (by omega) (by omega) (by (try simp only [kx_up_at, kx_row_at, up1_at, Nat.reduceEqDiff, Int.reduceEq, Int.reduceNeg, and_true, true_and, and_false, false_and, and_self, reduceIte, Nat.add_left_cancel_iff, Nat.add_eq_left, Nat.left_eq_add, Nat.reduceAdd, Int.add_left_inj, Int.add_right_inj]); rfl) ?_
    refine ks_iastore rfl rfl (by omega) (by omega) ?_
    refine ks_iinc_1 rfl rfl ?_
    refine ks_goto rfl ?_
    -- at 2: stop  st []
    refine ih (j + 1) _ (by omega) (fun k k0 k1 => ?_) (fun c hc => by rw [kx_up_row hc]; exact h2 c hc)
    by_cases e : k = j
    · subst e; rw [kx_up_self, h2 81 (by omega)]
    · rw [kx_up_oth e]; exact h1 k k0 (by omega)
theorem r_putAside (hs : μ 81 = s) (t : ∀ μ', AS μ' s → μ' 81 = s → FrI μ μ' → Q none (kg L) μ') : kx_cx (ke (d + 1)) 153 [kR 77] (kg L) μ Q := by
  refine ke_start (tb := kt_M_putAside) (ls := [some (kR 77), none]) rfl rfl ?_
  refine ks_iconst rfl ?_
  refine ks_istore_n_1 rfl rfl ?_
  -- at 2: stop  st []
  exact l_putAside (μ := μ) (fun μ1 h1 h2 => t μ1 (fun k a b => by rw [h1 k a b, hs]) (by rw [h2 81 (by omega)]; exact hs) (fun c a b e => h2 c b)) 46 0 μ (by omega) (fun k a b => absurd b (by omega)) (fun _ _ => rfl)
theorem l_takeBack (t : ∀ μ', (∀ k, 0 ≤ k → k < 46 → μ' 81 k = μ 86 k) → (∀ k, k < 0 ∨ 46 ≤ k → μ' 81 k = μ 81 k) → (∀ c, c ≠ 81 → μ' c = μ c) → Q none (kg L) μ') : ∀ (r j : Nat) (μ1 : kx_M), j + r = 46 → (∀ k : Int, 0 ≤ k → k < j → μ1 81 k = μ 86 k) → (∀ k, k < 0 ∨ 46 ≤ k → μ1 81 k = μ 81 k) → (∀ c, c ≠ 81 → μ1 c = μ c) → kx_wx (ke d) kt_M_takeBack Q 2 [some (kR 77), some (kI j)] [] (kg L) μ1 := by
  intro r
  induction r with
  | zero =>
    intro j μ1 hj h1 h3 h2
    rw [Nat.add_zero] at hj
    subst hj
    refine ks_iload_n rfl rfl ?_
    refine ks_bipush rfl ?_
    -- at 5: if ge -> 26 else 8 st ['46', None]
    refine ks_icmp_ge rfl ⟨by omega, by omega⟩ ⟨by omega, by omega⟩ (fun c => absurd c (by omega)) (fun c => ?_)
    refine ks_return rfl ?_
    -- at 26: ret  st []
    exact t _ h1 h3 h2
  | succ r ih =>
    intro j μ1 hj h1 h3 h2
    refine ks_iload_n rfl rfl ?_
    refine ks_bipush rfl ?_
    -- at 5: if ge -> 26 else 8 st ['46', None]
    refine ks_icmp_ge rfl ⟨by omega, by omega⟩ ⟨by omega, by omega⟩ (fun c => ?_) (fun c => absurd c (by omega))
    refine ks_aload_n rfl rfl ?_
    refine ks_getr (b := 81) rfl rfl rfl rfl (by decide) ?_
    refine ks_iload_n rfl rfl ?_
    refine ks_aload_n rfl rfl ?_
    refine ks_getr (b := 86) rfl rfl rfl rfl (by decide) ?_
    refine ks_iload_n rfl rfl ?_
    refine ks_iaload rfl rfl (by omega) (by omega) (by (try simp only [kx_up_at, kx_row_at, up1_at, Nat.reduceEqDiff, Int.reduceEq, Int.reduceNeg, and_true, true_and, and_false, false_and, and_self, reduceIte, Nat.add_left_cancel_iff, Nat.add_eq_left, Nat.left_eq_add, Nat.reduceAdd, Int.add_left_inj, Int.add_right_inj]); rfl) ?_
    refine ks_iastore rfl rfl (by omega) (by omega) ?_
    refine ks_iinc_1 rfl rfl ?_
    refine ks_goto rfl ?_
    -- at 2: stop  st []
    refine ih (j + 1) _ (by omega) (fun k k0 k1 => ?_) (fun k hk => by rw [kx_up_oth (by omega)]; exact h3 k hk) (fun c hc => by rw [kx_up_row hc]; exact h2 c hc)
    by_cases e : k = j
    · subst e; rw [kx_up_self, h2 86 (by omega)]
    · rw [kx_up_oth e]; exact h1 k k0 (by omega)
theorem r_takeBack (A : AS μ s0) (Z0 : tw_Z s0) (Z : tw_Z (μ 81)) (t : ∀ μ', μ' 81 = s0 → Fr81 μ μ' → Q none (kg L) μ') : kx_cx (ke (d + 1)) 154 [kR 77] (kg L) μ Q := by
  refine ke_start (tb := kt_M_takeBack) (ls := [some (kR 77), none]) rfl rfl ?_
  refine ks_iconst rfl ?_
  refine ks_istore_n_1 rfl rfl ?_
  -- at 2: stop  st []
  refine l_takeBack (μ := μ) (fun μ1 h1 h3 h2 => t μ1 ?_ h2) 46 0 μ (by omega) (fun k a b => absurd b (by omega)) (fun _ _ => rfl) (fun _ _ => rfl)
  funext k
  by_cases e : 0 ≤ k ∧ k < 46
  · rw [h1 k e.1 e.2, A k e.1 e.2]
  · rw [h3 k (by omega), Z k (by omega), Z0 k (by omega)]
theorem l_goOn {n : Nat} (hn : n ≤ 60) (W : tw_W 999 s) (t : ∀ μ', μ' 81 = tw_go s n → Fr81 μ μ' → Q none (kg L) μ') : ∀ (r j : Nat) (μ1 : kx_M), j + r = n → μ1 81 = tw_go s j → Fr81 μ μ1 → kx_wx (ke (d + 3)) kt_M_goOn Q 2 [some (kR 77), some (kI n), some (kI j)] [] (kg L) μ1 := by
  intro r
  induction r with
  | zero =>
    intro j μ1 hj e F
    rw [Nat.add_zero] at hj
    subst hj
    refine ks_iload_n rfl rfl ?_
    refine ks_iload_n rfl rfl ?_
    -- at 4: if ge -> 17 else 7 st [None, None]
    refine ks_icmp_ge rfl ⟨by omega, by omega⟩ ⟨by omega, by omega⟩ (fun c => absurd c (by omega)) (fun c => ?_)
    refine ks_return rfl ?_
    -- at 17: ret  st []
    exact t _ e F
  | succ r ih =>
    intro j μ1 hj e F
    refine ks_iload_n rfl rfl ?_
    refine ks_iload_n rfl rfl ?_
    -- at 4: if ge -> 17 else 7 st [None, None]
    refine ks_icmp_ge rfl ⟨by omega, by omega⟩ ⟨by omega, by omega⟩ (fun c => ?_) (fun c => absurd c (by omega))
    refine ks_aload_n rfl rfl ?_
    refine ks_callv_1 rfl rfl rfl (Nat.le_of_ble_eq_true rfl) ?_
    -- at 8: call M_oneStep st []
    refine r_oneStep (B := 2000) (by omega) e (tw_W_go60 W (by omega)) ?_
    show kx_wx _ _ _ _ _ _ _ _
    refine ks_iinc_2 rfl rfl ?_
    refine ks_goto rfl ?_
    -- at 2: stop  st []
    exact ih (j + 1) _ (by omega) (kx_row_self _ _ _) (Fr81_tr F (Fr81_row _ _))
theorem r_goOn {n : Nat} (hn : n ≤ 60) (W : tw_W 999 s) (hs : μ 81 = s) (t : ∀ μ', μ' 81 = tw_go s n → Fr81 μ μ' → Q none (kg L) μ') : kx_cx (ke (d + 4)) 155 [kR 77, kI n] (kg L) μ Q := by
  refine ke_start (tb := kt_M_goOn) (ls := [some (kR 77), some (kI n), none]) rfl rfl ?_
  refine ks_iconst rfl ?_
  refine ks_istore_n_2 rfl rfl ?_
  -- at 2: stop  st []
  exact l_goOn (μ := μ) hn W t n 0 μ (by omega) hs (fun _ _ => rfl)
theorem r_Mwho (hv : kx_in v) (hs : μ 81 = s) (N : TN s) (I : IT μ s) (t0 : s 1 = 0 → Q (some (kI (-1000002))) (kg L) μ) (t1 : 1 ≤ s 1 → ¬ (0 ≤ v ∧ v ≤ 60) → Q (some (kI (-1000001))) (kg L) μ) (t2 : 1 ≤ s 1 → 0 ≤ v → v ≤ 60 → ∀ μ', FrQ μ μ' → Q (some (kI (tw_go s v.toNat 4))) (kg L) μ') : kx_cx (ke (d + 5)) 157 [kR 77, kI v] (kg L) μ Q := by
  refine ke_start (tb := kt_M_who) (ls := [some (kR 77), some (kI v), none]) rfl rfl ?_
  obtain ⟨i0, i1, i2, i3⟩ := IT_in I
  refine ks_aload_n rfl rfl ?_
  refine ks_geti rfl rfl rfl rfl (by (try simp only [kx_up_at, kx_row_at, up1_at, Nat.reduceEqDiff, Int.reduceEq, Int.reduceNeg, and_true, true_and, and_false, false_and, and_self, reduceIte, Nat.add_left_cancel_iff, Nat.add_eq_left, Nat.left_eq_add, Nat.reduceAdd, Int.add_left_inj, Int.add_right_inj]); rfl) ?_
  -- at 4: if ne -> 10 else 7 st [None]
  refine ks_if_ne rfl ⟨by omega, by omega⟩ (fun c => ?_) (fun c => ?_)
  · refine ks_ldc rfl ?_
    refine ks_ireturn rfl ?_
    -- at 9: ret  st ['-1000002']
    exact t0 (by omega)
  · refine ks_iload_n rfl rfl ?_
    refine ks_calls_1 rfl (Nat.le_of_ble_eq_true rfl) ?_
    -- at 11: call M_isFar st []
    refine r_isFar hv (fun c2 => ?_) (fun c2 => ?_)
    · obtain ⟨W, Z⟩ := TN_W N (by omega)
      have ev : v = (v.toNat : Int) := by omega
      generalize v.toNat = n at *
      subst ev
      show kx_wx _ _ _ _ _ (_ :: _) _ _
      refine ks_if_ne_1 rfl ?_
      refine ks_aload_n rfl rfl ?_
      refine ks_callv_1 rfl rfl rfl (Nat.le_of_ble_eq_true rfl) ?_
      -- at 21: call M_putAside st []
      refine r_putAside hs (fun μ1 A1 e1 F1 => ?_)
      show kx_wx _ _ _ _ _ _ _ _
      refine ks_aload_n rfl rfl ?_
      refine ks_iload_n rfl rfl ?_
      refine ks_callv_2 rfl rfl rfl (Nat.le_of_ble_eq_true rfl) ?_
      -- at 26: call M_goOn st []
      refine r_goOn (by omega) W e1 (fun μ2 e2 F2 => ?_)
      show kx_wx _ _ _ _ _ _ _ _
      refine ks_aload_n rfl rfl ?_
      refine ks_getr (b := 81) rfl rfl rfl rfl (by decide) ?_
      refine ks_iconst rfl ?_
      refine ks_iaload rfl rfl (by omega) (by omega) (by (try simp only [kx_up_at, kx_row_at, up1_at, Nat.reduceEqDiff, Int.reduceEq, Int.reduceNeg, and_true, true_and, and_false, false_and, and_self, reduceIte, Nat.add_left_cancel_iff, Nat.add_eq_left, Nat.left_eq_add, Nat.reduceAdd, Int.add_left_inj, Int.add_right_inj, e2]); rfl) ?_
      refine ks_istore_n_2 rfl rfl ?_
      refine ks_aload_n rfl rfl ?_
      refine ks_callv_1 rfl rfl rfl (Nat.le_of_ble_eq_true rfl) ?_
      -- at 37: call M_takeBack st []
      refine r_takeBack (AS_fr A1 F2) Z (by rw [e2]; exact tw_Z_go W Z n) (fun μ3 e3 F3 => ?_)
      show kx_wx _ _ _ _ _ _ _ _
      refine ks_iload_n rfl rfl ?_
      refine ks_ireturn rfl ?_
      -- at 41: ret  st [None]
      exact t2 (by omega) (by omega) (by omega) _ (FrQ_of (FrI_81 F1 (Fr81_tr F2 F3)) hs e3)
    · show kx_wx _ _ _ _ _ (_ :: _) _ _
      refine ks_if_ne_0 rfl ?_
      refine ks_ldc rfl ?_
      refine ks_ireturn rfl ?_
      -- at 19: ret  st ['-1000001']
      exact t1 (by omega) c2
theorem r_Mby {h : Int} (hv : kx_in v) (hh : kx_in h) (hs : μ 81 = s) (N : TN s) (t1 : ¬ ((0 ≤ h ∧ h < s 1) ∧ (0 ≤ v ∧ v ≤ 60)) → Q (some (kI (-1000001))) (kg L) μ) (t2 : 0 ≤ h → h < s 1 → 0 ≤ v → v ≤ 60 → ∀ μ', FrQ μ μ' → Q (some (kI (tw_go s v.toNat (24 + h) - s (24 + h)))) (kg L) μ') : kx_cx (ke (d + 5)) 165 [kR 77, kI h, kI v] (kg L) μ Q := by
  refine ke_start (tb := kt_M_by) (ls := [some (kR 77), some (kI h), some (kI v), none, none]) rfl rfl ?_
  obtain ⟨n1, n2, n3⟩ := TN_in N
  refine ks_aload_n rfl rfl ?_
  refine ks_iload_n rfl rfl ?_
  refine ks_callv_2 rfl rfl rfl (Nat.le_of_ble_eq_true rfl) ?_
  -- at 2: call M_isHead st []
  refine r_isHead hh (by rw [hs]; exact ⟨by omega, by omega⟩) (fun c => ?_) (fun c => ?_)
  · rw [hs] at c
    show kx_wx _ _ _ _ _ (_ :: _) _ _
    refine ks_if_eq_1 rfl ?_
    refine ks_iload_n rfl rfl ?_
    refine ks_calls_1 rfl (Nat.le_of_ble_eq_true rfl) ?_
    -- at 9: call M_isFar st []
    refine r_isFar hv (fun c2 => ?_) (fun c2 => ?_)
    · obtain ⟨W, Z⟩ := TN_W N (by omega)
      have ev : v = (v.toNat : Int) := by omega
      generalize v.toNat = n at *
      subst ev
      show kx_wx _ _ _ _ _ (_ :: _) _ _
      refine ks_if_ne_1 rfl ?_
      refine ks_aload_n rfl rfl ?_
      refine ks_callv_1 rfl rfl rfl (Nat.le_of_ble_eq_true rfl) ?_
      -- at 19: call M_putAside st []
      refine r_putAside hs (fun μ1 A1 e1 F1 => ?_)
      show kx_wx _ _ _ _ _ _ _ _
      refine ks_aload_n rfl rfl ?_
      refine ks_getr (b := 81) rfl rfl rfl rfl (by decide) ?_
      refine ks_bipush rfl ?_
      refine ks_iload_n rfl rfl ?_
      refine ks_iadd rfl ?_
      refine ks_iaload rfl rfl (by omega) (by omega) (by (try simp only [kx_up_at, kx_row_at, up1_at, Nat.reduceEqDiff, Int.reduceEq, Int.reduceNeg, and_true, true_and, and_false, false_and, and_self, reduceIte, Nat.add_left_cancel_iff, Nat.add_eq_left, Nat.left_eq_add, Nat.reduceAdd, Int.add_left_inj, Int.add_right_inj, e1]); rfl) ?_
      refine ks_istore_n_3 rfl rfl ?_
      refine ks_aload_n rfl rfl ?_
      refine ks_iload_n rfl rfl ?_
      refine ks_callv_2 rfl rfl rfl (Nat.le_of_ble_eq_true rfl) ?_
      -- at 34: call M_goOn st []
      refine r_goOn (by omega) W e1 (fun μ2 e2 F2 => ?_)
      show kx_wx _ _ _ _ _ _ _ _
      refine ks_aload_n rfl rfl ?_
      refine ks_getr (b := 81) rfl rfl rfl rfl (by decide) ?_
      refine ks_bipush rfl ?_
      refine ks_iload_n rfl rfl ?_
      refine ks_iadd rfl ?_
      refine ks_iaload rfl rfl (by omega) (by omega) (by (try simp only [kx_up_at, kx_row_at, up1_at, Nat.reduceEqDiff, Int.reduceEq, Int.reduceNeg, and_true, true_and, and_false, false_and, and_self, reduceIte, Nat.add_left_cancel_iff, Nat.add_eq_left, Nat.left_eq_add, Nat.reduceAdd, Int.add_left_inj, Int.add_right_inj, e2]); rfl) ?_
      refine ks_iload_n rfl rfl ?_
      refine ks_isub rfl ?_
      refine ks_istore_4 rfl rfl ?_
      refine ks_aload_n rfl rfl ?_
      refine ks_callv_1 rfl rfl rfl (Nat.le_of_ble_eq_true rfl) ?_
      -- at 51: call M_takeBack st []
      refine r_takeBack (AS_fr A1 F2) Z (by rw [e2]; exact tw_Z_go W Z n) (fun μ3 e3 F3 => ?_)
      show kx_wx _ _ _ _ _ _ _ _
      refine ks_iload rfl rfl ?_
      refine ks_ireturn rfl ?_
      -- at 56: ret  st [None]
      exact t2 c.1 c.2 (by omega) (by omega) _ (FrQ_of (FrI_81 F1 (Fr81_tr F2 F3)) hs e3)
    · show kx_wx _ _ _ _ _ (_ :: _) _ _
      refine ks_if_ne_0 rfl ?_
      refine ks_ldc rfl ?_
      refine ks_ireturn rfl ?_
      -- at 17: ret  st ['-1000001']
      exact t1 (fun q => c2 q.2)
  · rw [hs] at c
    show kx_wx _ _ _ _ _ (_ :: _) _ _
    refine ks_if_eq_0 rfl ?_
    refine ks_ldc rfl ?_
    refine ks_ireturn rfl ?_
    -- at 17: ret  st ['-1000001']
    exact t1 (fun q => c q.1)
theorem l_Mgets {X : Int} (v0 : 0 ≤ v) (v1 : v < s 1) (hs : μ 81 = s) (W : tw_W 999 s) (Z : tw_Z s) (t : ∀ μ', FrQ μ μ' → Q (some (kI X)) (kg L) μ') : ∀ (r j : Nat) (μ1 : kx_M), j + r = 60 → q_gets s v (r + 1) j = X → μ1 81 = tw_go s j → AS μ1 s → FrI μ μ1 → kx_wx (ke (d + 4)) kt_M_gets Q 17 [some (kR 77), some (kI v), some (kI j), none] [] (kg L) μ1 := by
  have w1 := W.1
  have fin : ∀ (j : Nat) (μ1 : kx_M), j ≤ 60 → (tw_go s j 4 = v → X = j) → (tw_go s j 4 ≠ v → X = -1000000) → μ1 81 = tw_go s j → AS μ1 s → FrI μ μ1 → kx_wx (ke (d + 4)) kt_M_gets Q 43 [some (kR 77), some (kI v), some (kI j), none] [] (kg L) μ1 := by
    intro j μ1 hj x1 x0 e A F
    have Wj := tw_W_go60 W (n := j) (by omega)
    have w3 := Wj.2.2.1
    have w1' := Wj.1
    refine ks_aload_n rfl rfl ?_
    refine ks_getr (b := 81) rfl rfl rfl rfl (by decide) ?_
    refine ks_iconst rfl ?_
    refine ks_iaload rfl rfl (by omega) (by omega) (by (try simp only [kx_up_at, kx_row_at, up1_at, Nat.reduceEqDiff, Int.reduceEq, Int.reduceNeg, and_true, true_and, and_false, false_and, and_self, reduceIte, Nat.add_left_cancel_iff, Nat.add_eq_left, Nat.left_eq_add, Nat.reduceAdd, Int.add_left_inj, Int.add_right_inj, e]); rfl) ?_
    refine ks_iload_n rfl rfl ?_
    -- at 50: if ne -> 57 else 53 st [None, None]
    refine ks_icmp_ne rfl ⟨by omega, by omega⟩ ⟨by omega, by omega⟩ (fun c => ?_) (fun c => ?_)
    · refine ks_iconst rfl ?_
      refine ks_goto rfl ?_
      refine ks_istore_n_3 rfl rfl ?_
      refine ks_aload_n rfl rfl ?_
      refine ks_callv_1 rfl rfl rfl (Nat.le_of_ble_eq_true rfl) ?_
      -- at 60: call M_takeBack st []
      refine r_takeBack A Z (by rw [e]; exact tw_Z_go W Z j) (fun μ3 e3 F3 => ?_)
      show kx_wx _ _ _ _ _ _ _ _
      refine ks_iload_n rfl rfl ?_
      refine ks_if_eq_1 rfl ?_
      refine ks_iload_n rfl rfl ?_
      refine ks_goto rfl ?_
      refine ks_ireturn rfl ?_
      -- at 73: ret  st [None]
      rw [x1 c] at t
      exact t _ (FrQ_of (FrI_81 F F3) hs e3)
    · refine ks_iconst rfl ?_
      refine ks_istore_n_3 rfl rfl ?_
      refine ks_aload_n rfl rfl ?_
      refine ks_callv_1 rfl rfl rfl (Nat.le_of_ble_eq_true rfl) ?_
      -- at 60: call M_takeBack st []
      refine r_takeBack A Z (by rw [e]; exact tw_Z_go W Z j) (fun μ3 e3 F3 => ?_)
      show kx_wx _ _ _ _ _ _ _ _
      refine ks_iload_n rfl rfl ?_
      refine ks_if_eq_0 rfl ?_
      refine ks_ldc rfl ?_
      refine ks_ireturn rfl ?_
      -- at 73: ret  st ['-1000000']
      rw [x0 c] at t
      exact t _ (FrQ_of (FrI_81 F F3) hs e3)
  intro r
  induction r with
  | zero =>
    intro j μ1 hj q e A F
    simp only [q_gets] at q
    refine ks_iload_n rfl rfl ?_
    refine ks_bipush rfl ?_
    -- at 20: if ge -> 43 else 23 st ['60', None]
    refine ks_icmp_ge rfl ⟨by omega, by omega⟩ ⟨by omega, by omega⟩ (fun c => absurd c (by omega)) (fun c => ?_)
    exact fin j μ1 (by omega) (fun h => by rw [← q, if_pos h]) (fun h => by rw [← q, if_neg h]) e A F
  | succ r ih =>
    intro j μ1 hj q e A F
    have Wj := tw_W_go60 W (n := j) (by omega)
    have w3 := Wj.2.2.1
    have w1' := Wj.1
    rw [q_gets] at q
    refine ks_iload_n rfl rfl ?_
    refine ks_bipush rfl ?_
    -- at 20: if ge -> 43 else 23 st ['60', None]
    refine ks_icmp_ge rfl ⟨by omega, by omega⟩ ⟨by omega, by omega⟩ (fun c => ?_) (fun c => absurd c (by omega))
    refine ks_aload_n rfl rfl ?_
    refine ks_getr (b := 81) rfl rfl rfl rfl (by decide) ?_
    refine ks_iconst rfl ?_
    refine ks_iaload rfl rfl (by omega) (by omega) (by (try simp only [kx_up_at, kx_row_at, up1_at, Nat.reduceEqDiff, Int.reduceEq, Int.reduceNeg, and_true, true_and, and_false, false_and, and_self, reduceIte, Nat.add_left_cancel_iff, Nat.add_eq_left, Nat.left_eq_add, Nat.reduceAdd, Int.add_left_inj, Int.add_right_inj, e]); rfl) ?_
    refine ks_iload_n rfl rfl ?_
    -- at 30: if eq -> 43 else 33 st [None, None]
    refine ks_icmp_eq rfl ⟨by omega, by omega⟩ ⟨by omega, by omega⟩ (fun c2 => ?_) (fun c2 => ?_)
    · rw [if_pos c2] at q
      exact fin j μ1 (by omega) (fun h => q.symm) (fun h => absurd c2 h) e A F
      -- at 43: stop
    · rw [if_neg c2] at q
      refine ks_aload_n rfl rfl ?_
      refine ks_callv_1 rfl rfl rfl (Nat.le_of_ble_eq_true rfl) ?_
      -- at 34: call M_oneStep st []
      refine r_oneStep (B := 2000) (by omega) e Wj ?_
      show kx_wx _ _ _ _ _ _ _ _
      refine ks_iinc_2 rfl rfl ?_
      refine ks_goto rfl ?_
      -- at 17: stop  st []
      exact ih (j + 1) _ (by omega) q (kx_row_self _ _ _) (AS_fr A (Fr81_row _ _)) (FrI_81 F (Fr81_row _ _))
theorem r_Mgets (hv : kx_in v) (hs : μ 81 = s) (N : TN s) (t1 : ¬ (0 ≤ v ∧ v < s 1) → Q (some (kI (-1000001))) (kg L) μ) (t2 : 0 ≤ v → v < s 1 → ∀ μ', FrQ μ μ' → Q (some (kI (q_gets s v 61 0))) (kg L) μ') : kx_cx (ke (d + 5)) 158 [kR 77, kI v] (kg L) μ Q := by
  refine ke_start (tb := kt_M_gets) (ls := [some (kR 77), some (kI v), none, none]) rfl rfl ?_
  obtain ⟨n1, n2, n3⟩ := TN_in N
  refine ks_aload_n rfl rfl ?_
  refine ks_iload_n rfl rfl ?_
  refine ks_callv_2 rfl rfl rfl (Nat.le_of_ble_eq_true rfl) ?_
  -- at 2: call M_isHead st []
  refine r_isHead hv (by rw [hs]; exact ⟨by omega, by omega⟩) (fun c => ?_) (fun c => ?_)
  · rw [hs] at c
    obtain ⟨W, Z⟩ := TN_W N (by omega)
    show kx_wx _ _ _ _ _ (_ :: _) _ _
    refine ks_if_ne_1 rfl ?_
    refine ks_aload_n rfl rfl ?_
    refine ks_callv_1 rfl rfl rfl (Nat.le_of_ble_eq_true rfl) ?_
    -- at 12: call M_putAside st []
    refine r_putAside hs (fun μ1 A1 e1 F1 => ?_)
    show kx_wx _ _ _ _ _ _ _ _
    refine ks_iconst rfl ?_
    refine ks_istore_n_2 rfl rfl ?_
    -- at 17: stop  st []
    exact l_Mgets (μ := μ) (X := q_gets s v 61 0) c.1 c.2 hs W Z (t2 c.1 c.2) 60 0 μ1 (by omega) rfl e1 A1 F1
  · rw [hs] at c
    show kx_wx _ _ _ _ _ (_ :: _) _ _
    refine ks_if_ne_0 rfl ?_
    refine ks_ldc rfl ?_
    refine ks_ireturn rfl ?_
    -- at 10: ret  st ['-1000001']
    exact t1 c
theorem l_Mever {n : Nat} (hn : n ≤ 60) (hs : μ 81 = s) (W : tw_W 999 s) (Z : tw_Z s) (t : ∀ μ', FrQ μ μ' → Q (some (kI (q_ever s n))) (kg L) μ') : ∀ (r j : Nat) (μ1 : kx_M), j + r = n → μ1 81 = tw_go s j → AS μ1 s → FrI μ μ1 → kx_wx (ke (d + 4)) kt_M_ever Q 35 [some (kR 77), some (kI n), some (kI (q_ever s j)), some (kI j)] [] (kg L) μ1 := by
  intro r
  induction r with
  | zero =>
    intro j μ1 hj e A F
    rw [Nat.add_zero] at hj
    subst hj
    refine ks_iload_n rfl rfl ?_
    refine ks_iload_n rfl rfl ?_
    -- at 37: if ge -> 61 else 40 st [None, None]
    refine ks_icmp_ge rfl ⟨by omega, by omega⟩ ⟨by omega, by omega⟩ (fun c => absurd c (by omega)) (fun c => ?_)
    refine ks_aload_n rfl rfl ?_
    refine ks_callv_1 rfl rfl rfl (Nat.le_of_ble_eq_true rfl) ?_
    -- at 62: call M_takeBack st []
    refine r_takeBack A Z (by rw [e]; exact tw_Z_go W Z j) (fun μ3 e3 F3 => ?_)
    show kx_wx _ _ _ _ _ _ _ _
    refine ks_iload_n rfl rfl ?_
    refine ks_ireturn rfl ?_
    -- at 66: ret  st [None]
    exact t _ (FrQ_of (FrI_81 F F3) hs e3)
  | succ r ih =>
    intro j μ1 hj e A F
    refine ks_iload_n rfl rfl ?_
    refine ks_iload_n rfl rfl ?_
    -- at 37: if ge -> 61 else 40 st [None, None]
    refine ks_icmp_ge rfl ⟨by omega, by omega⟩ ⟨by omega, by omega⟩ (fun c => ?_) (fun c => absurd c (by omega))
    refine ks_aload_n rfl rfl ?_
    refine ks_callv_1 rfl rfl rfl (Nat.le_of_ble_eq_true rfl) ?_
    -- at 41: call M_oneStep st []
    refine r_oneStep (B := 2000) (by omega) e (tw_W_go60 W (by omega)) ?_
    have W2 := tw_W_go60 W (n := j + 1) (by omega)
    have w3 : 0 ≤ tw_step (tw_go s j) 4 ∧ tw_step (tw_go s j) 4 < tw_step (tw_go s j) 1 := W2.2.2.1
    have w1 : 1 ≤ tw_step (tw_go s j) 1 ∧ tw_step (tw_go s j) 1 ≤ 6 := W2.1
    show kx_wx _ _ _ _ _ _ _ _
    refine ks_iload_n rfl rfl ?_
    refine ks_iconst rfl ?_
    refine ks_aload_n rfl rfl ?_
    refine ks_getr (b := 81) rfl rfl rfl rfl (by decide) ?_
    refine ks_iconst rfl ?_
    refine ks_iaload rfl rfl (by omega) (by omega) (by (try simp only [kx_up_at, kx_row_at, up1_at, Nat.reduceEqDiff, Int.reduceEq, Int.reduceNeg, and_true, true_and, and_false, false_and, and_self, reduceIte, Nat.add_left_cancel_iff, Nat.add_eq_left, Nat.left_eq_add, Nat.reduceAdd, Int.add_left_inj, Int.add_right_inj]); rfl) ?_
    refine ks_ishl rfl (by omega) (by omega) ?_
    refine ks_ior rfl ?_
    refine ks_istore_n_2 rfl rfl ?_
    refine ks_iinc_3 rfl rfl ?_
    refine ks_goto rfl ?_
    -- at 35: stop  st []
    exact ih (j + 1) _ (by omega) (kx_row_self _ _ _) (AS_fr A (Fr81_row _ _)) (FrI_81 F (Fr81_row _ _))
theorem r_Mever (hv : kx_in v) (hs : μ 81 = s) (N : TN s) (I : IT μ s) (t0 : s 1 = 0 → Q (some (kI (-1000002))) (kg L) μ) (t1 : 1 ≤ s 1 → ¬ (0 ≤ v ∧ v ≤ 60) → Q (some (kI (-1000001))) (kg L) μ) (t2 : 1 ≤ s 1 → 0 ≤ v → v ≤ 60 → ∀ μ', FrQ μ μ' → Q (some (kI (q_ever s v.toNat))) (kg L) μ') : kx_cx (ke (d + 5)) 159 [kR 77, kI v] (kg L) μ Q := by
  refine ke_start (tb := kt_M_ever) (ls := [some (kR 77), some (kI v), none, none]) rfl rfl ?_
  obtain ⟨i0, i1, i2, i3⟩ := IT_in I
  refine ks_aload_n rfl rfl ?_
  refine ks_geti rfl rfl rfl rfl (by (try simp only [kx_up_at, kx_row_at, up1_at, Nat.reduceEqDiff, Int.reduceEq, Int.reduceNeg, and_true, true_and, and_false, false_and, and_self, reduceIte, Nat.add_left_cancel_iff, Nat.add_eq_left, Nat.left_eq_add, Nat.reduceAdd, Int.add_left_inj, Int.add_right_inj]); rfl) ?_
  -- at 4: if ne -> 10 else 7 st [None]
  refine ks_if_ne rfl ⟨by omega, by omega⟩ (fun c => ?_) (fun c => ?_)
  · refine ks_ldc rfl ?_
    refine ks_ireturn rfl ?_
    -- at 9: ret  st ['-1000002']
    exact t0 (by omega)
  · refine ks_iload_n rfl rfl ?_
    refine ks_calls_1 rfl (Nat.le_of_ble_eq_true rfl) ?_
    -- at 11: call M_isFar st []
    refine r_isFar hv (fun c2 => ?_) (fun c2 => ?_)
    · obtain ⟨W, Z⟩ := TN_W N (by omega)
      have w3 := W.2.2.1
      have w1 := W.1
      have ev : v = (v.toNat : Int) := by omega
      generalize v.toNat = n at *
      subst ev
      show kx_wx _ _ _ _ _ (_ :: _) _ _
      refine ks_if_ne_1 rfl ?_
      refine ks_aload_n rfl rfl ?_
      refine ks_callv_1 rfl rfl rfl (Nat.le_of_ble_eq_true rfl) ?_
      -- at 21: call M_putAside st []
      refine r_putAside hs (fun μ1 A1 e1 F1 => ?_)
      show kx_wx _ _ _ _ _ _ _ _
      refine ks_iconst rfl ?_
      refine ks_aload_n rfl rfl ?_
      refine ks_getr (b := 81) rfl rfl rfl rfl (by decide) ?_
      refine ks_iconst rfl ?_
      refine ks_iaload rfl rfl (by omega) (by omega) (by (try simp only [kx_up_at, kx_row_at, up1_at, Nat.reduceEqDiff, Int.reduceEq, Int.reduceNeg, and_true, true_and, and_false, false_and, and_self, reduceIte, Nat.add_left_cancel_iff, Nat.add_eq_left, Nat.left_eq_add, Nat.reduceAdd, Int.add_left_inj, Int.add_right_inj, e1]); rfl) ?_
      refine ks_ishl rfl (by omega) (by omega) ?_
      refine ks_istore_n_2 rfl rfl ?_
      refine ks_iconst rfl ?_
      refine ks_istore_n_3 rfl rfl ?_
      -- at 35: stop  st []
      exact l_Mever (μ := μ) (by omega) hs W Z (t2 (by omega) (by omega) (by omega)) n 0 μ1 (by omega) e1 A1 F1
    · show kx_wx _ _ _ _ _ (_ :: _) _ _
      refine ks_if_ne_0 rfl ?_
      refine ks_ldc rfl ?_
      refine ks_ireturn rfl ?_
      -- at 19: ret  st ['-1000001']
      exact t1 (by omega) c2
theorem l_doneIn {o : Int} (o0 : 0 ≤ o) (o1 : o < s 2) (W : tw_W 999 s) (Z : tw_Z s) (Z0 : tw_Z s0) (hz : s (38 + o) = 0) (t1 : ∀ n μ', 1 ≤ n → n ≤ 60 → DN s o n → μ' 81 = s0 → Fr81 μ μ' → Q (some (kI (n : Nat))) (kg L) μ') (t0 : ∀ μ', (∀ i, i ≤ 60 → tw_go s i (38 + o) = 0) → μ' 81 = s0 → Fr81 μ μ' → Q (some (kI (-1000000))) (kg L) μ') : ∀ (r j : Nat) (μ1 : kx_M), j + r = 60 → (∀ i, i < j → tw_go s i (38 + o) = 0) → (tw_go s j (38 + o) = 0 ∨ tw_go s j (38 + o) = 1) → μ1 81 = tw_go s j → AS μ1 s0 → Fr81 μ μ1 → kx_wx (ke (d + 3)) kt_M_doneIn Q 2 [some (kR 77), some (kI o), some (kI j), none] [] (kg L) μ1 := by
  have w2 := W.2.1
  have fin : ∀ (j : Nat) (μ1 : kx_M), j ≤ 60 → (∀ i, i < j → tw_go s i (38 + o) = 0) → (tw_go s j (38 + o) = 0 ∧ j = 60 ∨ tw_go s j (38 + o) = 1) → μ1 81 = tw_go s j → AS μ1 s0 → Fr81 μ μ1 → kx_wx (ke (d + 3)) kt_M_doneIn Q 30 [some (kR 77), some (kI o), some (kI j), none] [] (kg L) μ1 := by
    intro j μ1 hj x1 x0 e A F
    refine ks_aload_n rfl rfl ?_
    refine ks_getr (b := 81) rfl rfl rfl rfl (by decide) ?_
    refine ks_bipush rfl ?_
    refine ks_iload_n rfl rfl ?_
    refine ks_iadd rfl ?_
    refine ks_iaload rfl rfl (by omega) (by omega) (by (try simp only [kx_up_at, kx_row_at, up1_at, Nat.reduceEqDiff, Int.reduceEq, Int.reduceNeg, and_true, true_and, and_false, false_and, and_self, reduceIte, Nat.add_left_cancel_iff, Nat.add_eq_left, Nat.left_eq_add, Nat.reduceAdd, Int.add_left_inj, Int.add_right_inj, e]); rfl) ?_
    refine ks_iconst rfl ?_
    -- at 40: if ne -> 47 else 43 st ['1', None]
    refine ks_icmp_ne rfl ⟨by omega, by omega⟩ ⟨by omega, by omega⟩ (fun c => ?_) (fun c => ?_)
    · refine ks_iconst rfl ?_
      refine ks_goto rfl ?_
      refine ks_istore_n_3 rfl rfl ?_
      refine ks_aload_n rfl rfl ?_
      refine ks_callv_1 rfl rfl rfl (Nat.le_of_ble_eq_true rfl) ?_
      -- at 50: call M_takeBack st []
      refine r_takeBack A Z0 (by rw [e]; exact tw_Z_go W Z j) (fun μ3 e3 F3 => ?_)
      show kx_wx _ _ _ _ _ _ _ _
      refine ks_iload_n rfl rfl ?_
      refine ks_if_eq_1 rfl ?_
      refine ks_iload_n rfl rfl ?_
      refine ks_goto rfl ?_
      refine ks_ireturn rfl ?_
      -- at 63: ret  st [None]
      refine t1 j _ ?_ hj ⟨c, x1⟩ e3 (Fr81_tr F F3)
      by_cases ej : j = 0
      · subst ej
        have : s (38 + o) = 1 := c
        omega
      · omega
    · refine ks_iconst rfl ?_
      refine ks_istore_n_3 rfl rfl ?_
      refine ks_aload_n rfl rfl ?_
      refine ks_callv_1 rfl rfl rfl (Nat.le_of_ble_eq_true rfl) ?_
      -- at 50: call M_takeBack st []
      refine r_takeBack A Z0 (by rw [e]; exact tw_Z_go W Z j) (fun μ3 e3 F3 => ?_)
      show kx_wx _ _ _ _ _ _ _ _
      refine ks_iload_n rfl rfl ?_
      refine ks_if_eq_0 rfl ?_
      refine ks_ldc rfl ?_
      refine ks_ireturn rfl ?_
      -- at 63: ret  st ['-1000000']
      refine t0 _ (fun i hi => ?_) e3 (Fr81_tr F F3)
      by_cases ei : i = j
      · subst ei; omega
      · exact x1 i (by omega)
  intro r
  induction r with
  | zero =>
    intro j μ1 hj h1 h2 e A F
    refine ks_iload_n rfl rfl ?_
    refine ks_bipush rfl ?_
    -- at 5: if ge -> 30 else 8 st ['60', None]
    refine ks_icmp_ge rfl ⟨by omega, by omega⟩ ⟨by omega, by omega⟩ (fun c => absurd c (by omega)) (fun c => ?_)
    exact fin j μ1 (by omega) h1 (by omega) e A F
  | succ r ih =>
    intro j μ1 hj h1 h2 e A F
    refine ks_iload_n rfl rfl ?_
    refine ks_bipush rfl ?_
    -- at 5: if ge -> 30 else 8 st ['60', None]
    refine ks_icmp_ge rfl ⟨by omega, by omega⟩ ⟨by omega, by omega⟩ (fun c => ?_) (fun c => absurd c (by omega))
    refine ks_aload_n rfl rfl ?_
    refine ks_getr (b := 81) rfl rfl rfl rfl (by decide) ?_
    refine ks_bipush rfl ?_
    refine ks_iload_n rfl rfl ?_
    refine ks_iadd rfl ?_
    refine ks_iaload rfl rfl (by omega) (by omega) (by (try simp only [kx_up_at, kx_row_at, up1_at, Nat.reduceEqDiff, Int.reduceEq, Int.reduceNeg, and_true, true_and, and_false, false_and, and_self, reduceIte, Nat.add_left_cancel_iff, Nat.add_eq_left, Nat.left_eq_add, Nat.reduceAdd, Int.add_left_inj, Int.add_right_inj, e]); rfl) ?_
    -- at 17: if ne -> 30 else 20 st [None]
    refine ks_if_ne rfl ⟨by omega, by omega⟩ (fun c2 => ?_) (fun c2 => ?_)
    · refine ks_aload_n rfl rfl ?_
      refine ks_callv_1 rfl rfl rfl (Nat.le_of_ble_eq_true rfl) ?_
      -- at 21: call M_oneStep st []
      refine r_oneStep (B := 2000) (by omega) e (tw_W_go60 W (by omega)) ?_
      show kx_wx _ _ _ _ _ _ _ _
      refine ks_iinc_2 rfl rfl ?_
      refine ks_goto rfl ?_
      -- at 2: stop  st []
      refine ih (j + 1) _ (by omega) (fun i hi => ?_) ?_ (kx_row_self _ _ _) (AS_fr A (Fr81_row _ _)) (Fr81_tr F (Fr81_row _ _))
      · by_cases ei : i = j
        · subst ei; exact c2
        · exact h1 i (by omega)
      · rcases dn_01 W o0 o1 c2 with q | q
        · exact Or.inl q
        · exact Or.inr q.1
    · exact fin j μ1 (by omega) h1 (Or.inr (h2.resolve_left c2)) e A F
      -- at 30: stop
theorem r_doneIn {o : Int} (o0 : 0 ≤ o) (o1 : o < s 2) (W : tw_W 999 s) (Z : tw_Z s) (Z0 : tw_Z s0) (A : AS μ s0) (hs : μ 81 = s) (hz : s (38 + o) = 0) (t1 : ∀ n μ', 1 ≤ n → n ≤ 60 → DN s o n → μ' 81 = s0 → Fr81 μ μ' → Q (some (kI (n : Nat))) (kg L) μ') (t0 : ∀ μ', (∀ i, i ≤ 60 → tw_go s i (38 + o) = 0) → μ' 81 = s0 → Fr81 μ μ' → Q (some (kI (-1000000))) (kg L) μ') : kx_cx (ke (d + 4)) 162 [kR 77, kI o] (kg L) μ Q := by
  refine ke_start (tb := kt_M_doneIn) (ls := [some (kR 77), some (kI o), none, none]) rfl rfl ?_
  refine ks_iconst rfl ?_
  refine ks_istore_n_2 rfl rfl ?_
  -- at 2: stop  st []
  exact l_doneIn (μ := μ) o0 o1 W Z Z0 hz t1 t0 60 0 μ (by omega) (fun i hi => absurd hi (by omega)) (Or.inl hz) hs A (fun _ _ => rfl)
theorem r_doneIn2 {o : Int} (o0 : 0 ≤ o) (o1 : o < s 2) (W : tw_W 999 s) (Z : tw_Z s) (Z0 : tw_Z s0) (A : AS μ s0) (hs : μ 81 = s) (hz : s (38 + o) = 2) (t0 : ∀ μ', μ' 81 = s0 → Fr81 μ μ' → Q (some (kI (-1000000))) (kg L) μ') : kx_cx (ke (d + 4)) 162 [kR 77, kI o] (kg L) μ Q := by
  refine ke_start (tb := kt_M_doneIn) (ls := [some (kR 77), some (kI o), none, none]) rfl rfl ?_
  have w2 := W.2.1
  refine ks_iconst rfl ?_
  refine ks_istore_n_2 rfl rfl ?_
  refine ks_iload_n rfl rfl ?_
  refine ks_bipush rfl ?_
  -- at 5: if ge -> 30 else 8 st ['60', '0']
  refine ks_icmp_ge rfl ⟨by omega, by omega⟩ ⟨by omega, by omega⟩ (fun c => ?_) (fun c => absurd c (by omega))
  refine ks_aload_n rfl rfl ?_
  refine ks_getr (b := 81) rfl rfl rfl rfl (by decide) ?_
  refine ks_bipush rfl ?_
  refine ks_iload_n rfl rfl ?_
  refine ks_iadd rfl ?_
  refine ks_iaload rfl rfl (by omega) (by omega) (by (try simp only [kx_up_at, kx_row_at, up1_at, Nat.reduceEqDiff, Int.reduceEq, Int.reduceNeg, and_true, true_and, and_false, false_and, and_self, reduceIte, Nat.add_left_cancel_iff, Nat.add_eq_left, Nat.left_eq_add, Nat.reduceAdd, Int.add_left_inj, Int.add_right_inj, hs, hz]); rfl) ?_
  -- at 17: if ne -> 30 else 20 st [None]
  refine ks_if_ne rfl ⟨by omega, by omega⟩ (fun c2 => absurd c2 (by omega)) (fun c2 => ?_)
  refine ks_aload_n rfl rfl ?_
  refine ks_getr (b := 81) rfl rfl rfl rfl (by decide) ?_
  refine ks_bipush rfl ?_
  refine ks_iload_n rfl rfl ?_
  refine ks_iadd rfl ?_
  refine ks_iaload rfl rfl (by omega) (by omega) (by (try simp only [kx_up_at, kx_row_at, up1_at, Nat.reduceEqDiff, Int.reduceEq, Int.reduceNeg, and_true, true_and, and_false, false_and, and_self, reduceIte, Nat.add_left_cancel_iff, Nat.add_eq_left, Nat.left_eq_add, Nat.reduceAdd, Int.add_left_inj, Int.add_right_inj, hs, hz]); rfl) ?_
  refine ks_iconst rfl ?_
  -- at 40: if ne -> 47 else 43 st ['1', None]
  refine ks_icmp_ne rfl ⟨by omega, by omega⟩ ⟨by omega, by omega⟩ (fun c3 => absurd c3 (by omega)) (fun c3 => ?_)
  refine ks_iconst rfl ?_
  refine ks_istore_n_3 rfl rfl ?_
  refine ks_aload_n rfl rfl ?_
  refine ks_callv_1 rfl rfl rfl (Nat.le_of_ble_eq_true rfl) ?_
  -- at 50: call M_takeBack st []
  refine r_takeBack A Z0 (by rw [hs]; exact Z) (fun μ3 e3 F3 => ?_)
  show kx_wx _ _ _ _ _ _ _ _
  refine ks_iload_n rfl rfl ?_
  refine ks_if_eq_0 rfl ?_
  refine ks_ldc rfl ?_
  refine ks_ireturn rfl ?_
  -- at 63: ret  st ['-1000000']
  exact t0 _ e3 F3
theorem r_Mdone (hv : kx_in v) (hs : μ 81 = s) (N : TN s) (t1 : ¬ (0 ≤ v ∧ v < s 2) → Q (some (kI (-1000001))) (kg L) μ) (t2 : 0 ≤ v → v < s 2 → ∀ x μ', q_done s v x → FrQ μ μ' → Q (some (kI x)) (kg L) μ') : kx_cx (ke (d + 5)) 163 [kR 77, kI v] (kg L) μ Q := by
  refine ke_start (tb := kt_M_done) (ls := [some (kR 77), some (kI v), none]) rfl rfl ?_
  obtain ⟨n1, n2, n3⟩ := TN_in N
  refine ks_aload_n rfl rfl ?_
  refine ks_iload_n rfl rfl ?_
  refine ks_callv_2 rfl rfl rfl (Nat.le_of_ble_eq_true rfl) ?_
  -- at 2: call M_isOrder st []
  refine r_isOrder hv (by rw [hs]; exact ⟨by omega, by omega⟩) (fun c => ?_) (fun c => ?_)
  · rw [hs] at c
    obtain ⟨W, Z⟩ := TN_W N (by omega)
    have w5 := W.2.2.2.2.1
    have w8 := W.2.2.2.2.2.2.2 v c.1 c.2
    show kx_wx _ _ _ _ _ (_ :: _) _ _
    refine ks_if_ne_1 rfl ?_
    refine ks_aload_n rfl rfl ?_
    refine ks_getr (b := 81) rfl rfl rfl rfl (by decide) ?_
    refine ks_bipush rfl ?_
    refine ks_iload_n rfl rfl ?_
    refine ks_iadd rfl ?_
    refine ks_iaload rfl rfl (by omega) (by omega) (by (try simp only [kx_up_at, kx_row_at, up1_at, Nat.reduceEqDiff, Int.reduceEq, Int.reduceNeg, and_true, true_and, and_false, false_and, and_self, reduceIte, Nat.add_left_cancel_iff, Nat.add_eq_left, Nat.left_eq_add, Nat.reduceAdd, Int.add_left_inj, Int.add_right_inj, hs]); rfl) ?_
    refine ks_iconst rfl ?_
    -- at 21: if ne -> 34 else 24 st ['1', None]
    refine ks_icmp_ne rfl ⟨by omega, by omega⟩ ⟨by omega, by omega⟩ (fun c2 => ?_) (fun c2 => ?_)
    · refine ks_aload_n rfl rfl ?_
      refine ks_getr (b := 81) rfl rfl rfl rfl (by decide) ?_
      refine ks_bipush rfl ?_
      refine ks_iload_n rfl rfl ?_
      refine ks_iadd rfl ?_
      refine ks_iaload rfl rfl (by omega) (by omega) (by (try simp only [kx_up_at, kx_row_at, up1_at, Nat.reduceEqDiff, Int.reduceEq, Int.reduceNeg, and_true, true_and, and_false, false_and, and_self, reduceIte, Nat.add_left_cancel_iff, Nat.add_eq_left, Nat.left_eq_add, Nat.reduceAdd, Int.add_left_inj, Int.add_right_inj, hs]); rfl) ?_
      refine ks_ireturn rfl ?_
      -- at 33: ret  st [None]
      exact t2 c.1 c.2 _ _ (Or.inl ⟨c2, rfl⟩) (fun _ _ _ => rfl)
    · refine ks_aload_n rfl rfl ?_
      refine ks_callv_1 rfl rfl rfl (Nat.le_of_ble_eq_true rfl) ?_
      -- at 35: call M_putAside st []
      refine r_putAside hs (fun μ1 A1 e1 F1 => ?_)
      show kx_wx _ _ _ _ _ _ _ _
      refine ks_aload_n rfl rfl ?_
      refine ks_iload_n rfl rfl ?_
      refine ks_callv_2 rfl rfl rfl (Nat.le_of_ble_eq_true rfl) ?_
      -- at 40: call M_doneIn st []
      by_cases hz : s (38 + v) = 0
      · have hz0 := hz
        refine r_doneIn c.1 c.2 W Z Z A1 e1 hz (fun n μ2 n0 n1 D e2 F2 => ?_) (fun μ2 D e2 F2 => ?_)
        · show kx_wx _ _ _ _ _ (_ :: _) _ _
          refine ks_istore_n_2 rfl rfl ?_
          refine ks_iload_n rfl rfl ?_
          -- at 45: if ge -> 53 else 48 st [None]
          refine ks_if_ge rfl ⟨by omega, by omega⟩ (fun c3 => absurd c3 (by omega)) (fun c3 => ?_)
          refine ks_aload_n rfl rfl ?_
          refine ks_getr (b := 81) rfl rfl rfl rfl (by decide) ?_
          refine ks_iconst rfl ?_
          refine ks_iaload rfl rfl (by omega) (by omega) (by (try simp only [kx_up_at, kx_row_at, up1_at, Nat.reduceEqDiff, Int.reduceEq, Int.reduceNeg, and_true, true_and, and_false, false_and, and_self, reduceIte, Nat.add_left_cancel_iff, Nat.add_eq_left, Nat.left_eq_add, Nat.reduceAdd, Int.add_left_inj, Int.add_right_inj, e2]); rfl) ?_
          refine ks_iload_n rfl rfl ?_
          refine ks_iadd rfl ?_
          refine ks_ireturn rfl ?_
          -- at 61: ret  st [None]
          exact t2 c.1 c.2 _ _ (Or.inr (Or.inr (Or.inl ⟨hz, n, n1, D, rfl⟩))) (FrQ_of (FrI_81 F1 F2) hs e2)
        · show kx_wx _ _ _ _ _ (_ :: _) _ _
          refine ks_istore_n_2 rfl rfl ?_
          refine ks_iload_n rfl rfl ?_
          -- at 45: if ge -> 53 else 48 st [None]
          refine ks_if_ge rfl ⟨by omega, by omega⟩ (fun c3 => ?_) (fun c3 => absurd c3 (by omega))
          refine ks_ldc rfl ?_
          refine ks_goto rfl ?_
          refine ks_ireturn rfl ?_
          -- at 61: ret  st ['-1000000']
          exact t2 c.1 c.2 _ _ (Or.inr (Or.inr (Or.inr ⟨hz, D, rfl⟩))) (FrQ_of (FrI_81 F1 F2) hs e2)
      · have hz2 : s (38 + v) = 2 := by omega
        refine r_doneIn2 c.1 c.2 W Z Z A1 e1 hz2 (fun μ2 e2 F2 => ?_)
        show kx_wx _ _ _ _ _ (_ :: _) _ _
        refine ks_istore_n_2 rfl rfl ?_
        refine ks_iload_n rfl rfl ?_
        -- at 45: if ge -> 53 else 48 st [None]
        refine ks_if_ge rfl ⟨by omega, by omega⟩ (fun c3 => ?_) (fun c3 => absurd c3 (by omega))
        refine ks_ldc rfl ?_
        refine ks_goto rfl ?_
        refine ks_ireturn rfl ?_
        -- at 61: ret  st ['-1000000']
        exact t2 c.1 c.2 _ _ (Or.inr (Or.inl ⟨hz2, rfl⟩)) (FrQ_of (FrI_81 F1 F2) hs e2)
  · rw [hs] at c
    show kx_wx _ _ _ _ _ (_ :: _) _ _
    refine ks_if_ne_0 rfl ?_
    refine ks_ldc rfl ?_
    refine ks_ireturn rfl ?_
    -- at 10: ret  st ['-1000001']
    exact t1 c
end MF
end
section
/-! foretold, the reference, more -/
theorem tw_Z_gv {s : Int → Int} {h : Int} (z : tw_Z s) : tw_Z (tw_gv s h) := tw_Z_up (tw_Z_up z (by omega)) (by omega)
section MG
variable {d L : Nat} {G : kx_G} {μ : kx_M} {Q : Option kx_V → kx_G → kx_M → Prop} {s s0 : Int → Int} {z v : Int}
theorem l_Mfirst (hs : μ 81 = s) (W : tw_W 999 s) (Z : tw_Z s) (t : ∀ x l μ', q_min (q_P s) (s 2) x l → FrQ μ μ' → Q (some (kI x)) (kg L) μ') : ∀ (r j : Nat) (b l : Int) (μ1 : kx_M) (x4 : Option kx_V), j + r = (s 2).toNat → q_min (q_P s) j b l → (b = -1000000 → l = 999) → 1 ≤ l → l ≤ 999 → μ1 81 = s → AS μ1 s → FrI μ μ1 → kx_wx (ke (d + 4)) kt_M_first Q 23 [some (kR 77), some (kI b), some (kI l), some (kI j), x4] [] (kg L) μ1 := by
  have w2 := W.2.1
  intro r
  induction r with
  | zero =>
    intro j b l μ1 x4 hj hm hl l0 l1 e A F
    refine ks_iload_n rfl rfl ?_
    refine ks_aload_n rfl rfl ?_
    refine ks_getr (b := 81) rfl rfl rfl rfl (by decide) ?_
    refine ks_iconst rfl ?_
    refine ks_iaload rfl rfl (by omega) (by omega) (by (try simp only [kx_up_at, kx_row_at, up1_at, Nat.reduceEqDiff, Int.reduceEq, Int.reduceNeg, and_true, true_and, and_false, false_and, and_self, reduceIte, Nat.add_left_cancel_iff, Nat.add_eq_left, Nat.left_eq_add, Nat.reduceAdd, Int.add_left_inj, Int.add_right_inj, e]); rfl) ?_
    -- at 30: if ge -> 79 else 33 st [None, None]
    refine ks_icmp_ge rfl ⟨by omega, by omega⟩ ⟨by omega, by omega⟩ (fun c => absurd c (by omega)) (fun c => ?_)
    refine ks_iload_n rfl rfl ?_
    refine ks_ireturn rfl ?_
    -- at 80: ret  st [None]
    have ej : (j : Int) = s 2 := by omega
    rw [ej] at hm
    exact t _ l _ hm (FrQ_of F hs e)
  | succ r ih =>
    intro j b l μ1 x4 hj hm hl l0 l1 e A F
    have w8 := W.2.2.2.2.2.2.2 j (by omega) (by omega)
    have en : ((j + 1 : Nat) : Int) = (j : Int) + 1 := by omega
    refine ks_iload_n rfl rfl ?_
    refine ks_aload_n rfl rfl ?_
    refine ks_getr (b := 81) rfl rfl rfl rfl (by decide) ?_
    refine ks_iconst rfl ?_
    refine ks_iaload rfl rfl (by omega) (by omega) (by (try simp only [kx_up_at, kx_row_at, up1_at, Nat.reduceEqDiff, Int.reduceEq, Int.reduceNeg, and_true, true_and, and_false, false_and, and_self, reduceIte, Nat.add_left_cancel_iff, Nat.add_eq_left, Nat.left_eq_add, Nat.reduceAdd, Int.add_left_inj, Int.add_right_inj, e]); rfl) ?_
    -- at 30: if ge -> 79 else 33 st [None, None]
    refine ks_icmp_ge rfl ⟨by omega, by omega⟩ ⟨by omega, by omega⟩ (fun c => ?_) (fun c => absurd c (by omega))
    refine ks_aload_n rfl rfl ?_
    refine ks_getr (b := 81) rfl rfl rfl rfl (by decide) ?_
    refine ks_bipush rfl ?_
    refine ks_iload_n rfl rfl ?_
    refine ks_iadd rfl ?_
    refine ks_iaload rfl rfl (by omega) (by omega) (by (try simp only [kx_up_at, kx_row_at, up1_at, Nat.reduceEqDiff, Int.reduceEq, Int.reduceNeg, and_true, true_and, and_false, false_and, and_self, reduceIte, Nat.add_left_cancel_iff, Nat.add_eq_left, Nat.left_eq_add, Nat.reduceAdd, Int.add_left_inj, Int.add_right_inj, e]); rfl) ?_
    -- at 42: if ne -> 53 else 45 st [None]
    refine ks_if_ne rfl ⟨by omega, by omega⟩ (fun c2 => ?_) (fun c2 => ?_)
    · refine ks_aload_n rfl rfl ?_
      refine ks_iload_n rfl rfl ?_
      refine ks_callv_2 rfl rfl rfl (Nat.le_of_ble_eq_true rfl) ?_
      -- at 47: call M_doneIn st []
      refine r_doneIn (o := j) (by omega) (by omega) W Z Z A e c2 (fun n μ2 n0 n1 D e2 F2 => ?_) (fun μ2 D e2 F2 => ?_)
      · show kx_wx _ _ _ _ _ (_ :: _) _ _
        refine ks_goto rfl ?_
        refine ks_istore_4 rfl rfl ?_
        refine ks_iload rfl rfl ?_
        -- at 59: if le -> 73 else 62 st [None]
        refine ks_if_le rfl ⟨by omega, by omega⟩ (fun c3 => ?_) (fun c3 => absurd c3 (by omega))
        refine ks_iload rfl rfl ?_
        refine ks_iload_n rfl rfl ?_
        -- at 65: if ge -> 73 else 68 st [None, None]
        refine ks_icmp_ge rfl ⟨by omega, by omega⟩ ⟨by omega, by omega⟩ (fun c4 => ?_) (fun c4 => ?_)
        · refine ks_iload_n rfl rfl ?_
          refine ks_istore_n_1 rfl rfl ?_
          refine ks_iload rfl rfl ?_
          refine ks_istore_n_2 rfl rfl ?_
          refine ks_iinc_3 rfl rfl ?_
          refine ks_goto rfl ?_
          -- at 23: stop  st []
          have hh := q_min_hit (n := n) hm (by omega) ⟨c2, D⟩ n0 n1 (Or.inr c4) (fun k hk => dn_uniq hk.2 D)
          rw [← en] at hh
          exact ih (j + 1) j n μ2 _ (by omega) hh (by omega) (by omega) (by omega) e2 (AS_fr A F2) (FrI_81 F F2)
        · refine ks_iinc_3 rfl rfl ?_
          refine ks_goto rfl ?_
          -- at 23: stop  st []
          have hh := q_min_miss hm (by omega) (fun k k1 hp => by
            have := dn_uniq hp.2 D
            subst this
            exact ⟨fun q => by have := hl q; omega, by omega⟩)
          rw [← en] at hh
          exact ih (j + 1) b l μ2 _ (by omega) hh hl l0 l1 e2 (AS_fr A F2) (FrI_81 F F2)
      · show kx_wx _ _ _ _ _ (_ :: _) _ _
        refine ks_goto rfl ?_
        refine ks_istore_4 rfl rfl ?_
        refine ks_iload rfl rfl ?_
        -- at 59: if le -> 73 else 62 st [None]
        refine ks_if_le rfl ⟨by omega, by omega⟩ (fun c3 => absurd c3 (by omega)) (fun c3 => ?_)
        refine ks_iinc_3 rfl rfl ?_
        refine ks_goto rfl ?_
        -- at 23: stop  st []
        have hh := q_min_miss hm (by omega) (fun k k1 hp => by
          have := dn_no hp.2 D
          omega)
        rw [← en] at hh
        exact ih (j + 1) b l μ2 _ (by omega) hh hl l0 l1 e2 (AS_fr A F2) (FrI_81 F F2)
    · refine ks_ldc rfl ?_
      refine ks_istore_4 rfl rfl ?_
      refine ks_iload rfl rfl ?_
      -- at 59: if le -> 73 else 62 st ['-1000000']
      refine ks_if_le rfl ⟨by omega, by omega⟩ (fun c3 => absurd c3 (by omega)) (fun c3 => ?_)
      refine ks_iinc_3 rfl rfl ?_
      refine ks_goto rfl ?_
      -- at 23: stop  st []
      have hh := q_min_miss hm (by omega) (fun k k1 hp => absurd hp.1 c2)
      rw [← en] at hh
      exact ih (j + 1) b l μ1 _ (by omega) hh hl l0 l1 e A F
theorem r_Mfirst (hs : μ 81 = s) (N : TN s) (I : IT μ s) (t0 : s 1 = 0 → Q (some (kI (-1000002))) (kg L) μ) (t2 : 1 ≤ s 1 → ∀ x l μ', q_min (q_P s) (s 2) x l → FrQ μ μ' → Q (some (kI x)) (kg L) μ') : kx_cx (ke (d + 5)) 164 [kR 77] (kg L) μ Q := by
  refine ke_start (tb := kt_M_first) (ls := [some (kR 77), none, none, none, none]) rfl rfl ?_
  obtain ⟨i0, i1, i2, i3⟩ := IT_in I
  refine ks_aload_n rfl rfl ?_
  refine ks_geti rfl rfl rfl rfl (by (try simp only [kx_up_at, kx_row_at, up1_at, Nat.reduceEqDiff, Int.reduceEq, Int.reduceNeg, and_true, true_and, and_false, false_and, and_self, reduceIte, Nat.add_left_cancel_iff, Nat.add_eq_left, Nat.left_eq_add, Nat.reduceAdd, Int.add_left_inj, Int.add_right_inj]); rfl) ?_
  -- at 4: if ne -> 10 else 7 st [None]
  refine ks_if_ne rfl ⟨by omega, by omega⟩ (fun c => ?_) (fun c => ?_)
  · refine ks_ldc rfl ?_
    refine ks_ireturn rfl ?_
    -- at 9: ret  st ['-1000002']
    exact t0 (by omega)
  · refine ks_aload_n rfl rfl ?_
    refine ks_callv_1 rfl rfl rfl (Nat.le_of_ble_eq_true rfl) ?_
    -- at 11: call M_putAside st []
    obtain ⟨W, Z⟩ := TN_W N (by omega)
    have w2 := W.2.1
    refine r_putAside hs (fun μ1 A1 e1 F1 => ?_)
    show kx_wx _ _ _ _ _ _ _ _
    refine ks_ldc rfl ?_
    refine ks_istore_n_1 rfl rfl ?_
    refine ks_sipush rfl ?_
    refine ks_istore_n_2 rfl rfl ?_
    refine ks_iconst rfl ?_
    refine ks_istore_n_3 rfl rfl ?_
    -- at 23: stop  st []
    exact l_Mfirst (μ := μ) hs W Z (t2 (by omega)) (s 2).toNat 0 _ 999 μ1 _ (by omega) q_min_0 (fun _ => rfl) (by omega) (by omega) e1 A1 F1
theorem l_MtoGive {o w : Int} (o0 : 0 ≤ o) (o1 : o < s 2) (hw : kx_in w) (hz : s (38 + o) = 0) (hs : μ 81 = s) (W : tw_W 999 s) (Z : tw_Z s) (t : ∀ x μ', q_tg s o w x → FrQ μ μ' → Q (some (kI x)) (kg L) μ') : ∀ (r j : Nat) (b l : Int) (μ1 : kx_M) (x6 : Option kx_V), j + r = (s 1).toNat → q_min (q_T s o) j b l → (b = -1000000 → l = 999) → 1 ≤ l → l ≤ 999 → μ1 81 = s → AS μ1 s → FrI μ μ1 → kx_wx (ke (d + 4)) kt_M_toGive Q 51 [some (kR 77), some (kI o), some (kI w), some (kI b), some (kI l), some (kI j), x6] [] (kg L) μ1 := by
  have w1 := W.1
  have w2 := W.2.1
  obtain ⟨_, _⟩ := hw
  have hb : ∀ (j : Nat) b l, j ≤ (s 1).toNat → q_min (q_T s o) j b l → -1000000 ≤ b ∧ b ≤ 6 ∧ (b < 0 ↔ b = -1000000) := by
    intro j b l hj hm
    rcases hm with ⟨a1, a2⟩ | ⟨a1, a2, _⟩ <;> omega
  intro r
  induction r with
  | zero =>
    intro j b l μ1 x6 hj hm hl l0 l1 e A F
    have hbb := hb j b l (by omega) hm
    refine ks_iload rfl rfl ?_
    refine ks_aload_n rfl rfl ?_
    refine ks_getr (b := 81) rfl rfl rfl rfl (by decide) ?_
    refine ks_iconst rfl ?_
    refine ks_iaload rfl rfl (by omega) (by omega) (by (try simp only [kx_up_at, kx_row_at, up1_at, Nat.reduceEqDiff, Int.reduceEq, Int.reduceNeg, and_true, true_and, and_false, false_and, and_self, reduceIte, Nat.add_left_cancel_iff, Nat.add_eq_left, Nat.left_eq_add, Nat.reduceAdd, Int.add_left_inj, Int.add_right_inj, e]); rfl) ?_
    -- at 59: if ge -> 100 else 62 st [None, None]
    refine ks_icmp_ge rfl ⟨by omega, by omega⟩ ⟨by omega, by omega⟩ (fun c => absurd c (by omega)) (fun c => ?_)
    refine ks_iload_n rfl rfl ?_
    -- at 101: if lt -> 108 else 104 st [None]
    have ej : (j : Int) = s 1 := by omega
    rw [ej] at hm
    refine ks_if_lt rfl ⟨by omega, by omega⟩ (fun c1 => ?_) (fun c1 => ?_)
    · refine ks_iload_n rfl rfl ?_
      refine ks_goto rfl ?_
      refine ks_ireturn rfl ?_
      -- at 114: ret  st [None]
      exact t _ _ ⟨b, l, hm, by rw [if_pos (by omega)]⟩ (FrQ_of F hs e)
    · refine ks_iload_n rfl rfl ?_
      -- at 105: if ne -> 112 else 108 st [None]
      refine ks_if_ne rfl ⟨by omega, by omega⟩ (fun c2 => ?_) (fun c2 => ?_)
      · refine ks_iload_n rfl rfl ?_
        refine ks_goto rfl ?_
        refine ks_ireturn rfl ?_
        -- at 114: ret  st [None]
        exact t _ _ ⟨b, l, hm, by rw [if_neg (by omega), if_pos c2]⟩ (FrQ_of F hs e)
      · refine ks_iload rfl rfl ?_
        refine ks_ireturn rfl ?_
        -- at 114: ret  st [None]
        exact t _ _ ⟨b, l, hm, by rw [if_neg (by omega), if_neg c2]⟩ (FrQ_of F hs e)
  | succ r ih =>
    intro j b l μ1 x6 hj hm hl l0 l1 e A F
    have en : ((j + 1 : Nat) : Int) = (j : Int) + 1 := by omega
    refine ks_iload rfl rfl ?_
    refine ks_aload_n rfl rfl ?_
    refine ks_getr (b := 81) rfl rfl rfl rfl (by decide) ?_
    refine ks_iconst rfl ?_
    refine ks_iaload rfl rfl (by omega) (by omega) (by (try simp only [kx_up_at, kx_row_at, up1_at, Nat.reduceEqDiff, Int.reduceEq, Int.reduceNeg, and_true, true_and, and_false, false_and, and_self, reduceIte, Nat.add_left_cancel_iff, Nat.add_eq_left, Nat.left_eq_add, Nat.reduceAdd, Int.add_left_inj, Int.add_right_inj, e]); rfl) ?_
    -- at 59: if ge -> 100 else 62 st [None, None]
    refine ks_icmp_ge rfl ⟨by omega, by omega⟩ ⟨by omega, by omega⟩ (fun c => ?_) (fun c => absurd c (by omega))
    refine ks_aload_n rfl rfl ?_
    refine ks_iload rfl rfl ?_
    refine ks_callv_2 rfl rfl rfl (Nat.le_of_ble_eq_true rfl) ?_
    -- at 65: call M_giveTo st []
    refine r_giveTo ?_
    have e3 : kx_row μ1 81 (up1 (up1 (μ1 81) 4 j) 5 0) 81 = tw_gv s j := by rw [kx_row_self, e]; rfl
    have F3 : Fr81 μ1 (kx_row μ1 81 (up1 (up1 (μ1 81) 4 j) 5 0)) := Fr81_row _ _
    generalize kx_row μ1 81 (up1 (up1 (μ1 81) 4 j) 5 0) = μ3 at *
    show kx_wx _ _ _ _ _ _ _ _
    refine ks_aload_n rfl rfl ?_
    refine ks_iload_n rfl rfl ?_
    refine ks_callv_2 rfl rfl rfl (Nat.le_of_ble_eq_true rfl) ?_
    -- at 70: call M_doneIn st []
    have W3 : tw_W 999 (tw_gv s j) := tw_W_give W (by omega) (by omega)
    have o3 : o < tw_gv s j 2 := by unfold tw_gv; rw [up1_ne (by omega), up1_ne (by omega)]; exact o1
    have z3 : tw_gv s j (38 + o) = 0 := by unfold tw_gv; rw [up1_ne (by omega), up1_ne (by omega)]; exact hz
    refine r_doneIn (o := o) o0 o3 W3 (tw_Z_gv Z) Z (AS_fr A F3) e3 z3 (fun n μ2 n0 n1 D e2 F2 => ?_) (fun μ2 D e2 F2 => ?_)
    · have F4 := Fr81_tr F3 F2
      show kx_wx _ _ _ _ _ (_ :: _) _ _
      refine ks_istore_6 rfl rfl ?_
      refine ks_iload rfl rfl ?_
      -- at 77: if le -> 94 else 80 st [None]
      refine ks_if_le rfl ⟨by omega, by omega⟩ (fun c3 => ?_) (fun c3 => absurd c3 (by omega))
      refine ks_iload rfl rfl ?_
      refine ks_iload rfl rfl ?_
      -- at 84: if ge -> 94 else 87 st [None, None]
      refine ks_icmp_ge rfl ⟨by omega, by omega⟩ ⟨by omega, by omega⟩ (fun c4 => ?_) (fun c4 => ?_)
      · refine ks_iload rfl rfl ?_
        refine ks_istore_n_3 rfl rfl ?_
        refine ks_iload rfl rfl ?_
        refine ks_istore_4 rfl rfl ?_
        refine ks_iinc_5 rfl rfl ?_
        refine ks_goto rfl ?_
        -- at 51: stop  st []
        have hh := q_min_hit (P := q_T s o) (n := n) hm (by omega) D n0 n1 (Or.inr c4) (fun k hk => dn_uniq hk D)
        rw [← en] at hh
        exact ih (j + 1) j n μ2 _ (by omega) hh (by omega) (by omega) (by omega) e2 (AS_fr A F4) (FrI_81 F F4)
      · refine ks_iinc_5 rfl rfl ?_
        refine ks_goto rfl ?_
        -- at 51: stop  st []
        have hh := q_min_miss hm (by omega) (fun k k1 hp => by
          have := dn_uniq hp D
          subst this
          exact ⟨fun q => by have := hl q; omega, by omega⟩)
        rw [← en] at hh
        exact ih (j + 1) b l μ2 _ (by omega) hh hl l0 l1 e2 (AS_fr A F4) (FrI_81 F F4)
    · have F4 := Fr81_tr F3 F2
      show kx_wx _ _ _ _ _ (_ :: _) _ _
      refine ks_istore_6 rfl rfl ?_
      refine ks_iload rfl rfl ?_
      -- at 77: if le -> 94 else 80 st [None]
      refine ks_if_le rfl ⟨by omega, by omega⟩ (fun c3 => absurd c3 (by omega)) (fun c3 => ?_)
      refine ks_iinc_5 rfl rfl ?_
      refine ks_goto rfl ?_
      -- at 51: stop  st []
      have hh := q_min_miss hm (by omega) (fun k k1 hp => by
        have := dn_no hp D
        omega)
      rw [← en] at hh
      exact ih (j + 1) b l μ2 _ (by omega) hh hl l0 l1 e2 (AS_fr A F4) (FrI_81 F F4)
theorem r_MtoGive {w : Int} (hv : kx_in v) (hw : kx_in w) (hs : μ 81 = s) (N : TN s) (t1 : ¬ ((0 ≤ v ∧ v < s 2) ∧ (0 ≤ w ∧ w ≤ 1)) → Q (some (kI (-1000001))) (kg L) μ) (t3 : 0 ≤ v → v < s 2 → 0 ≤ w → w ≤ 1 → ¬ s (38 + v) = 0 → Q (some (kI (-1000002))) (kg L) μ) (t2 : 0 ≤ v → v < s 2 → 0 ≤ w → w ≤ 1 → s (38 + v) = 0 → ∀ x μ', q_tg s v w x → FrQ μ μ' → Q (some (kI x)) (kg L) μ') : kx_cx (ke (d + 5)) 166 [kR 77, kI v, kI w] (kg L) μ Q := by
  refine ke_start (tb := kt_M_toGive) (ls := [some (kR 77), some (kI v), some (kI w), none, none, none, none]) rfl rfl ?_
  obtain ⟨n1, n2, n3⟩ := TN_in N
  have hw0 := hw
  obtain ⟨_, _⟩ := hw
  refine ks_aload_n rfl rfl ?_
  refine ks_iload_n rfl rfl ?_
  refine ks_callv_2 rfl rfl rfl (Nat.le_of_ble_eq_true rfl) ?_
  -- at 2: call M_isOrder st []
  refine r_isOrder hv (by rw [hs]; exact ⟨by omega, by omega⟩) (fun c => ?_) (fun c => ?_)
  · rw [hs] at c
    show kx_wx _ _ _ _ _ (_ :: _) _ _
    refine ks_if_eq_1 rfl ?_
    refine ks_iload_n rfl rfl ?_
    refine ks_i2l rfl ⟨by omega, by omega⟩ ?_
    refine ks_lconst rfl ?_
    refine ks_lconst rfl ?_
    refine ks_calls_3 rfl (Nat.le_of_ble_eq_true rfl) ?_
    -- at 12: call M_in st []
    refine r_in ⟨by omega, by omega⟩ ⟨by omega, by omega⟩ ⟨by omega, by omega⟩ (fun c2 => ?_) (fun c2 => ?_)
    · obtain ⟨W, Z⟩ := TN_W N (by omega)
      have w1 := W.1
      have w8 := W.2.2.2.2.2.2.2 v c.1 c.2
      show kx_wx _ _ _ _ _ (_ :: _) _ _
      refine ks_if_ne_1 rfl ?_
      refine ks_aload_n rfl rfl ?_
      refine ks_getr (b := 81) rfl rfl rfl rfl (by decide) ?_
      refine ks_bipush rfl ?_
      refine ks_iload_n rfl rfl ?_
      refine ks_iadd rfl ?_
      refine ks_iaload rfl rfl (by omega) (by omega) (by (try simp only [kx_up_at, kx_row_at, up1_at, Nat.reduceEqDiff, Int.reduceEq, Int.reduceNeg, and_true, true_and, and_false, false_and, and_self, reduceIte, Nat.add_left_cancel_iff, Nat.add_eq_left, Nat.left_eq_add, Nat.reduceAdd, Int.add_left_inj, Int.add_right_inj, hs]); rfl) ?_
      -- at 30: if eq -> 36 else 33 st [None]
      refine ks_if_eq rfl ⟨by omega, by omega⟩ (fun c3 => ?_) (fun c3 => ?_)
      · refine ks_aload_n rfl rfl ?_
        refine ks_callv_1 rfl rfl rfl (Nat.le_of_ble_eq_true rfl) ?_
        -- at 37: call M_putAside st []
        refine r_putAside hs (fun μ1 A1 e1 F1 => ?_)
        show kx_wx _ _ _ _ _ _ _ _
        refine ks_ldc rfl ?_
        refine ks_istore_n_3 rfl rfl ?_
        refine ks_sipush rfl ?_
        refine ks_istore_4 rfl rfl ?_
        refine ks_iconst rfl ?_
        refine ks_istore_5 rfl rfl ?_
        -- at 51: stop  st []
        exact l_MtoGive (μ := μ) c.1 c.2 hw0 c3 hs W Z (t2 c.1 c.2 c2.1 c2.2 c3) (s 1).toNat 0 _ 999 μ1 _ (by omega) q_min_0 (fun _ => rfl) (by omega) (by omega) e1 A1 F1
      · refine ks_ldc rfl ?_
        refine ks_ireturn rfl ?_
        -- at 35: ret  st ['-1000002']
        exact t3 c.1 c.2 c2.1 c2.2 c3
    · show kx_wx _ _ _ _ _ (_ :: _) _ _
      refine ks_if_ne_0 rfl ?_
      refine ks_ldc rfl ?_
      refine ks_ireturn rfl ?_
      -- at 20: ret  st ['-1000001']
      exact t1 (fun q => c2 q.2)
  · rw [hs] at c
    show kx_wx _ _ _ _ _ (_ :: _) _ _
    refine ks_if_eq_0 rfl ?_
    refine ks_ldc rfl ?_
    refine ks_ireturn rfl ?_
    -- at 20: ret  st ['-1000001']
    exact t1 (fun q => c q.1)
theorem l_windsBy {h X : Int} {n : Nat} (hn : n ≤ 60) (hh : kx_in h) (hs : μ 81 = s) (W : tw_W 999 s) (Z : tw_Z s) (t : ∀ μ', FrQ μ μ' → Q (some (kI X)) (kg L) μ') : ∀ (r j : Nat) (a : Int) (μ1 : kx_M), j + r = 6 → q_wi s h n r j a = X → μ1 81 = s → AS μ1 s → FrI μ μ1 → kx_wx (ke (d + 4)) kt_M_windsBy Q 9 [some (kR 77), some (kI h), some (kI n), some (kI a), some (kI j)] [] (kg L) μ1 := by
  obtain ⟨_, _⟩ := hh
  intro r
  induction r with
  | zero =>
    intro j a μ1 hj q e A F
    simp only [q_wi] at q
    subst q
    refine ks_iload rfl rfl ?_
    refine ks_bipush rfl ?_
    -- at 13: if ge -> 60 else 16 st ['6', None]
    refine ks_icmp_ge rfl ⟨by omega, by omega⟩ ⟨by omega, by omega⟩ (fun c => absurd c (by omega)) (fun c => ?_)
    refine ks_iload_n rfl rfl ?_
    refine ks_ireturn rfl ?_
    -- at 61: ret  st [None]
    exact t _ (FrQ_of F hs e)
  | succ r ih =>
    intro j a μ1 hj q e A F
    rw [q_wi] at q
    refine ks_iload rfl rfl ?_
    refine ks_bipush rfl ?_
    -- at 13: if ge -> 60 else 16 st ['6', None]
    refine ks_icmp_ge rfl ⟨by omega, by omega⟩ ⟨by omega, by omega⟩ (fun c => ?_) (fun c => absurd c (by omega))
    refine ks_aload_n rfl rfl ?_
    refine ks_getr (b := 81) rfl rfl rfl rfl (by decide) ?_
    refine ks_iconst rfl ?_
    refine ks_iload rfl rfl ?_
    refine ks_iastore rfl rfl (by omega) (by omega) ?_
    refine ks_aload_n rfl rfl ?_
    refine ks_iload_n rfl rfl ?_
    refine ks_callv_2 rfl rfl rfl (Nat.le_of_ble_eq_true rfl) ?_
    -- at 26: call M_goOn st []
    have e3 : kx_up μ1 81 0 j 81 = up1 s 0 j := by rw [kx_up_up1, kx_row_self, e]
    have F3 : Fr81 μ1 (kx_up μ1 81 0 j) := fun c hc => kx_up_row hc
    generalize kx_up μ1 81 0 j = μ3 at *
    have W3 := tw_W_wind (v := j) W (by omega) (by omega)
    refine r_goOn hn W3 e3 (fun μ4 e4 F4 => ?_)
    have W4 := tw_W_go60 W3 (n := n) (by omega)
    have w3 := W4.2.2.1
    have w1 := W4.1
    have Z4 : tw_Z (μ4 81) := by rw [e4]; exact tw_Z_go W3 (tw_Z_up Z (by omega)) n
    show kx_wx _ _ _ _ _ _ _ _
    refine ks_iload_n rfl rfl ?_
    refine ks_aload_n rfl rfl ?_
    refine ks_getr (b := 81) rfl rfl rfl rfl (by decide) ?_
    refine ks_iconst rfl ?_
    refine ks_iaload rfl rfl (by omega) (by omega) (by (try simp only [kx_up_at, kx_row_at, up1_at, Nat.reduceEqDiff, Int.reduceEq, Int.reduceNeg, and_true, true_and, and_false, false_and, and_self, reduceIte, Nat.add_left_cancel_iff, Nat.add_eq_left, Nat.left_eq_add, Nat.reduceAdd, Int.add_left_inj, Int.add_right_inj, e4]); rfl) ?_
    refine ks_iload_n rfl rfl ?_
    -- at 37: if ne -> 47 else 40 st [None, None, None]
    refine ks_icmp_ne rfl ⟨by omega, by omega⟩ ⟨by omega, by omega⟩ (fun c2 => ?_) (fun c2 => ?_)
    · rw [if_pos c2] at q
      refine ks_iconst rfl ?_
      refine ks_iload rfl rfl ?_
      refine ks_ishl rfl (by omega) (by omega) ?_
      refine ks_goto rfl ?_
      refine ks_ior rfl ?_
      refine ks_istore_n_3 rfl rfl ?_
      refine ks_aload_n rfl rfl ?_
      refine ks_callv_1 rfl rfl rfl (Nat.le_of_ble_eq_true rfl) ?_
      -- at 51: call M_takeBack st []
      refine r_takeBack (AS_fr A (Fr81_tr F3 F4)) Z Z4 (fun μ5 e5 F5 => ?_)
      show kx_wx _ _ _ _ _ _ _ _
      refine ks_iinc_4 rfl rfl ?_
      refine ks_goto rfl ?_
      -- at 9: stop  st []
      have F6 := Fr81_tr (Fr81_tr F3 F4) F5
      exact ih (j + 1) _ μ5 (by omega) q e5 (AS_fr A F6) (FrI_81 F F6)
    · rw [if_neg c2] at q
      refine ks_iconst rfl ?_
      refine ks_ior rfl ?_
      refine ks_istore_n_3 rfl rfl ?_
      refine ks_aload_n rfl rfl ?_
      refine ks_callv_1 rfl rfl rfl (Nat.le_of_ble_eq_true rfl) ?_
      -- at 51: call M_takeBack st []
      refine r_takeBack (AS_fr A (Fr81_tr F3 F4)) Z Z4 (fun μ5 e5 F5 => ?_)
      show kx_wx _ _ _ _ _ _ _ _
      refine ks_iinc_4 rfl rfl ?_
      refine ks_goto rfl ?_
      -- at 9: stop  st []
      have F6 := Fr81_tr (Fr81_tr F3 F4) F5
      exact ih (j + 1) _ μ5 (by omega) q e5 (AS_fr A F6) (FrI_81 F F6)
theorem r_windsBy {h : Int} {n : Nat} (hn : n ≤ 60) (hh : kx_in h) (hs : μ 81 = s) (W : tw_W 999 s) (Z : tw_Z s) (t : ∀ μ', FrQ μ μ' → Q (some (kI (q_wi s h n 6 0 0))) (kg L) μ') : kx_cx (ke (d + 5)) 167 [kR 77, kI h, kI n] (kg L) μ Q := by
  refine ke_start (tb := kt_M_windsBy) (ls := [some (kR 77), some (kI h), some (kI n), none, none]) rfl rfl ?_
  refine ks_aload_n rfl rfl ?_
  refine ks_callv_1 rfl rfl rfl (Nat.le_of_ble_eq_true rfl) ?_
  -- at 1: call M_putAside st []
  refine r_putAside hs (fun μ1 A1 e1 F1 => ?_)
  show kx_wx _ _ _ _ _ _ _ _
  refine ks_iconst rfl ?_
  refine ks_istore_n_3 rfl rfl ?_
  refine ks_iconst rfl ?_
  refine ks_istore_4 rfl rfl ?_
  -- at 9: stop  st []
  exact l_windsBy (μ := μ) (X := q_wi s h n 6 0 0) hn hh hs W Z t 6 0 0 μ1 (by omega) rfl e1 A1 F1
theorem r_Mwinds {h : Int} (hv : kx_in v) (hh : kx_in h) (hs : μ 81 = s) (N : TN s) (t1 : ¬ ((0 ≤ h ∧ h < s 1) ∧ (0 ≤ v ∧ v ≤ 60)) → Q (some (kI (-1000001))) (kg L) μ) (t2 : 0 ≤ h → h < s 1 → 0 ≤ v → v ≤ 60 → ∀ μ', FrQ μ μ' → Q (some (kI (q_wi s h v.toNat 6 0 0))) (kg L) μ') : kx_cx (ke (d + 6)) 168 [kR 77, kI h, kI v] (kg L) μ Q := by
  refine ke_start (tb := kt_M_winds) (ls := [some (kR 77), some (kI h), some (kI v)]) rfl rfl ?_
  obtain ⟨n1, n2, n3⟩ := TN_in N
  refine ks_aload_n rfl rfl ?_
  refine ks_iload_n rfl rfl ?_
  refine ks_callv_2 rfl rfl rfl (Nat.le_of_ble_eq_true rfl) ?_
  -- at 2: call M_isHead st []
  refine r_isHead hh (by rw [hs]; exact ⟨by omega, by omega⟩) (fun c => ?_) (fun c => ?_)
  · rw [hs] at c
    show kx_wx _ _ _ _ _ (_ :: _) _ _
    refine ks_if_eq_1 rfl ?_
    refine ks_iload_n rfl rfl ?_
    refine ks_calls_1 rfl (Nat.le_of_ble_eq_true rfl) ?_
    -- at 9: call M_isFar st []
    refine r_isFar hv (fun c2 => ?_) (fun c2 => ?_)
    · obtain ⟨W, Z⟩ := TN_W N (by omega)
      have ev : v = (v.toNat : Int) := by omega
      generalize v.toNat = n at *
      subst ev
      show kx_wx _ _ _ _ _ (_ :: _) _ _
      refine ks_if_eq_1 rfl ?_
      refine ks_aload_n rfl rfl ?_
      refine ks_iload_n rfl rfl ?_
      refine ks_iload_n rfl rfl ?_
      refine ks_callv_3 rfl rfl rfl (Nat.le_of_ble_eq_true rfl) ?_
      -- at 18: call M_windsBy st []
      refine r_windsBy (by omega) hh hs W Z (fun μ1 F1 => ?_)
      show kx_wx _ _ _ _ _ (_ :: _) _ _
      refine ks_goto rfl ?_
      refine ks_ireturn rfl ?_
      -- at 26: ret  st [None]
      exact t2 c.1 c.2 (by omega) (by omega) _ F1
    · show kx_wx _ _ _ _ _ (_ :: _) _ _
      refine ks_if_eq_0 rfl ?_
      refine ks_ldc rfl ?_
      refine ks_ireturn rfl ?_
      -- at 26: ret  st ['-1000001']
      exact t1 (fun q => c2 q.2)
  · rw [hs] at c
    show kx_wx _ _ _ _ _ (_ :: _) _ _
    refine ks_if_eq_0 rfl ?_
    refine ks_ldc rfl ?_
    refine ks_ireturn rfl ?_
    -- at 26: ret  st ['-1000001']
    exact t1 (fun q => c q.1)
theorem l_goesSo {y : Int} {n : Nat} {f : Int → Int} (y0 : 0 ≤ y) (y1 : y + n ≤ 320) (n1 : n ≤ 16) (hf : ∀ k, f k = μ 80 (y + k)) (hi : ∀ k, 0 ≤ k → k < 320 → kx_in (μ 80 k)) (W : tw_W 999 s) (Z : tw_Z s) (Z0 : tw_Z s0) (t1 : q_ga s f n = true → ∀ μ', μ' 81 = s0 → Fr81 μ μ' → Q (some (kI 1)) (kg L) μ') (t0 : ¬ q_ga s f n = true → ∀ μ', μ' 81 = s0 → Fr81 μ μ' → Q (some (kI 0)) (kg L) μ') : ∀ (r j : Nat) (x : Int) (μ1 : kx_M), j + r = n → (q_ga s f j = true ∧ x = 1 ∨ q_ga s f j = false ∧ x = 0) → μ1 81 = tw_go s j → AS μ1 s0 → Fr81 μ μ1 → kx_wx (ke (d + 3)) kt_M_goesSo Q 5 [some (kR 77), some (kI y), some (kI n), some (kI x), some (kI j)] [] (kg L) μ1 := by
  intro r
  induction r with
  | zero =>
    intro j x μ1 hj q e A F
    rw [Nat.add_zero] at hj
    subst hj
    refine ks_iload rfl rfl ?_
    refine ks_iload_n rfl rfl ?_
    -- at 8: if ge -> 62 else 11 st [None, None]
    refine ks_icmp_ge rfl ⟨by omega, by omega⟩ ⟨by omega, by omega⟩ (fun c => absurd c (by omega)) (fun c => ?_)
    refine ks_aload_n rfl rfl ?_
    refine ks_callv_1 rfl rfl rfl (Nat.le_of_ble_eq_true rfl) ?_
    -- at 63: call M_takeBack st []
    refine r_takeBack A Z0 (by rw [e]; exact tw_Z_go W Z j) (fun μ3 e3 F3 => ?_)
    show kx_wx _ _ _ _ _ _ _ _
    refine ks_iload_n rfl rfl ?_
    refine ks_zreturn rfl (by omega) ?_
    -- at 67: ret  st [None]
    rcases q with ⟨q1, q2⟩ | ⟨q1, q2⟩
    · rw [q2]; exact t1 q1 _ e3 (Fr81_tr F F3)
    · rw [q2]; exact t0 (by rw [q1]; exact Bool.false_ne_true) _ e3 (Fr81_tr F F3)
  | succ r ih =>
    intro j x μ1 hj q e A F
    obtain ⟨b0, b1⟩ := hi (y + j) (by omega) (by omega)
    rw [← hf] at b0 b1
    have W2 := tw_W_go60 W (n := j + 1) (by omega)
    have w3 : 0 ≤ tw_go s (j + 1) 4 ∧ tw_go s (j + 1) 4 < tw_go s (j + 1) 1 := W2.2.2.1
    have w1 : 1 ≤ tw_go s (j + 1) 1 ∧ tw_go s (j + 1) 1 ≤ 6 := W2.1
    refine ks_iload rfl rfl ?_
    refine ks_iload_n rfl rfl ?_
    -- at 8: if ge -> 62 else 11 st [None, None]
    refine ks_icmp_ge rfl ⟨by omega, by omega⟩ ⟨by omega, by omega⟩ (fun c => ?_) (fun c => absurd c (by omega))
    refine ks_aload_n rfl rfl ?_
    refine ks_callv_1 rfl rfl rfl (Nat.le_of_ble_eq_true rfl) ?_
    -- at 12: call M_oneStep st []
    refine r_oneStep (B := 2000) (by omega) e (tw_W_go60 W (by omega)) ?_
    have e2 : kx_row μ1 81 (tw_step (tw_go s j)) 81 = tw_go s (j + 1) := kx_row_self _ _ _
    have F2 : Fr81 μ1 (kx_row μ1 81 (tw_step (tw_go s j))) := Fr81_row _ _
    generalize kx_row μ1 81 (tw_step (tw_go s j)) = μ2 at *
    have F3 := Fr81_tr F F2
    have ei : μ2 80 (y + j) = f j := by rw [F3 80 (by omega), hf]
    rcases q with ⟨q1, q2⟩ | ⟨q1, q2⟩
    · have qs : q_ga s f (j + 1) = (decide (f j = -1) || decide (f j = tw_go s (j + 1) 4)) := by simp only [q_ga]; rw [q1]; rfl
      subst q2
      show kx_wx _ _ _ _ _ _ _ _
      refine ks_iload_n rfl rfl ?_
      refine ks_if_eq_1 rfl ?_
      refine ks_aload_n rfl rfl ?_
      refine ks_getr (b := 80) rfl rfl rfl rfl (by decide) ?_
      refine ks_iload_n rfl rfl ?_
      refine ks_iload rfl rfl ?_
      refine ks_iadd rfl ?_
      refine ks_iaload rfl rfl (by omega) (by omega) (by (try simp only [kx_up_at, kx_row_at, up1_at, Nat.reduceEqDiff, Int.reduceEq, Int.reduceNeg, and_true, true_and, and_false, false_and, and_self, reduceIte, Nat.add_left_cancel_iff, Nat.add_eq_left, Nat.left_eq_add, Nat.reduceAdd, Int.add_left_inj, Int.add_right_inj, ei, e2]); rfl) ?_
      refine ks_iconst rfl ?_
      -- at 29: if eq -> 50 else 32 st ['-1', None]
      refine ks_icmp_eq rfl ⟨by omega, by omega⟩ ⟨by omega, by omega⟩ (fun c1 => ?_) (fun c1 => ?_)
      · refine ks_iconst rfl ?_
        refine ks_goto rfl ?_
        refine ks_istore_n_3 rfl rfl ?_
        refine ks_iinc_4 rfl rfl ?_
        refine ks_goto rfl ?_
        -- at 5: stop  st []
        exact ih (j + 1) 1 μ2 (by omega) (Or.inl ⟨by rw [qs, decide_eq_true c1]; rfl, rfl⟩) e2 (AS_fr A F2) F3
      · refine ks_aload_n rfl rfl ?_
        refine ks_getr (b := 80) rfl rfl rfl rfl (by decide) ?_
        refine ks_iload_n rfl rfl ?_
        refine ks_iload rfl rfl ?_
        refine ks_iadd rfl ?_
        refine ks_iaload rfl rfl (by omega) (by omega) (by (try simp only [kx_up_at, kx_row_at, up1_at, Nat.reduceEqDiff, Int.reduceEq, Int.reduceNeg, and_true, true_and, and_false, false_and, and_self, reduceIte, Nat.add_left_cancel_iff, Nat.add_eq_left, Nat.left_eq_add, Nat.reduceAdd, Int.add_left_inj, Int.add_right_inj, ei, e2]); rfl) ?_
        refine ks_aload_n rfl rfl ?_
        refine ks_getr (b := 81) rfl rfl rfl rfl (by decide) ?_
        refine ks_iconst rfl ?_
        refine ks_iaload rfl rfl (by omega) (by omega) (by (try simp only [kx_up_at, kx_row_at, up1_at, Nat.reduceEqDiff, Int.reduceEq, Int.reduceNeg, and_true, true_and, and_false, false_and, and_self, reduceIte, Nat.add_left_cancel_iff, Nat.add_eq_left, Nat.left_eq_add, Nat.reduceAdd, Int.add_left_inj, Int.add_right_inj, ei, e2]); rfl) ?_
        -- at 47: if ne -> 54 else 50 st [None, None]
        refine ks_icmp_ne rfl ⟨by omega, by omega⟩ ⟨by omega, by omega⟩ (fun c2 => ?_) (fun c2 => ?_)
        · refine ks_iconst rfl ?_
          refine ks_goto rfl ?_
          refine ks_istore_n_3 rfl rfl ?_
          refine ks_iinc_4 rfl rfl ?_
          refine ks_goto rfl ?_
          -- at 5: stop  st []
          exact ih (j + 1) 1 μ2 (by omega) (Or.inl ⟨by rw [qs, decide_eq_true c2, Bool.or_true], rfl⟩) e2 (AS_fr A F2) F3
        · refine ks_iconst rfl ?_
          refine ks_istore_n_3 rfl rfl ?_
          refine ks_iinc_4 rfl rfl ?_
          refine ks_goto rfl ?_
          -- at 5: stop  st []
          exact ih (j + 1) 0 μ2 (by omega) (Or.inr ⟨by rw [qs, decide_eq_false c1, decide_eq_false c2]; rfl, rfl⟩) e2 (AS_fr A F2) F3
    · subst q2
      show kx_wx _ _ _ _ _ _ _ _
      refine ks_iload_n rfl rfl ?_
      refine ks_if_eq_0 rfl ?_
      refine ks_iconst rfl ?_
      refine ks_istore_n_3 rfl rfl ?_
      refine ks_iinc_4 rfl rfl ?_
      refine ks_goto rfl ?_
      -- at 5: stop  st []
      exact ih (j + 1) 0 μ2 (by omega) (Or.inr ⟨q_ga_no q1 (by omega), rfl⟩) e2 (AS_fr A F2) F3
theorem r_goesSo {y : Int} {n : Nat} {f : Int → Int} (y0 : 0 ≤ y) (y1 : y + n ≤ 320) (n1 : n ≤ 16) (hf : ∀ k, f k = μ 80 (y + k)) (hi : ∀ k, 0 ≤ k → k < 320 → kx_in (μ 80 k)) (hs : μ 81 = s) (A : AS μ s0) (W : tw_W 999 s) (Z : tw_Z s) (Z0 : tw_Z s0) (t1 : q_ga s f n = true → ∀ μ', μ' 81 = s0 → Fr81 μ μ' → Q (some (kI 1)) (kg L) μ') (t0 : ¬ q_ga s f n = true → ∀ μ', μ' 81 = s0 → Fr81 μ μ' → Q (some (kI 0)) (kg L) μ') : kx_cx (ke (d + 4)) 171 [kR 77, kI y, kI n] (kg L) μ Q := by
  refine ke_start (tb := kt_M_goesSo) (ls := [some (kR 77), some (kI y), some (kI n), none, none]) rfl rfl ?_
  refine ks_iconst rfl ?_
  refine ks_istore_n_3 rfl rfl ?_
  refine ks_iconst rfl ?_
  refine ks_istore_4 rfl rfl ?_
  -- at 5: stop  st []
  exact l_goesSo (μ := μ) y0 y1 n1 hf hi W Z Z0 t1 t0 n 0 1 μ (by omega) (Or.inl ⟨rfl, rfl⟩) hs A (fun _ _ => rfl)
theorem r_lacks {r i n : Int} (r0 : 0 ≤ r) (r1 : r ≤ 7) (hi : kx_in i) (n0 : 1 ≤ n) (n1 : n ≤ 16) (hb : -1 ≤ μ 79 r ∧ μ 79 r ≤ 40) (t1 : μ 79 r = -1 → Q (some (kI (-1000011))) (kg L) (kx_up μ 77 3 1)) (t2 : 0 ≤ μ 79 r → ¬ (0 ≤ i ∧ i + n ≤ μ 79 r) → Q (some (kI (-1000012))) (kg L) (kx_up μ 77 3 2)) (t0 : 0 ≤ i → i + n ≤ μ 79 r → Q (some (kI 0)) (kg L) μ) : kx_cx (ke (d + 2)) 170 [kR 77, kI r, kI i, kI n] (kg L) μ Q := by
  refine ke_start (tb := kt_M_lacks) (ls := [some (kR 77), some (kI r), some (kI i), some (kI n)]) rfl rfl ?_
  obtain ⟨_, _⟩ := hi
  refine ks_aload_n rfl rfl ?_
  refine ks_getr (b := 79) rfl rfl rfl rfl (by decide) ?_
  refine ks_iload_n rfl rfl ?_
  refine ks_iaload rfl rfl (by omega) (by omega) (by (try simp only [kx_up_at, kx_row_at, up1_at, Nat.reduceEqDiff, Int.reduceEq, Int.reduceNeg, and_true, true_and, and_false, false_and, and_self, reduceIte, Nat.add_left_cancel_iff, Nat.add_eq_left, Nat.left_eq_add, Nat.reduceAdd, Int.add_left_inj, Int.add_right_inj]); rfl) ?_
  -- at 6: if ge -> 15 else 9 st [None]
  refine ks_if_ge rfl ⟨by omega, by omega⟩ (fun c => ?_) (fun c => ?_)
  · refine ks_aload_n rfl rfl ?_
    refine ks_iconst rfl ?_
    refine ks_callv_2 rfl rfl rfl (Nat.le_of_ble_eq_true rfl) ?_
    -- at 11: call M_find st []
    refine r_find ?_
    show kx_wx _ _ _ _ _ (_ :: _) _ _
    refine ks_ireturn rfl ?_
    -- at 14: ret  st [None]
    exact t1 (by omega)
  · refine ks_iload_n rfl rfl ?_
    refine ks_i2l rfl ⟨by omega, by omega⟩ ?_
    refine ks_lconst rfl ?_
    refine ks_aload_n rfl rfl ?_
    refine ks_getr (b := 79) rfl rfl rfl rfl (by decide) ?_
    refine ks_iload_n rfl rfl ?_
    refine ks_iaload rfl rfl (by omega) (by omega) (by (try simp only [kx_up_at, kx_row_at, up1_at, Nat.reduceEqDiff, Int.reduceEq, Int.reduceNeg, and_true, true_and, and_false, false_and, and_self, reduceIte, Nat.add_left_cancel_iff, Nat.add_eq_left, Nat.left_eq_add, Nat.reduceAdd, Int.add_left_inj, Int.add_right_inj]); rfl) ?_
    refine ks_iload_n rfl rfl ?_
    refine ks_isub rfl ?_
    refine ks_i2l rfl ⟨by omega, by omega⟩ ?_
    refine ks_calls_3 rfl (Nat.le_of_ble_eq_true rfl) ?_
    -- at 27: call M_in st []
    refine r_in ⟨by omega, by omega⟩ ⟨by omega, by omega⟩ ⟨by omega, by omega⟩ (fun c2 => ?_) (fun c2 => ?_)
    · show kx_wx _ _ _ _ _ (_ :: _) _ _
      refine ks_if_eq_1 rfl ?_
      refine ks_iconst rfl ?_
      refine ks_goto rfl ?_
      refine ks_ireturn rfl ?_
      -- at 42: ret  st ['0']
      exact t0 (by omega) (by omega)
    · show kx_wx _ _ _ _ _ (_ :: _) _ _
      refine ks_if_eq_0 rfl ?_
      refine ks_aload_n rfl rfl ?_
      refine ks_iconst rfl ?_
      refine ks_callv_2 rfl rfl rfl (Nat.le_of_ble_eq_true rfl) ?_
      -- at 39: call M_find st []
      refine r_find ?_
      show kx_wx _ _ _ _ _ (_ :: _) _ _
      refine ks_ireturn rfl ?_
      -- at 42: ret  st [None]
      exact t2 (by omega) (by omega)
theorem l_Mseen {l i w : Int} {n : Nat} {f : Int → Int} {X : Int × Int} (hw : kx_in w) (l0 : 0 ≤ l) (l1 : l ≤ 7) (i0 : 0 ≤ i) (i1 : i + n ≤ 40) (n1 : n ≤ 16) (hf : ∀ k, f k = μ 80 (40 * l + i + k)) (hi : ∀ k, 0 ≤ k → k < 320 → kx_in (μ 80 k)) (hs : μ 81 = s) (W : tw_W 999 s) (Z : tw_Z s) (t : ∀ μ', FrQ μ μ' → Q (some (kI (if w = 0 then X.1 else X.2))) (kg L) (kx_up μ' 77 3 0)) : ∀ (r : Nat) (a b : Int) (μ1 : kx_M) (x9 : Option kx_V), r ≤ (s 1).toNat → q_se s f n r a b = X → μ1 81 = s → AS μ1 s → FrI μ μ1 → kx_wx (ke (d + 4)) kt_M_seen Q 81 [some (kR 77), some (kI l), some (kI i), some (kI n), some (kI w), some (kI 0), some (kI a), some (kI b), some (kI (r - 1)), x9] [] (kg L) μ1 := by
  obtain ⟨_, _⟩ := hw
  have w1 := W.1
  intro r
  induction r with
  | zero =>
    intro a b μ1 x9 hr q e A F
    simp only [q_se] at q
    subst q
    refine ks_iload rfl rfl ?_
    -- at 83: if lt -> 140 else 86 st [None]
    refine ks_if_lt rfl ⟨by omega, by omega⟩ (fun c => ?_) (fun c => absurd c (by omega))
    refine ks_aload_n rfl rfl ?_
    refine ks_iload rfl rfl ?_
    -- at 143: if ne -> 151 else 146 st [None, '77']
    refine ks_if_ne rfl ⟨by omega, by omega⟩ (fun c2 => ?_) (fun c2 => ?_)
    · refine ks_iload rfl rfl ?_
      refine ks_goto rfl ?_
      refine ks_callv_2 rfl rfl rfl (Nat.le_of_ble_eq_true rfl) ?_
      -- at 153: call M_well st []
      refine r_well ?_
      show kx_wx _ _ _ _ _ (_ :: _) _ _
      refine ks_ireturn rfl ?_
      -- at 156: ret  st [None]
      simp only [if_pos c2] at t
      exact t _ (FrQ_of F hs e)
    · refine ks_iload rfl rfl ?_
      refine ks_callv_2 rfl rfl rfl (Nat.le_of_ble_eq_true rfl) ?_
      -- at 153: call M_well st []
      refine r_well ?_
      show kx_wx _ _ _ _ _ (_ :: _) _ _
      refine ks_ireturn rfl ?_
      -- at 156: ret  st [None]
      simp only [if_neg c2] at t
      exact t _ (FrQ_of F hs e)
  | succ r ih =>
    intro a b μ1 x9 hr q e A F
    have er : ((r + 1 : Nat) : Int) - 1 = r := by omega
    rw [er]
    rw [q_se] at q
    refine ks_iload rfl rfl ?_
    -- at 83: if lt -> 140 else 86 st [None]
    refine ks_if_lt rfl ⟨by omega, by omega⟩ (fun c => absurd c (by omega)) (fun c => ?_)
    refine ks_aload_n rfl rfl ?_
    refine ks_iload rfl rfl ?_
    refine ks_callv_2 rfl rfl rfl (Nat.le_of_ble_eq_true rfl) ?_
    -- at 89: call M_giveTo st []
    refine r_giveTo ?_
    have e3 : kx_row μ1 81 (up1 (up1 (μ1 81) 4 r) 5 0) 81 = tw_gv s r := by rw [kx_row_self, e]; rfl
    have F3 : Fr81 μ1 (kx_row μ1 81 (up1 (up1 (μ1 81) 4 r) 5 0)) := Fr81_row _ _
    generalize kx_row μ1 81 (up1 (up1 (μ1 81) 4 r) 5 0) = μ3 at *
    show kx_wx _ _ _ _ _ _ _ _
    refine ks_aload_n rfl rfl ?_
    refine ks_bipush rfl ?_
    refine ks_iload_n rfl rfl ?_
    refine ks_imul rfl ?_
    refine ks_iload_n rfl rfl ?_
    refine ks_iadd rfl ?_
    refine ks_iload_n rfl rfl ?_
    refine ks_callv_3 rfl rfl rfl (Nat.le_of_ble_eq_true rfl) ?_
    -- at 100: call M_goesSo st []
    have W3 : tw_W 999 (tw_gv s r) := tw_W_give W (by omega) (by omega)
    have e80 : μ3 80 = μ 80 := by rw [F3 80 (by omega), F 80 (by omega) (by omega) (by omega)]
    refine r_goesSo (f := f) (s0 := s) (by omega) (by omega) n1 (fun k => by rw [e80]; exact hf k) (fun k a b => by rw [e80]; exact hi k a b) e3 (AS_fr A F3) W3 (tw_Z_gv Z) Z (fun D μ4 e4 F4 => ?_) (fun D μ4 e4 F4 => ?_)
    · have F5 := Fr81_tr F3 F4
      rw [if_pos D] at q
      show kx_wx _ _ _ _ _ (_ :: _) _ _
      refine ks_istore_9 rfl rfl ?_
      refine ks_iload rfl rfl ?_
      refine ks_iload rfl rfl ?_
      refine ks_if_eq_1 rfl ?_
      refine ks_iconst rfl ?_
      refine ks_goto rfl ?_
      refine ks_iadd rfl ?_
      refine ks_istore_6 rfl rfl ?_
      refine ks_iload rfl rfl ?_
      refine ks_if_eq_1 rfl ?_
      refine ks_iload rfl rfl ?_
      refine ks_goto rfl ?_
      refine ks_istore_7 rfl rfl ?_
      refine ks_iinc_8 rfl rfl ?_
      refine ks_goto rfl ?_
      -- at 81: stop  st []
      exact ih _ _ μ4 _ (by omega) q e4 (AS_fr A F5) (FrI_81 F F5)
    · have F5 := Fr81_tr F3 F4
      rw [if_neg D] at q
      show kx_wx _ _ _ _ _ (_ :: _) _ _
      refine ks_istore_9 rfl rfl ?_
      refine ks_iload rfl rfl ?_
      refine ks_iload rfl rfl ?_
      refine ks_if_eq_0 rfl ?_
      refine ks_iconst rfl ?_
      refine ks_iadd rfl ?_
      refine ks_istore_6 rfl rfl ?_
      refine ks_iload rfl rfl ?_
      refine ks_if_eq_0 rfl ?_
      refine ks_iload rfl rfl ?_
      refine ks_istore_7 rfl rfl ?_
      refine ks_iinc_8 rfl rfl ?_
      refine ks_goto rfl ?_
      -- at 81: stop  st []
      rw [Int.add_zero]
      exact ih _ _ μ4 _ (by omega) q e4 (AS_fr A F5) (FrI_81 F F5)
theorem r_Mseen {l i n w : Int} (hl : kx_in l) (hii : kx_in i) (hn : kx_in n) (hw : kx_in w) (hs : μ 81 = s) (N : TN s) (I : IT μ s) (hb : ∀ i, 0 ≤ i → i < 8 → -1 ≤ μ 79 i ∧ μ 79 i ≤ 40) (hi : ∀ k, 0 ≤ k → k < 320 → kx_in (μ 80 k)) (t0 : s 1 = 0 → Q (some (kI (-1000002))) (kg L) μ) (t1 : 1 ≤ s 1 → ¬ ((0 ≤ l ∧ l ≤ 7) ∧ (1 ≤ n ∧ n ≤ 16) ∧ (0 ≤ w ∧ w ≤ 1)) → Q (some (kI (-1000001))) (kg L) μ) (t3 : 1 ≤ s 1 → (0 ≤ l ∧ l ≤ 7) → (1 ≤ n ∧ n ≤ 16) → (0 ≤ w ∧ w ≤ 1) → μ 79 l = -1 → Q (some (kI (-1000011))) (kg L) (kx_up μ 77 3 1)) (t4 : 1 ≤ s 1 → (0 ≤ l ∧ l ≤ 7) → (1 ≤ n ∧ n ≤ 16) → (0 ≤ w ∧ w ≤ 1) → 0 ≤ μ 79 l → ¬ (0 ≤ i ∧ i + n ≤ μ 79 l) → Q (some (kI (-1000012))) (kg L) (kx_up μ 77 3 2)) (t2 : 1 ≤ s 1 → (0 ≤ l ∧ l ≤ 7) → (1 ≤ n ∧ n ≤ 16) → (0 ≤ w ∧ w ≤ 1) → 0 ≤ i → i + n ≤ μ 79 l → ∀ μ', FrQ μ μ' → Q (some (kI (if w = 0 then (q_se s (fun k => μ 80 (40 * l + i + k)) n.toNat (s 1).toNat 0 (-1000000)).1 else (q_se s (fun k => μ 80 (40 * l + i + k)) n.toNat (s 1).toNat 0 (-1000000)).2))) (kg L) (kx_up μ' 77 3 0)) : kx_cx (ke (d + 5)) 172 [kR 77, kI l, kI i, kI n, kI w] (kg L) μ Q := by
  refine ke_start (tb := kt_M_seen) (ls := [some (kR 77), some (kI l), some (kI i), some (kI n), some (kI w), none, none, none, none, none]) rfl rfl ?_
  obtain ⟨i0, i1, i2, i3⟩ := IT_in I
  have hw0 := hw
  obtain ⟨_, _⟩ := hw
  obtain ⟨_, _⟩ := hn
  refine ks_aload_n rfl rfl ?_
  refine ks_geti rfl rfl rfl rfl (by (try simp only [kx_up_at, kx_row_at, up1_at, Nat.reduceEqDiff, Int.reduceEq, Int.reduceNeg, and_true, true_and, and_false, false_and, and_self, reduceIte, Nat.add_left_cancel_iff, Nat.add_eq_left, Nat.left_eq_add, Nat.reduceAdd, Int.add_left_inj, Int.add_right_inj]); rfl) ?_
  -- at 4: if ne -> 10 else 7 st [None]
  refine ks_if_ne rfl ⟨by omega, by omega⟩ (fun c => ?_) (fun c => ?_)
  · refine ks_ldc rfl ?_
    refine ks_ireturn rfl ?_
    -- at 9: ret  st ['-1000002']
    exact t0 (by omega)
  · refine ks_iload_n rfl rfl ?_
    refine ks_calls_1 rfl (Nat.le_of_ble_eq_true rfl) ?_
    -- at 11: call M_isRow st []
    refine r_MisRow hl (fun c2 => ?_) (fun c2 => ?_)
    · show kx_wx _ _ _ _ _ (_ :: _) _ _
      refine ks_if_eq_1 rfl ?_
      refine ks_iload_n rfl rfl ?_
      refine ks_i2l rfl ⟨by omega, by omega⟩ ?_
      refine ks_lconst rfl ?_
      refine ks_ldc2_w rfl ?_
      refine ks_calls_3 rfl (Nat.le_of_ble_eq_true rfl) ?_
      -- at 23: call M_in st []
      refine r_in ⟨by omega, by omega⟩ ⟨by omega, by omega⟩ ⟨by omega, by omega⟩ (fun c3 => ?_) (fun c3 => ?_)
      · show kx_wx _ _ _ _ _ (_ :: _) _ _
        refine ks_if_eq_1 rfl ?_
        refine ks_iload rfl rfl ?_
        refine ks_i2l rfl ⟨by omega, by omega⟩ ?_
        refine ks_lconst rfl ?_
        refine ks_lconst rfl ?_
        refine ks_calls_3 rfl (Nat.le_of_ble_eq_true rfl) ?_
        -- at 34: call M_in st []
        refine r_in ⟨by omega, by omega⟩ ⟨by omega, by omega⟩ ⟨by omega, by omega⟩ (fun c4 => ?_) (fun c4 => ?_)
        · show kx_wx _ _ _ _ _ (_ :: _) _ _
          refine ks_if_ne_1 rfl ?_
          refine ks_aload_n rfl rfl ?_
          refine ks_iload_n rfl rfl ?_
          refine ks_iload_n rfl rfl ?_
          refine ks_iload_n rfl rfl ?_
          refine ks_callv_4 rfl rfl rfl (Nat.le_of_ble_eq_true rfl) ?_
          -- at 47: call M_lacks st []
          have hbl := hb l c2.1 (by omega)
          obtain ⟨W, Z⟩ := TN_W N (by omega)
          have w1 := W.1
          refine r_lacks c2.1 c2.2 hii c3.1 c3.2 hbl (fun q => ?_) (fun q1 q2 => ?_) (fun q1 q2 => ?_)
          · show kx_wx _ _ _ _ _ (_ :: _) _ _
            refine ks_istore_5 rfl rfl ?_
            refine ks_iload rfl rfl ?_
            -- at 54: if ge -> 60 else 57 st [None]
            refine ks_if_ge rfl ⟨by omega, by omega⟩ (fun c5 => ?_) (fun c5 => absurd c5 (by omega))
            refine ks_iload rfl rfl ?_
            refine ks_ireturn rfl ?_
            -- at 59: ret  st [None]
            exact t3 (by omega) c2 c3 c4 q
          · show kx_wx _ _ _ _ _ (_ :: _) _ _
            refine ks_istore_5 rfl rfl ?_
            refine ks_iload rfl rfl ?_
            -- at 54: if ge -> 60 else 57 st [None]
            refine ks_if_ge rfl ⟨by omega, by omega⟩ (fun c5 => ?_) (fun c5 => absurd c5 (by omega))
            refine ks_iload rfl rfl ?_
            refine ks_ireturn rfl ?_
            -- at 59: ret  st [None]
            exact t4 (by omega) c2 c3 c4 q1 q2
          · have ev : n = (n.toNat : Int) := by omega
            generalize n.toNat = m at *
            subst ev
            show kx_wx _ _ _ _ _ (_ :: _) _ _
            refine ks_istore_5 rfl rfl ?_
            refine ks_iload rfl rfl ?_
            -- at 54: if ge -> 60 else 57 st [None]
            refine ks_if_ge rfl ⟨by omega, by omega⟩ (fun c5 => absurd c5 (by omega)) (fun c5 => ?_)
            refine ks_aload_n rfl rfl ?_
            refine ks_callv_1 rfl rfl rfl (Nat.le_of_ble_eq_true rfl) ?_
            -- at 61: call M_putAside st []
            refine r_putAside hs (fun μ1 A1 e1 F1 => ?_)
            show kx_wx _ _ _ _ _ _ _ _
            refine ks_iconst rfl ?_
            refine ks_istore_6 rfl rfl ?_
            refine ks_ldc rfl ?_
            refine ks_istore_7 rfl rfl ?_
            refine ks_aload_n rfl rfl ?_
            refine ks_getr (b := 81) rfl rfl rfl rfl (by decide) ?_
            refine ks_iconst rfl ?_
            refine ks_iaload rfl rfl (by omega) (by omega) (by (try simp only [kx_up_at, kx_row_at, up1_at, Nat.reduceEqDiff, Int.reduceEq, Int.reduceNeg, and_true, true_and, and_false, false_and, and_self, reduceIte, Nat.add_left_cancel_iff, Nat.add_eq_left, Nat.left_eq_add, Nat.reduceAdd, Int.add_left_inj, Int.add_right_inj, e1]); rfl) ?_
            refine ks_iconst rfl ?_
            refine ks_isub rfl ?_
            refine ks_istore_8 rfl rfl ?_
            -- at 81: stop  st []
            have := l_Mseen (d := d) (f := fun k => μ 80 (40 * l + i + k)) hw0 c2.1 c2.2 q1 (by omega) (by omega) (fun _ => rfl) hi hs W Z (t2 (by omega) c2 c3 c4 q1 q2) (s 1).toNat 0 (-1000000) μ1 none (Nat.le_refl _) rfl e1 A1 F1
            rw [show ((s 1).toNat : Int) - 1 = s 1 - 1 by omega] at this
            exact this
        · show kx_wx _ _ _ _ _ (_ :: _) _ _
          refine ks_if_ne_0 rfl ?_
          refine ks_ldc rfl ?_
          refine ks_ireturn rfl ?_
          -- at 42: ret  st ['-1000001']
          exact t1 (by omega) (fun q => c4 q.2.2)
      · show kx_wx _ _ _ _ _ (_ :: _) _ _
        refine ks_if_eq_0 rfl ?_
        refine ks_ldc rfl ?_
        refine ks_ireturn rfl ?_
        -- at 42: ret  st ['-1000001']
        exact t1 (by omega) (fun q => c3 q.2.1)
    · show kx_wx _ _ _ _ _ (_ :: _) _ _
      refine ks_if_eq_0 rfl ?_
      refine ks_ldc rfl ?_
      refine ks_ireturn rfl ?_
      -- at 42: ret  st ['-1000001']
      exact t1 (by omega) (fun q => c2 q.1)
end MG
end
section
/-! foretold, the reference: keeps, round, lot; and lots of the class -/
theorem kx_or_64 {a b : Int} (a0 : 0 ≤ a) (a1 : a < 64) (b0 : 0 ≤ b) (b1 : b < 64) : 0 ≤ kx_or a b ∧ kx_or a b < 64 := by
  obtain ⟨m, rfl⟩ := Int.eq_ofNat_of_zero_le a0
  obtain ⟨n, rfl⟩ := Int.eq_ofNat_of_zero_le b0
  have h : m ||| n < 2 ^ 6 := Nat.or_lt_two_pow (by omega) (by omega)
  have e : kx_or (m : Int) (n : Int) = (BitVec.ofInt 32 (m : Int) ||| BitVec.ofInt 32 (n : Int)).toInt := rfl
  rw [e]
  have e1 : (BitVec.ofInt 32 (m : Int)).toNat = m := by rw [BitVec.toNat_ofInt]; omega
  have e2 : (BitVec.ofInt 32 (n : Int)).toNat = n := by rw [BitVec.toNat_ofInt]; omega
  have e3 : (BitVec.ofInt 32 (m : Int) ||| BitVec.ofInt 32 (n : Int)).toNat = m ||| n := by rw [BitVec.toNat_or, e1, e2]
  rw [BitVec.toInt_eq_toNat_of_lt (by rw [e3]; omega), e3]
  omega
theorem q_wi_in {s : Int → Int} {h : Int} {n : Nat} : ∀ (r : Nat) (w a : Int), 0 ≤ w → w + r ≤ 6 → 0 ≤ a → a < 64 → 0 ≤ q_wi s h n r w a ∧ q_wi s h n r w a < 64 := by
  intro r
  induction r with
  | zero => intro w a _ _ a0 a1; exact ⟨a0, a1⟩
  | succ r ih =>
    intro w a w0 w1 a0 a1
    rw [q_wi]
    have hp : 0 ≤ (if tw_go (up1 s 0 w) n 4 = h then 1 * 2 ^ w.toNat else (0 : Int)) ∧ (if tw_go (up1 s 0 w) n 4 = h then 1 * 2 ^ w.toNat else (0 : Int)) < 64 := by
      split
      · have hc : w = 0 ∨ w = 1 ∨ w = 2 ∨ w = 3 ∨ w = 4 ∨ w = 5 := by omega
        rcases hc with e | e | e | e | e | e <;> subst e <;> decide
      · omega
    have := kx_or_64 a0 a1 hp.1 hp.2
    exact ih (w + 1) _ (by omega) (by omega) this.1 this.2
def q_pc (x : Int) : Int := x % 2 + x / 2 % 2 + x / 4 % 2 + x / 8 % 2 + x / 16 % 2 + x / 32 % 2
theorem q_pc_and {x : Int} (h0 : 1 ≤ x) (h1 : x < 64) : 0 ≤ kx_and x (x - 1) ∧ kx_and x (x - 1) < x ∧ q_pc (kx_and x (x - 1)) + 1 = q_pc x := by
  have key : ∀ i : Nat, i < 63 → 0 ≤ kx_and ((i : Int) + 1) ((i : Int) + 1 - 1) ∧ kx_and ((i : Int) + 1) ((i : Int) + 1 - 1) < (i : Int) + 1 ∧ q_pc (kx_and ((i : Int) + 1) ((i : Int) + 1 - 1)) + 1 = q_pc ((i : Int) + 1) := by decide +kernel
  have := key (x - 1).toNat (by omega)
  rw [show (((x - 1).toNat : Nat) : Int) + 1 = x by omega] at this
  exact this
theorem q_pc_in {x : Int} (h0 : 0 ≤ x) (h1 : x < 64) : 0 ≤ q_pc x ∧ q_pc x ≤ 6 := by unfold q_pc; omega
def bc1 (x : Int) : Int := x - kx_and (x / 2 ^ (1 : Int).toNat) 1431655765
def bc2 (y : Int) : Int := kx_and y 858993459 + kx_and (y / 2 ^ (2 : Int).toNat) 858993459
def bc3 (y : Int) : Int := kx_and (y + y / 2 ^ (4 : Int).toNat) 252645135
def bc4 (y : Int) : Int := y + y / 2 ^ (8 : Int).toNat
def bc5 (y : Int) : Int := y + y / 2 ^ (16 : Int).toNat
theorem bc_all {x : Int} (h0 : 0 ≤ x) (h1 : x < 64) : (0 ≤ bc1 x ∧ bc1 x ≤ 1000) ∧ (0 ≤ bc2 (bc1 x) ∧ bc2 (bc1 x) ≤ 1000) ∧ (0 ≤ bc3 (bc2 (bc1 x)) ∧ bc3 (bc2 (bc1 x)) ≤ 1000) ∧ (0 ≤ bc4 (bc3 (bc2 (bc1 x))) ∧ bc4 (bc3 (bc2 (bc1 x))) ≤ 1000) ∧ kx_and (bc5 (bc4 (bc3 (bc2 (bc1 x))))) 63 = q_pc x := by
  have key : ∀ i : Nat, i < 64 → (0 ≤ bc1 i ∧ bc1 i ≤ 1000) ∧ (0 ≤ bc2 (bc1 i) ∧ bc2 (bc1 i) ≤ 1000) ∧ (0 ≤ bc3 (bc2 (bc1 i)) ∧ bc3 (bc2 (bc1 i)) ≤ 1000) ∧ (0 ≤ bc4 (bc3 (bc2 (bc1 i))) ∧ bc4 (bc3 (bc2 (bc1 i))) ≤ 1000) ∧ kx_and (bc5 (bc4 (bc3 (bc2 (bc1 i))))) 63 = q_pc i := by decide +kernel
  have := key x.toNat (by omega)
  rw [show ((x.toNat : Nat) : Int) = x by omega] at this
  exact this
def q_g (a : Int) : Int := if a = 0 then 6 else if a % 6 = 0 then 6 else if a % 3 = 0 then 3 else if a % 2 = 0 then 2 else 1
def wy (s : Int → Int) (i : Nat) (c : Int) : Int := if c = 0 then tw_go s i 4 else if c = 1 then tw_go s i 5 else if c - 2 < s 2 then tw_go s i (32 + c) else 0
theorem tw_mk_eq {B C : Int} {s t : Int → Int} (W : tw_W B s) (V : tw_W C t) (e : s 2 = t 2) : ∀ n : Nat, n ≤ (s 2).toNat → (tw_mk s n = tw_mk t n ↔ (s 4 = t 4 ∧ s 5 = t 5 ∧ ∀ k : Nat, k < n → s (34 + k) = t (34 + k))) := by
  obtain ⟨w1, w2, w3, w4, w5, w6, w7, w8⟩ := W
  obtain ⟨v1, v2, v3, v4, v5, v6, v7, v8⟩ := V
  intro n
  induction n with
  | zero =>
    intro _
    simp only [tw_mk]
    constructor
    · intro h; exact ⟨by omega, by omega, fun k hk => absurd hk (by omega)⟩
    · intro h; omega
  | succ n ih =>
    intro hn
    have i1 := ih (by omega)
    have q1 := w8 n (by omega) (by omega)
    have q2 := v8 n (by omega) (by omega)
    simp only [tw_mk]
    constructor
    · intro h
      have a1 : tw_mk s n = tw_mk t n := by omega
      have a2 : s (34 + n) = t (34 + n) := by omega
      obtain ⟨b1, b2, b3⟩ := i1.mp a1
      refine ⟨b1, b2, fun k hk => ?_⟩
      by_cases ek : k = n
      · subst ek; exact a2
      · exact b3 k (by omega)
    · intro h
      have a1 := i1.mpr ⟨h.1, h.2.1, fun k hk => h.2.2 k (by omega)⟩
      have a2 := h.2.2 n (by omega)
      omega
theorem wy_mk {s : Int → Int} (W : tw_W 999 s) (a b : Nat) : (∀ c, 0 ≤ c → c < 6 → wy s a c = wy s b c) ↔ q_mk s a = q_mk s b := by
  have ea := (tw_go_12 W a).2
  have eb := (tw_go_12 W b).2
  have w2 := W.2.1
  have key := tw_mk_eq (tw_W_go W a) (tw_W_go W b) (by omega) (s 2).toNat (by omega)
  unfold q_mk
  rw [key]
  constructor
  · intro h
    refine ⟨h 0 (by omega) (by omega), h 1 (by omega) (by omega), fun k hk => ?_⟩
    have := h (2 + k) (by omega) (by omega)
    unfold wy at this
    rw [if_neg (by omega), if_neg (by omega), if_pos (by omega), if_neg (by omega), if_neg (by omega), if_pos (by omega), show (32 : Int) + (2 + k) = 34 + k by omega] at this
    exact this
  · intro h c c0 c1
    unfold wy
    by_cases e0 : c = 0
    · rw [if_pos e0, if_pos e0]; exact h.1
    · rw [if_neg e0, if_neg e0]
      by_cases e1 : c = 1
      · rw [if_pos e1, if_pos e1]; exact h.2.1
      · rw [if_neg e1, if_neg e1]
        by_cases e2 : c - 2 < s 2
        · rw [if_pos e2, if_pos e2]
          have := h.2.2 (c - 2).toNat (by omega)
          rw [show (34 : Int) + ((c - 2).toNat : Int) = 32 + c by omega] at this
          exact this
        · rw [if_neg e2, if_neg e2]
section MH
variable {d L : Nat} {G : kx_G} {μ : kx_M} {Q : Option kx_V → kx_G → kx_M → Prop} {s s0 : Int → Int} {z v : Int}
theorem l_Mkeeps {h l i X : Int} {n : Nat} {f : Int → Int} (h0 : 0 ≤ h) (h1 : h < s 1) (l0 : 0 ≤ l) (l1 : l ≤ 7) (i0 : 0 ≤ i) (i1 : i + n ≤ 40) (n1 : n ≤ 16) (hf : ∀ k, f k = μ 80 (40 * l + i + k)) (hi : ∀ k, 0 ≤ k → k < 320 → kx_in (μ 80 k)) (hs : μ 81 = s) (W : tw_W 999 s) (Z : tw_Z s) (t : ∀ μ', FrQ μ μ' → Q (some (kI X)) (kg L) (kx_up μ' 77 3 0)) : ∀ (r j : Nat) (a : Int) (μ1 : kx_M), j + r = 10 → 1 ≤ j → q_ke s f h n r j a = X → μ1 81 = s → AS μ1 s → FrI μ μ1 → kx_wx (ke (d + 4)) kt_M_keeps Q 59 [some (kR 77), some (kI h), some (kI l), some (kI i), some (kI n), some (kI 0), some (kI a), some (kI j)] [] (kg L) μ1 := by
  have w1 := W.1
  intro r
  induction r with
  | zero =>
    intro j a μ1 hj j1 q e A F
    simp only [q_ke] at q
    subst q
    refine ks_iload rfl rfl ?_
    refine ks_bipush rfl ?_
    -- at 63: if gt -> 113 else 66 st ['9', None]
    refine ks_icmp_gt rfl ⟨by omega, by omega⟩ ⟨by omega, by omega⟩ (fun c => ?_) (fun c => absurd c (by omega))
    refine ks_aload_n rfl rfl ?_
    refine ks_iload rfl rfl ?_
    refine ks_callv_2 rfl rfl rfl (Nat.le_of_ble_eq_true rfl) ?_
    -- at 116: call M_well st []
    refine r_well ?_
    show kx_wx _ _ _ _ _ (_ :: _) _ _
    refine ks_ireturn rfl ?_
    -- at 119: ret  st [None]
    exact t _ (FrQ_of F hs e)
  | succ r ih =>
    intro j a μ1 hj j1 q e A F
    rw [q_ke] at q
    refine ks_iload rfl rfl ?_
    refine ks_bipush rfl ?_
    -- at 63: if gt -> 113 else 66 st ['9', None]
    refine ks_icmp_gt rfl ⟨by omega, by omega⟩ ⟨by omega, by omega⟩ (fun c => absurd c (by omega)) (fun c => ?_)
    refine ks_aload_n rfl rfl ?_
    refine ks_getr (b := 81) rfl rfl rfl rfl (by decide) ?_
    refine ks_bipush rfl ?_
    refine ks_iload_n rfl rfl ?_
    refine ks_iadd rfl ?_
    refine ks_iload rfl rfl ?_
    refine ks_iastore rfl rfl (by omega) (by omega) ?_
    refine ks_iload rfl rfl ?_
    refine ks_aload_n rfl rfl ?_
    refine ks_bipush rfl ?_
    refine ks_iload_n rfl rfl ?_
    refine ks_imul rfl ?_
    refine ks_iload_n rfl rfl ?_
    refine ks_iadd rfl ?_
    refine ks_iload rfl rfl ?_
    refine ks_callv_3 rfl rfl rfl (Nat.le_of_ble_eq_true rfl) ?_
    -- at 88: call M_goesSo st [None]
    have e3 : kx_up μ1 81 (12 + h) j 81 = up1 s (12 + h) j := by rw [kx_up_up1, kx_row_self, e]
    have F3 : Fr81 μ1 (kx_up μ1 81 (12 + h) j) := fun c hc => kx_up_row hc
    generalize kx_up μ1 81 (12 + h) j = μ3 at *
    have W3 : tw_W 999 (up1 s (12 + h) j) := tw_W_keep W h0 h1 (by omega) (by omega)
    have e80 : μ3 80 = μ 80 := by rw [F3 80 (by omega), F 80 (by omega) (by omega) (by omega)]
    refine r_goesSo (f := f) (s0 := s) (by omega) (by omega) n1 (fun k => by rw [e80]; exact hf k) (fun k a b => by rw [e80]; exact hi k a b) e3 (AS_fr A F3) W3 (tw_Z_up Z (by omega)) Z (fun D μ4 e4 F4 => ?_) (fun D μ4 e4 F4 => ?_)
    · have F5 := Fr81_tr F3 F4
      rw [if_pos D] at q
      show kx_wx _ _ _ _ _ (_ :: _) _ _
      refine ks_if_eq_1 rfl ?_
      refine ks_iconst rfl ?_
      refine ks_iload rfl rfl ?_
      refine ks_iconst rfl ?_
      refine ks_isub rfl ?_
      refine ks_ishl rfl (by omega) (by omega) ?_
      refine ks_goto rfl ?_
      refine ks_ior rfl ?_
      refine ks_istore_6 rfl rfl ?_
      refine ks_iinc_7 rfl rfl ?_
      refine ks_goto rfl ?_
      -- at 59: stop  st []
      exact ih (j + 1) _ μ4 (by omega) (by omega) q e4 (AS_fr A F5) (FrI_81 F F5)
    · have F5 := Fr81_tr F3 F4
      rw [if_neg D] at q
      show kx_wx _ _ _ _ _ (_ :: _) _ _
      refine ks_if_eq_0 rfl ?_
      refine ks_iconst rfl ?_
      refine ks_ior rfl ?_
      refine ks_istore_6 rfl rfl ?_
      refine ks_iinc_7 rfl rfl ?_
      refine ks_goto rfl ?_
      -- at 59: stop  st []
      exact ih (j + 1) _ μ4 (by omega) (by omega) q e4 (AS_fr A F5) (FrI_81 F F5)
theorem r_Mkeeps {h l i n : Int} (hh : kx_in h) (hl : kx_in l) (hii : kx_in i) (hn : kx_in n) (hs : μ 81 = s) (N : TN s) (hb : ∀ i, 0 ≤ i → i < 8 → -1 ≤ μ 79 i ∧ μ 79 i ≤ 40) (hi : ∀ k, 0 ≤ k → k < 320 → kx_in (μ 80 k)) (t1 : ¬ ((0 ≤ h ∧ h < s 1) ∧ (0 ≤ l ∧ l ≤ 7) ∧ (1 ≤ n ∧ n ≤ 16)) → Q (some (kI (-1000001))) (kg L) μ) (t3 : (0 ≤ h ∧ h < s 1) → (0 ≤ l ∧ l ≤ 7) → (1 ≤ n ∧ n ≤ 16) → μ 79 l = -1 → Q (some (kI (-1000011))) (kg L) (kx_up μ 77 3 1)) (t4 : (0 ≤ h ∧ h < s 1) → (0 ≤ l ∧ l ≤ 7) → (1 ≤ n ∧ n ≤ 16) → 0 ≤ μ 79 l → ¬ (0 ≤ i ∧ i + n ≤ μ 79 l) → Q (some (kI (-1000012))) (kg L) (kx_up μ 77 3 2)) (t2 : (0 ≤ h ∧ h < s 1) → (0 ≤ l ∧ l ≤ 7) → (1 ≤ n ∧ n ≤ 16) → 0 ≤ i → i + n ≤ μ 79 l → ∀ μ', FrQ μ μ' → Q (some (kI (q_ke s (fun k => μ 80 (40 * l + i + k)) h n.toNat 9 1 0))) (kg L) (kx_up μ' 77 3 0)) : kx_cx (ke (d + 5)) 173 [kR 77, kI h, kI l, kI i, kI n] (kg L) μ Q := by
  refine ke_start (tb := kt_M_keeps) (ls := [some (kR 77), some (kI h), some (kI l), some (kI i), some (kI n), none, none, none]) rfl rfl ?_
  obtain ⟨n1, n2, n3⟩ := TN_in N
  obtain ⟨_, _⟩ := hn
  refine ks_aload_n rfl rfl ?_
  refine ks_iload_n rfl rfl ?_
  refine ks_callv_2 rfl rfl rfl (Nat.le_of_ble_eq_true rfl) ?_
  -- at 2: call M_isHead st []
  refine r_isHead hh (by rw [hs]; exact ⟨by omega, by omega⟩) (fun c => ?_) (fun c => ?_)
  · rw [hs] at c
    show kx_wx _ _ _ _ _ (_ :: _) _ _
    refine ks_if_eq_1 rfl ?_
    refine ks_iload_n rfl rfl ?_
    refine ks_calls_1 rfl (Nat.le_of_ble_eq_true rfl) ?_
    -- at 9: call M_isRow st []
    refine r_MisRow hl (fun c2 => ?_) (fun c2 => ?_)
    · show kx_wx _ _ _ _ _ (_ :: _) _ _
      refine ks_if_eq_1 rfl ?_
      refine ks_iload rfl rfl ?_
      refine ks_i2l rfl ⟨by omega, by omega⟩ ?_
      refine ks_lconst rfl ?_
      refine ks_ldc2_w rfl ?_
      refine ks_calls_3 rfl (Nat.le_of_ble_eq_true rfl) ?_
      -- at 22: call M_in st []
      refine r_in ⟨by omega, by omega⟩ ⟨by omega, by omega⟩ ⟨by omega, by omega⟩ (fun c3 => ?_) (fun c3 => ?_)
      · show kx_wx _ _ _ _ _ (_ :: _) _ _
        refine ks_if_ne_1 rfl ?_
        refine ks_aload_n rfl rfl ?_
        refine ks_iload_n rfl rfl ?_
        refine ks_iload_n rfl rfl ?_
        refine ks_iload rfl rfl ?_
        refine ks_callv_4 rfl rfl rfl (Nat.le_of_ble_eq_true rfl) ?_
        -- at 36: call M_lacks st []
        have hbl := hb l c2.1 (by omega)
        obtain ⟨W, Z⟩ := TN_W N (by omega)
        refine r_lacks c2.1 c2.2 hii c3.1 c3.2 hbl (fun q => ?_) (fun q1 q2 => ?_) (fun q1 q2 => ?_)
        · show kx_wx _ _ _ _ _ (_ :: _) _ _
          refine ks_istore_5 rfl rfl ?_
          refine ks_iload rfl rfl ?_
          -- at 43: if ge -> 49 else 46 st [None]
          refine ks_if_ge rfl ⟨by omega, by omega⟩ (fun c5 => ?_) (fun c5 => absurd c5 (by omega))
          refine ks_iload rfl rfl ?_
          refine ks_ireturn rfl ?_
          -- at 48: ret  st [None]
          exact t3 c c2 c3 q
        · show kx_wx _ _ _ _ _ (_ :: _) _ _
          refine ks_istore_5 rfl rfl ?_
          refine ks_iload rfl rfl ?_
          -- at 43: if ge -> 49 else 46 st [None]
          refine ks_if_ge rfl ⟨by omega, by omega⟩ (fun c5 => ?_) (fun c5 => absurd c5 (by omega))
          refine ks_iload rfl rfl ?_
          refine ks_ireturn rfl ?_
          -- at 48: ret  st [None]
          exact t4 c c2 c3 q1 q2
        · have ev : n = (n.toNat : Int) := by omega
          generalize n.toNat = m at *
          subst ev
          show kx_wx _ _ _ _ _ (_ :: _) _ _
          refine ks_istore_5 rfl rfl ?_
          refine ks_iload rfl rfl ?_
          -- at 43: if ge -> 49 else 46 st [None]
          refine ks_if_ge rfl ⟨by omega, by omega⟩ (fun c5 => absurd c5 (by omega)) (fun c5 => ?_)
          refine ks_aload_n rfl rfl ?_
          refine ks_callv_1 rfl rfl rfl (Nat.le_of_ble_eq_true rfl) ?_
          -- at 50: call M_putAside st []
          refine r_putAside hs (fun μ1 A1 e1 F1 => ?_)
          show kx_wx _ _ _ _ _ _ _ _
          refine ks_iconst rfl ?_
          refine ks_istore_6 rfl rfl ?_
          refine ks_iconst rfl ?_
          refine ks_istore_7 rfl rfl ?_
          -- at 59: stop  st []
          exact l_Mkeeps (d := d) (f := fun k => μ 80 (40 * l + i + k)) (X := q_ke s (fun k => μ 80 (40 * l + i + k)) h m 9 1 0) c.1 c.2 c2.1 c2.2 q1 (by omega) (by omega) (fun _ => rfl) hi hs W Z (t2 c c2 c3 q1 q2) 9 1 0 μ1 (by omega) (by omega) rfl e1 A1 F1
      · show kx_wx _ _ _ _ _ (_ :: _) _ _
        refine ks_if_ne_0 rfl ?_
        refine ks_ldc rfl ?_
        refine ks_ireturn rfl ?_
        -- at 30: ret  st ['-1000001']
        exact t1 (fun q => c3 q.2.2)
    · show kx_wx _ _ _ _ _ (_ :: _) _ _
      refine ks_if_eq_0 rfl ?_
      refine ks_ldc rfl ?_
      refine ks_ireturn rfl ?_
      -- at 30: ret  st ['-1000001']
      exact t1 (fun q => c2 q.2.1)
  · rw [hs] at c
    show kx_wx _ _ _ _ _ (_ :: _) _ _
    refine ks_if_eq_0 rfl ?_
    refine ks_ldc rfl ?_
    refine ks_ireturn rfl ?_
    -- at 30: ret  st ['-1000001']
    exact t1 (fun q => c q.1)
theorem l_isAlike {a b : Nat} (ha : a ≤ 60) (hb : b ≤ 60) (hi : ∀ k, 0 ≤ k → k < 366 → kx_in (μ 87 k)) (t1 : (∀ c, 0 ≤ c → c < 6 → μ 87 (6 * a + c) = μ 87 (6 * b + c)) → Q (some (kI 1)) (kg L) μ) (t0 : ¬ (∀ c, 0 ≤ c → c < 6 → μ 87 (6 * a + c) = μ 87 (6 * b + c)) → Q (some (kI 0)) (kg L) μ) : ∀ (r j : Nat) (x : Int), j + r = 6 → (x = 1 ∧ (∀ c : Int, 0 ≤ c → c < j → μ 87 (6 * a + c) = μ 87 (6 * b + c)) ∨ x = 0 ∧ ¬ (∀ c, 0 ≤ c → c < 6 → μ 87 (6 * a + c) = μ 87 (6 * b + c))) → kx_wx (ke d) kt_M_isAlike Q 5 [some (kR 77), some (kI a), some (kI b), some (kI x), some (kI j)] [] (kg L) μ := by
  intro r
  induction r with
  | zero =>
    intro j x hj q
    refine ks_iload rfl rfl ?_
    refine ks_bipush rfl ?_
    -- at 9: if ge -> 55 else 12 st ['6', None]
    refine ks_icmp_ge rfl ⟨by omega, by omega⟩ ⟨by omega, by omega⟩ (fun c => absurd c (by omega)) (fun c => ?_)
    refine ks_iload_n rfl rfl ?_
    refine ks_zreturn rfl (by omega) ?_
    -- at 56: ret  st [None]
    rcases q with ⟨q1, q2⟩ | ⟨q1, q2⟩
    · subst q1; exact t1 (fun c c0 c1 => q2 c c0 (by omega))
    · subst q1; exact t0 q2
  | succ r ih =>
    intro j x hj q
    obtain ⟨_, _⟩ := hi (6 * a + j) (by omega) (by omega)
    obtain ⟨_, _⟩ := hi (6 * b + j) (by omega) (by omega)
    refine ks_iload rfl rfl ?_
    refine ks_bipush rfl ?_
    -- at 9: if ge -> 55 else 12 st ['6', None]
    refine ks_icmp_ge rfl ⟨by omega, by omega⟩ ⟨by omega, by omega⟩ (fun c => ?_) (fun c => absurd c (by omega))
    rcases q with ⟨q1, q2⟩ | ⟨q1, q2⟩
    · subst q1
      refine ks_iload_n rfl rfl ?_
      refine ks_if_eq_1 rfl ?_
      refine ks_aload_n rfl rfl ?_
      refine ks_getr (b := 87) rfl rfl rfl rfl (by decide) ?_
      refine ks_bipush rfl ?_
      refine ks_iload_n rfl rfl ?_
      refine ks_imul rfl ?_
      refine ks_iload rfl rfl ?_
      refine ks_iadd rfl ?_
      refine ks_iaload rfl rfl (by omega) (by omega) (by (try simp only [kx_up_at, kx_row_at, up1_at, Nat.reduceEqDiff, Int.reduceEq, Int.reduceNeg, and_true, true_and, and_false, false_and, and_self, reduceIte, Nat.add_left_cancel_iff, Nat.add_eq_left, Nat.left_eq_add, Nat.reduceAdd, Int.add_left_inj, Int.add_right_inj]); rfl) ?_
      refine ks_aload_n rfl rfl ?_
      refine ks_getr (b := 87) rfl rfl rfl rfl (by decide) ?_
      refine ks_bipush rfl ?_
      refine ks_iload_n rfl rfl ?_
      refine ks_imul rfl ?_
      refine ks_iload rfl rfl ?_
      refine ks_iadd rfl ?_
      refine ks_iaload rfl rfl (by omega) (by omega) (by (try simp only [kx_up_at, kx_row_at, up1_at, Nat.reduceEqDiff, Int.reduceEq, Int.reduceNeg, and_true, true_and, and_false, false_and, and_self, reduceIte, Nat.add_left_cancel_iff, Nat.add_eq_left, Nat.left_eq_add, Nat.reduceAdd, Int.add_left_inj, Int.add_right_inj]); rfl) ?_
      -- at 40: if ne -> 47 else 43 st [None, None]
      refine ks_icmp_ne rfl ⟨by omega, by omega⟩ ⟨by omega, by omega⟩ (fun c1 => ?_) (fun c1 => ?_)
      · refine ks_iconst rfl ?_
        refine ks_goto rfl ?_
        refine ks_istore_n_3 rfl rfl ?_
        refine ks_iinc_4 rfl rfl ?_
        refine ks_goto rfl ?_
        -- at 5: stop  st []
        refine ih (j + 1) 1 (by omega) (Or.inl ⟨rfl, fun c c0 c1 => ?_⟩)
        by_cases e : c = j
        · subst e; assumption
        · exact q2 c c0 (by omega)
      · refine ks_iconst rfl ?_
        refine ks_istore_n_3 rfl rfl ?_
        refine ks_iinc_4 rfl rfl ?_
        refine ks_goto rfl ?_
        -- at 5: stop  st []
        exact ih (j + 1) 0 (by omega) (Or.inr ⟨rfl, fun q => c1 (q j (by omega) (by omega))⟩)
    · subst q1
      refine ks_iload_n rfl rfl ?_
      refine ks_if_eq_0 rfl ?_
      refine ks_iconst rfl ?_
      refine ks_istore_n_3 rfl rfl ?_
      refine ks_iinc_4 rfl rfl ?_
      refine ks_goto rfl ?_
      -- at 5: stop  st []
      exact ih (j + 1) 0 (by omega) (Or.inr ⟨rfl, q2⟩)
theorem r_isAlike {a b : Nat} (ha : a ≤ 60) (hb : b ≤ 60) (hi : ∀ k, 0 ≤ k → k < 366 → kx_in (μ 87 k)) (t1 : (∀ c, 0 ≤ c → c < 6 → μ 87 (6 * a + c) = μ 87 (6 * b + c)) → Q (some (kI 1)) (kg L) μ) (t0 : ¬ (∀ c, 0 ≤ c → c < 6 → μ 87 (6 * a + c) = μ 87 (6 * b + c)) → Q (some (kI 0)) (kg L) μ) : kx_cx (ke (d + 1)) 160 [kR 77, kI a, kI b] (kg L) μ Q := by
  refine ke_start (tb := kt_M_isAlike) (ls := [some (kR 77), some (kI a), some (kI b), none, none]) rfl rfl ?_
  refine ks_iconst rfl ?_
  refine ks_istore_n_3 rfl rfl ?_
  refine ks_iconst rfl ?_
  refine ks_istore_4 rfl rfl ?_
  -- at 5: stop  st []
  exact l_isAlike ha hb hi t1 t0 6 0 1 (by omega) (Or.inl ⟨rfl, fun c c0 c1 => absurd c1 (by omega)⟩)
/-- the search among all ways -/
theorem l_Mround2 {w X : Int} (hw : kx_in w) (W : tw_W 999 s) (hm : ∀ i : Nat, i ≤ 60 → ∀ c, 0 ≤ c → c < 6 → μ 87 (6 * i + c) = wy s i c) (hi : ∀ k, 0 ≤ k → k < 366 → kx_in (μ 87 k)) (t : Q (some (kI X)) (kg L) μ) : ∀ (r n : Nat) (x3 : Option kx_V), n + r = 61 → 1 ≤ n → q_ro (q_mk s) w r n = X → kx_wx (ke (d + 1)) kt_M_round Q 132 [some (kR 77), some (kI w), some (kI n), x3] [] (kg L) μ := by
  obtain ⟨_, _⟩ := hw
  intro r
  induction r with
  | zero =>
    intro n x3 hn n1 q
    simp only [q_ro] at q
    subst q
    refine ks_iload_n rfl rfl ?_
    refine ks_bipush rfl ?_
    -- at 135: if gt -> 176 else 138 st ['60', None]
    refine ks_icmp_gt rfl ⟨by omega, by omega⟩ ⟨by omega, by omega⟩ (fun c => ?_) (fun c => absurd c (by omega))
    refine ks_ldc rfl ?_
    refine ks_ireturn rfl ?_
    -- at 178: ret  st ['-1000000']
    exact t
  | succ r ih =>
    intro n x3 hn n1 q
    rw [q_ro] at q
    have inner : ∀ (r2 k : Nat), k + r2 = n → q_ea (q_mk s) n r2 k = q_ea (q_mk s) n n 0 → kx_wx (ke (d + 1)) kt_M_round Q 140 [some (kR 77), some (kI w), some (kI n), some (kI k)] [] (kg L) μ := by
      intro r2
      induction r2 with
      | zero =>
        intro k hk qe
        simp only [q_ea] at qe
        rw [← qe, if_neg (by omega)] at q
        refine ks_iload_n rfl rfl ?_
        refine ks_iload_n rfl rfl ?_
        -- at 142: if ge -> 170 else 145 st [None, None]
        refine ks_icmp_ge rfl ⟨by omega, by omega⟩ ⟨by omega, by omega⟩ (fun c => absurd c (by omega)) (fun c => ?_)
        refine ks_iinc_2 rfl rfl ?_
        refine ks_goto rfl ?_
        -- at 132: stop  st []
        exact ih (n + 1) _ (by omega) (by omega) q
      | succ r2 ih2 =>
        intro k hk qe
        rw [q_ea] at qe
        refine ks_iload_n rfl rfl ?_
        refine ks_iload_n rfl rfl ?_
        -- at 142: if ge -> 170 else 145 st [None, None]
        refine ks_icmp_ge rfl ⟨by omega, by omega⟩ ⟨by omega, by omega⟩ (fun c => ?_) (fun c => absurd c (by omega))
        refine ks_aload_n rfl rfl ?_
        refine ks_iload_n rfl rfl ?_
        refine ks_iload_n rfl rfl ?_
        refine ks_callv_3 rfl rfl rfl (Nat.le_of_ble_eq_true rfl) ?_
        -- at 148: call M_isAlike st []
        refine r_isAlike (a := k) (b := n) (by omega) (by omega) hi (fun D => ?_) (fun D => ?_)
        · have hd : q_mk s k = q_mk s n := (wy_mk W k n).mp (fun c c0 c1 => by rw [← hm k (by omega) c c0 c1, ← hm n (by omega) c c0 c1]; exact D c c0 c1)
          rw [if_pos hd] at qe
          rw [← qe, if_pos (by omega)] at q
          show kx_wx _ _ _ _ _ (_ :: _) _ _
          refine ks_if_eq_1 rfl ?_
          refine ks_iload_n rfl rfl ?_
          -- at 155: if ne -> 162 else 158 st [None]
          refine ks_if_ne rfl ⟨by omega, by omega⟩ (fun c3 => ?_) (fun c3 => ?_)
          · refine ks_iload_n rfl rfl ?_
            refine ks_goto rfl ?_
            refine ks_ireturn rfl ?_
            -- at 163: ret  st [None]
            rw [if_pos c3] at q
            subst q
            exact t
          · refine ks_iload_n rfl rfl ?_
            refine ks_ireturn rfl ?_
            -- at 163: ret  st [None]
            rw [if_neg c3] at q
            subst q
            exact t
        · have hd : ¬ q_mk s k = q_mk s n := fun hd => D (fun c c0 c1 => by rw [hm k (by omega) c c0 c1, hm n (by omega) c c0 c1]; exact (wy_mk W k n).mpr hd c c0 c1)
          rw [if_neg hd] at qe
          show kx_wx _ _ _ _ _ (_ :: _) _ _
          refine ks_if_eq_0 rfl ?_
          refine ks_iinc_3 rfl rfl ?_
          refine ks_goto rfl ?_
          -- at 140: stop  st []
          exact ih2 (k + 1) (by omega) qe
    refine ks_iload_n rfl rfl ?_
    refine ks_bipush rfl ?_
    -- at 135: if gt -> 176 else 138 st ['60', None]
    refine ks_icmp_gt rfl ⟨by omega, by omega⟩ ⟨by omega, by omega⟩ (fun c => absurd c (by omega)) (fun c => ?_)
    refine ks_iconst rfl ?_
    refine ks_istore_n_3 rfl rfl ?_
    -- at 140: stop  st []
    exact inner n 0 (by omega) rfl
theorem l_Mround1 {w X : Int} (hw : kx_in w) (hs : μ 81 = s) (W : tw_W 999 s) (Z : tw_Z s) (hX : q_ro (q_mk s) w 60 1 = X) (t : ∀ μ', FrQ μ μ' → Q (some (kI X)) (kg L) μ') : ∀ (r j : Nat) (μ1 : kx_M) (x3 : Option kx_V), j + r = 61 → (∀ i : Nat, i < j → ∀ c, 0 ≤ c → c < 6 → μ1 87 (6 * i + c) = wy s i c) → μ1 81 = tw_go s j → AS μ1 s → FrI μ μ1 → kx_wx (ke (d + 3)) kt_M_round Q 29 [some (kR 77), some (kI w), some (kI j), x3] [] (kg L) μ1 := by
  have w2 := W.2.1
  intro r
  induction r with
  | zero =>
    intro j μ1 x3 hj hm e A F
    refine ks_iload_n rfl rfl ?_
    refine ks_bipush rfl ?_
    -- at 32: if gt -> 126 else 35 st ['60', None]
    refine ks_icmp_gt rfl ⟨by omega, by omega⟩ ⟨by omega, by omega⟩ (fun c => ?_) (fun c => absurd c (by omega))
    refine ks_aload_n rfl rfl ?_
    refine ks_callv_1 rfl rfl rfl (Nat.le_of_ble_eq_true rfl) ?_
    -- at 127: call M_takeBack st []
    refine r_takeBack A Z (by rw [e]; exact tw_Z_go W Z j) (fun μ3 e3 F3 => ?_)
    show kx_wx _ _ _ _ _ _ _ _
    refine ks_iconst rfl ?_
    refine ks_istore_n_2 rfl rfl ?_
    -- at 132: stop  st []
    have hm3 : ∀ i : Nat, i ≤ 60 → ∀ c, 0 ≤ c → c < 6 → μ3 87 (6 * i + c) = wy s i c := fun i i1 c c0 c1 => by rw [F3 87 (by omega)]; exact hm i (by omega) c c0 c1
    refine l_Mround2 (s := s) hw W hm3 (fun k k0 k1 => ?_) (t _ (FrQ_of (FrI_81 F F3) hs e3)) 60 1 _ (by omega) (by omega) hX
    have := hm3 (k / 6).toNat (by omega) (k % 6) (by omega) (by omega)
    rw [show (6 : Int) * ((k / 6).toNat : Int) + k % 6 = k by omega] at this
    rw [this]
    have Wk := tw_W_go60 W (n := (k / 6).toNat) (by omega)
    have ek := (tw_go_12 W (k / 6).toNat).2
    obtain ⟨v1, v2, v3, v4, v5, v6, v7, v8⟩ := Wk
    unfold wy
    split
    · exact ⟨by omega, by omega⟩
    · split
      · exact ⟨by omega, by omega⟩
      · split
        · have := v8 (k % 6 - 2) (by omega) (by omega)
          rw [show (34 : Int) + (k % 6 - 2) = 32 + k % 6 by omega] at this
          exact ⟨by omega, by omega⟩
        · exact ⟨by omega, by omega⟩
  | succ r ih =>
    intro j μ1 x3 hj hm e A F
    have e2 := (tw_go_12 W j).2
    have inner : ∀ (r2 k : Nat) (μ2 : kx_M), k + r2 = 4 → (∀ i : Nat, i < j → ∀ c, 0 ≤ c → c < 6 → μ2 87 (6 * i + c) = wy s i c) → (∀ c : Int, 0 ≤ c → c < 2 + k → μ2 87 (6 * j + c) = wy s j c) → μ2 81 = tw_go s j → AS μ2 s → FrI μ μ2 → kx_wx (ke (d + 3)) kt_M_round Q 69 [some (kR 77), some (kI w), some (kI j), some (kI k)] [] (kg L) μ2 := by
      intro r2
      induction r2 with
      | zero =>
        intro k μ2 hk hm2 hc e' A' F'
        refine ks_iload_n rfl rfl ?_
        refine ks_iconst rfl ?_
        -- at 71: if ge -> 116 else 74 st ['4', None]
        refine ks_icmp_ge rfl ⟨by omega, by omega⟩ ⟨by omega, by omega⟩ (fun c => absurd c (by omega)) (fun c => ?_)
        refine ks_aload_n rfl rfl ?_
        refine ks_callv_1 rfl rfl rfl (Nat.le_of_ble_eq_true rfl) ?_
        -- at 117: call M_oneStep st []
        refine r_oneStep (B := 2000) (by omega) e' (tw_W_go60 W (by omega)) ?_
        show kx_wx _ _ _ _ _ _ _ _
        refine ks_iinc_2 rfl rfl ?_
        refine ks_goto rfl ?_
        -- at 29: stop  st []
        refine ih (j + 1) _ _ (by omega) (fun i hi c c0 c1 => ?_) (kx_row_self _ _ _) (AS_fr A' (Fr81_row _ _)) (FrI_81 F' (Fr81_row _ _))
        rw [kx_row_ne (by omega)]
        by_cases ei : i = j
        · subst ei; exact hc c c0 (by omega)
        · exact hm2 i (by omega) c c0 c1
      | succ r2 ih2 =>
        intro k μ2 hk hm2 hc e' A' F'
        have ek : wy s j (2 + k) = if (k : Int) < s 2 then tw_go s j (34 + k) else 0 := by
          unfold wy
          rw [if_neg (by omega), if_neg (by omega), show (32 : Int) + (2 + k) = 34 + k by omega, show (2 : Int) + k - 2 = k by omega]
        have fin : ∀ y, y = wy s j (2 + k) → kx_wx (ke (d + 3)) kt_M_round Q 109 [some (kR 77), some (kI w), some (kI j), some (kI k)] [kI y, kI (6 * j + 2 + k), kR 87] (kg L) μ2 := by
          intro y hy
          refine ks_iastore rfl rfl (by omega) (by omega) ?_
          refine ks_iinc_3 rfl rfl ?_
          refine ks_goto rfl ?_
          -- at 69: stop  st []
          refine ih2 (k + 1) _ (by omega) (fun i hi c c0 c1 => ?_) (fun c c0 c1 => ?_) ?_ (fun q a b => ?_) (fun c a b g => ?_)
          · rw [kx_up_oth (by omega)]; exact hm2 i hi c c0 c1
          · by_cases ec : c = 2 + k
            · subst ec
              rw [show (6 : Int) * j + (2 + k) = 6 * j + 2 + k by omega, kx_up_self]; exact hy
            · rw [kx_up_oth (by omega)]; exact hc c c0 (by omega)
          · rw [kx_up_row (by omega)]; exact e'
          · rw [kx_up_row (by omega)]; exact A' q a b
          · rw [kx_up_row g]; exact F' c a b g
        refine ks_iload_n rfl rfl ?_
        refine ks_iconst rfl ?_
        -- at 71: if ge -> 116 else 74 st ['4', None]
        refine ks_icmp_ge rfl ⟨by omega, by omega⟩ ⟨by omega, by omega⟩ (fun c => ?_) (fun c => absurd c (by omega))
        refine ks_aload_n rfl rfl ?_
        refine ks_getr (b := 87) rfl rfl rfl rfl (by decide) ?_
        refine ks_bipush rfl ?_
        refine ks_iload_n rfl rfl ?_
        refine ks_imul rfl ?_
        refine ks_iconst rfl ?_
        refine ks_iadd rfl ?_
        refine ks_iload_n rfl rfl ?_
        refine ks_iadd rfl ?_
        refine ks_iload_n rfl rfl ?_
        refine ks_aload_n rfl rfl ?_
        refine ks_getr (b := 81) rfl rfl rfl rfl (by decide) ?_
        refine ks_iconst rfl ?_
        refine ks_iaload rfl rfl (by omega) (by omega) (by (try simp only [kx_up_at, kx_row_at, up1_at, Nat.reduceEqDiff, Int.reduceEq, Int.reduceNeg, and_true, true_and, and_false, false_and, and_self, reduceIte, Nat.add_left_cancel_iff, Nat.add_eq_left, Nat.left_eq_add, Nat.reduceAdd, Int.add_left_inj, Int.add_right_inj, e', e2]); rfl) ?_
        -- at 93: if ge -> 108 else 96 st [None, None, None, '87']
        refine ks_icmp_ge rfl ⟨by omega, by omega⟩ ⟨by omega, by omega⟩ (fun c2 => ?_) (fun c2 => ?_)
        · refine ks_aload_n rfl rfl ?_
          refine ks_getr (b := 81) rfl rfl rfl rfl (by decide) ?_
          refine ks_bipush rfl ?_
          refine ks_iload_n rfl rfl ?_
          refine ks_iadd rfl ?_
          refine ks_iaload rfl rfl (by omega) (by omega) (by (try simp only [kx_up_at, kx_row_at, up1_at, Nat.reduceEqDiff, Int.reduceEq, Int.reduceNeg, and_true, true_and, and_false, false_and, and_self, reduceIte, Nat.add_left_cancel_iff, Nat.add_eq_left, Nat.left_eq_add, Nat.reduceAdd, Int.add_left_inj, Int.add_right_inj, e', e2]); rfl) ?_
          refine ks_goto rfl ?_
          -- at 109: stop  st [None, None, '87']
          refine fin _ ?_
          rw [ek, if_pos c2]
        · refine ks_iconst rfl ?_
          -- at 109: stop  st ['0', None, '87']
          refine fin _ ?_
          rw [ek, if_neg c2]
    refine ks_iload_n rfl rfl ?_
    refine ks_bipush rfl ?_
    -- at 32: if gt -> 126 else 35 st ['60', None]
    refine ks_icmp_gt rfl ⟨by omega, by omega⟩ ⟨by omega, by omega⟩ (fun c => absurd c (by omega)) (fun c => ?_)
    refine ks_aload_n rfl rfl ?_
    refine ks_getr (b := 87) rfl rfl rfl rfl (by decide) ?_
    refine ks_bipush rfl ?_
    refine ks_iload_n rfl rfl ?_
    refine ks_imul rfl ?_
    refine ks_aload_n rfl rfl ?_
    refine ks_getr (b := 81) rfl rfl rfl rfl (by decide) ?_
    refine ks_iconst rfl ?_
    refine ks_iaload rfl rfl (by omega) (by omega) (by (try simp only [kx_up_at, kx_row_at, up1_at, Nat.reduceEqDiff, Int.reduceEq, Int.reduceNeg, and_true, true_and, and_false, false_and, and_self, reduceIte, Nat.add_left_cancel_iff, Nat.add_eq_left, Nat.left_eq_add, Nat.reduceAdd, Int.add_left_inj, Int.add_right_inj, e]); rfl) ?_
    refine ks_iastore rfl rfl (by omega) (by omega) ?_
    refine ks_aload_n rfl rfl ?_
    refine ks_getr (b := 87) rfl rfl rfl rfl (by decide) ?_
    refine ks_bipush rfl ?_
    refine ks_iload_n rfl rfl ?_
    refine ks_imul rfl ?_
    refine ks_iconst rfl ?_
    refine ks_iadd rfl ?_
    refine ks_aload_n rfl rfl ?_
    refine ks_getr (b := 81) rfl rfl rfl rfl (by decide) ?_
    refine ks_iconst rfl ?_
    refine ks_iaload rfl rfl (by omega) (by omega) (by (try simp only [kx_up_at, kx_row_at, up1_at, Nat.reduceEqDiff, Int.reduceEq, Int.reduceNeg, and_true, true_and, and_false, false_and, and_self, reduceIte, Nat.add_left_cancel_iff, Nat.add_eq_left, Nat.left_eq_add, Nat.reduceAdd, Int.add_left_inj, Int.add_right_inj, e]); rfl) ?_
    refine ks_iastore rfl rfl (by omega) (by omega) ?_
    refine ks_iconst rfl ?_
    refine ks_istore_n_3 rfl rfl ?_
    -- at 69: stop  st []
    refine inner 4 0 _ (by omega) (fun i hi c c0 c1 => ?_) (fun c c0 c1 => ?_) ?_ (fun q a b => ?_) (fun c a b g => ?_)
    · rw [kx_up_oth (by omega), kx_up_oth (by omega)]; exact hm i hi c c0 c1
    · have hc : c = 0 ∨ c = 1 := by omega
      rcases hc with ec | ec
      · subst ec; rw [Int.add_zero, kx_up_oth (by omega), kx_up_self]; rfl
      · subst ec; rw [kx_up_self]; rfl
    · rw [kx_up_row (by omega), kx_up_row (by omega)]; exact e
    · rw [kx_up_row (by omega), kx_up_row (by omega)]; exact A q a b
    · rw [kx_up_row g, kx_up_row g]; exact F c a b g
theorem r_Mround (hv : kx_in v) (hs : μ 81 = s) (N : TN s) (I : IT μ s) (t0 : s 1 = 0 → Q (some (kI (-1000002))) (kg L) μ) (t1 : 1 ≤ s 1 → ¬ (0 ≤ v ∧ v ≤ 1) → Q (some (kI (-1000001))) (kg L) μ) (t2 : 1 ≤ s 1 → 0 ≤ v → v ≤ 1 → ∀ μ', FrQ μ μ' → Q (some (kI (q_ro (q_mk s) v 60 1))) (kg L) μ') : kx_cx (ke (d + 4)) 161 [kR 77, kI v] (kg L) μ Q := by
  refine ke_start (tb := kt_M_round) (ls := [some (kR 77), some (kI v), none, none]) rfl rfl ?_
  obtain ⟨i0, i1, i2, i3⟩ := IT_in I
  have hv0 := hv
  obtain ⟨_, _⟩ := hv
  refine ks_aload_n rfl rfl ?_
  refine ks_geti rfl rfl rfl rfl (by (try simp only [kx_up_at, kx_row_at, up1_at, Nat.reduceEqDiff, Int.reduceEq, Int.reduceNeg, and_true, true_and, and_false, false_and, and_self, reduceIte, Nat.add_left_cancel_iff, Nat.add_eq_left, Nat.left_eq_add, Nat.reduceAdd, Int.add_left_inj, Int.add_right_inj]); rfl) ?_
  -- at 4: if ne -> 10 else 7 st [None]
  refine ks_if_ne rfl ⟨by omega, by omega⟩ (fun c => ?_) (fun c => ?_)
  · refine ks_ldc rfl ?_
    refine ks_ireturn rfl ?_
    -- at 9: ret  st ['-1000002']
    exact t0 (by omega)
  · refine ks_iload_n rfl rfl ?_
    refine ks_i2l rfl ⟨by omega, by omega⟩ ?_
    refine ks_lconst rfl ?_
    refine ks_lconst rfl ?_
    refine ks_calls_3 rfl (Nat.le_of_ble_eq_true rfl) ?_
    -- at 14: call M_in st []
    refine r_in ⟨by omega, by omega⟩ ⟨by omega, by omega⟩ ⟨by omega, by omega⟩ (fun c2 => ?_) (fun c2 => ?_)
    · obtain ⟨W, Z⟩ := TN_W N (by omega)
      show kx_wx _ _ _ _ _ (_ :: _) _ _
      refine ks_if_ne_1 rfl ?_
      refine ks_aload_n rfl rfl ?_
      refine ks_callv_1 rfl rfl rfl (Nat.le_of_ble_eq_true rfl) ?_
      -- at 24: call M_putAside st []
      refine r_putAside hs (fun μ1 A1 e1 F1 => ?_)
      show kx_wx _ _ _ _ _ _ _ _
      refine ks_iconst rfl ?_
      refine ks_istore_n_2 rfl rfl ?_
      -- at 29: stop  st []
      exact l_Mround1 (μ := μ) (X := q_ro (q_mk s) v 60 1) hv0 hs W Z rfl (t2 (by omega) c2.1 c2.2) 61 0 μ1 _ (by omega) (fun i hi => absurd hi (by omega)) e1 A1 F1
    · show kx_wx _ _ _ _ _ (_ :: _) _ _
      refine ks_if_ne_0 rfl ?_
      refine ks_ldc rfl ?_
      refine ks_ireturn rfl ?_
      -- at 22: ret  st ['-1000001']
      exact t1 (by omega) c2
theorem r_bitCount {x : Int} (h0 : 0 ≤ x) (h1 : x < 64) (t : Q (some (kI (q_pc x))) G μ) : kx_cx (ke (d + 1)) 191 [kI x] G μ Q := by
  refine ke_start (tb := kt_Integer_bitCount) (ls := [some (kI x)]) rfl rfl ?_
  obtain ⟨b1, b2, b3, b4, b5⟩ := bc_all h0 h1
  rw [← b5] at t
  refine ks_iload_n rfl rfl ?_
  refine ks_iload_n rfl rfl ?_
  refine ks_iconst rfl ?_
  refine ks_iushr rfl (by omega) (by omega) (by omega) (by omega) ?_
  refine ks_ldc_w rfl ?_
  refine ks_iand rfl ?_
  refine ks_isub rfl ?_
  refine ks_istore_n_0 rfl ?_
  -- at 10: stop  st []
  show kx_wx _ _ _ _ [some (kI (bc1 x))] _ _ _
  generalize bc1 x = x1 at *
  refine ks_iload_n rfl rfl ?_
  refine ks_ldc_w rfl ?_
  refine ks_iand rfl ?_
  refine ks_iload_n rfl rfl ?_
  refine ks_iconst rfl ?_
  refine ks_iushr rfl (by omega) (by omega) (by omega) (by omega) ?_
  refine ks_ldc_w rfl ?_
  refine ks_iand rfl ?_
  refine ks_iadd rfl ?_
  refine ks_istore_n_0 rfl ?_
  -- at 24: stop  st []
  show kx_wx _ _ _ _ [some (kI (bc2 x1))] _ _ _
  generalize bc2 x1 = x2 at *
  refine ks_iload_n rfl rfl ?_
  refine ks_iload_n rfl rfl ?_
  refine ks_iconst rfl ?_
  refine ks_iushr rfl (by omega) (by omega) (by omega) (by omega) ?_
  refine ks_iadd rfl ?_
  refine ks_ldc_w rfl ?_
  refine ks_iand rfl ?_
  refine ks_istore_n_0 rfl ?_
  -- at 34: stop  st []
  show kx_wx _ _ _ _ [some (kI (bc3 x2))] _ _ _
  generalize bc3 x2 = x3 at *
  refine ks_iload_n rfl rfl ?_
  refine ks_iload_n rfl rfl ?_
  refine ks_bipush rfl ?_
  refine ks_iushr rfl (by omega) (by omega) (by omega) (by omega) ?_
  refine ks_iadd rfl ?_
  refine ks_istore_n_0 rfl ?_
  -- at 41: stop  st []
  show kx_wx _ _ _ _ [some (kI (bc4 x3))] _ _ _
  generalize bc4 x3 = x4 at *
  refine ks_iload_n rfl rfl ?_
  refine ks_iload_n rfl rfl ?_
  refine ks_bipush rfl ?_
  refine ks_iushr rfl (by omega) (by omega) (by omega) (by omega) ?_
  refine ks_iadd rfl ?_
  refine ks_istore_n_0 rfl ?_
  refine ks_iload_n rfl rfl ?_
  refine ks_bipush rfl ?_
  refine ks_iand rfl ?_
  refine ks_ireturn rfl ?_
  -- at 52: ret  st [None]
  exact t
theorem l_low {p a k k' : Int} (hk : k + -1 = k') (hp : kx_in p) (a0 : 0 ≤ a) (a1 : a ≤ 6) (k0 : 2 ≤ k) (k1 : k ≤ 6) (t1 : a % k = 0 → 6 % k = 0 → Q (some (kI (p.tdiv k))) G μ) (t0 : ¬ (a % k = 0 ∧ 6 % k = 0) → kx_wx (ke d) kt_X_inLowestTerms Q 2 [some (kI p), some (kI a), some (kI 6), some (kI k')] [] G μ) : kx_wx (ke d) kt_X_inLowestTerms Q 2 [some (kI p), some (kI a), some (kI 6), some (kI k)] [] G μ := by
  subst hk
  have e1 : a.tmod k = a % k := Int.tmod_eq_emod_of_nonneg a0
  have e2 : (6 : Int).tmod k = 6 % k := Int.tmod_eq_emod_of_nonneg (by omega)
  have m1 : 0 ≤ a % k ∧ a % k < k := ⟨Int.emod_nonneg _ (by omega), Int.emod_lt_of_pos _ (by omega)⟩
  have m2 : 0 ≤ 6 % k ∧ 6 % k < k := ⟨Int.emod_nonneg _ (by omega), Int.emod_lt_of_pos _ (by omega)⟩
  obtain ⟨_, _⟩ := hp
  refine ks_iload_n rfl rfl ?_
  refine ks_iconst rfl ?_
  -- at 4: if le -> 29 else 7 st ['1', None]
  refine ks_icmp_le rfl ⟨by omega, by omega⟩ ⟨by omega, by omega⟩ (fun c => ?_) (fun c => absurd c (by omega))
  refine ks_iload_n rfl rfl ?_
  refine ks_iload_n rfl rfl ?_
  refine ks_irem rfl ⟨by omega, by omega⟩ ⟨by omega, by omega⟩ (by omega) ?_
  -- at 10: if ne -> 23 else 13 st [None]
  rw [e1]
  refine ks_if_ne rfl ⟨by omega, by omega⟩ (fun c1 => ?_) (fun c1 => ?_)
  · refine ks_iload_n rfl rfl ?_
    refine ks_iload_n rfl rfl ?_
    refine ks_irem rfl ⟨by omega, by omega⟩ ⟨by omega, by omega⟩ (by omega) ?_
    -- at 16: if ne -> 23 else 19 st [None]
    rw [e2]
    refine ks_if_ne rfl ⟨by omega, by omega⟩ (fun c2 => ?_) (fun c2 => ?_)
    · refine ks_iload_n rfl rfl ?_
      refine ks_iload_n rfl rfl ?_
      refine ks_idiv rfl ⟨by omega, by omega⟩ ⟨by omega, by omega⟩ (by omega) ?_
      refine ks_ireturn rfl ?_
      -- at 22: ret  st [None]
      exact t1 c1 c2
    · refine ks_iinc_3 rfl rfl ?_
      refine ks_goto rfl ?_
      -- at 2: stop  st []
      exact t0 (fun q => c2 q.2)
  · refine ks_iinc_3 rfl rfl ?_
    refine ks_goto rfl ?_
    -- at 2: stop  st []
    exact t0 (fun q => c1 q.1)
theorem r_low {p a : Int} (hp : kx_in p) (a0 : 0 ≤ a) (a1 : a ≤ 6) (t : Q (some (kI (p.tdiv (q_g a)))) G μ) : kx_cx (ke (d + 1)) 114 [kI p, kI a, kI 6] G μ Q := by
  refine ke_start (tb := kt_X_inLowestTerms) (ls := [some (kI p), some (kI a), some (kI 6), none]) rfl rfl ?_
  refine ks_iload_n rfl rfl ?_
  refine ks_istore_n_3 rfl rfl ?_
  -- at 2: stop  st []
  refine l_low (k := 6) (k' := 5) rfl hp a0 a1 (by omega) (by omega) (fun q1 q2 => ?_) (fun q1 => ?_)
  · have e : q_g a = 6 := by unfold q_g; rw [if_pos q1]; split <;> rfl
    rw [e] at t
    exact t
  refine l_low (k := 5) (k' := 4) rfl hp a0 a1 (by omega) (by omega) (fun q1 q2 => absurd q2 (by decide)) (fun q2 => ?_)
  refine l_low (k := 4) (k' := 3) rfl hp a0 a1 (by omega) (by omega) (fun q1 q2 => absurd q2 (by decide)) (fun q3 => ?_)
  refine l_low (k := 3) (k' := 2) rfl hp a0 a1 (by omega) (by omega) (fun q4 q5 => ?_) (fun q4 => ?_)
  · have e : q_g a = 3 := by unfold q_g; rw [if_neg (by omega), if_neg (by omega), if_pos (by omega)]
    rw [e] at t
    exact t
  refine l_low (k := 2) (k' := 1) rfl hp a0 a1 (by omega) (by omega) (fun q5 q6 => ?_) (fun q5 => ?_)
  · have e : q_g a = 2 := by unfold q_g; rw [if_neg (by omega), if_neg (by omega), if_neg (by omega), if_pos (by omega)]
    rw [e] at t
    exact t
  · have e : q_g a = 1 := by unfold q_g; rw [if_neg (by omega), if_neg (by omega), if_neg (by omega), if_neg (by omega)]
    rw [e, Int.tdiv_one] at t
    refine ks_iload_n rfl rfl ?_
    refine ks_iconst rfl ?_
    -- at 4: if le -> 29 else 7 st ['1', None]
    refine ks_icmp_le rfl ⟨by omega, by omega⟩ ⟨by omega, by omega⟩ (fun c => absurd c (by omega)) (fun c => ?_)
    refine ks_iload_n rfl rfl ?_
    refine ks_ireturn rfl ?_
    -- at 30: ret  st [None]
    exact t
theorem l_Mlot {h n w : Int} (hw : kx_in w) (t : Q (some (kI (if w = 0 then n.tdiv (q_g n) else (6 : Int).tdiv (q_g n)))) (kg L) μ) (n0 : 0 ≤ n) (n1 : n ≤ 6) : ∀ (N : Nat) (x y : Int), 0 ≤ x → x < 64 → x < N → y + q_pc x = n → 0 ≤ y → kx_wx (ke d) kt_M_lot Q 39 [some (kR 77), some (kI h), some (kI v), some (kI w), some (kI y), some (kI x)] [] (kg L) μ := by
  obtain ⟨_, _⟩ := hw
  intro N
  induction N with
  | zero => intro x y x0 x1 x2; omega
  | succ N ih =>
    intro x y x0 x1 x2 hy y0
    refine ks_iload rfl rfl ?_
    -- at 41: if eq -> 59 else 44 st [None]
    refine ks_if_eq rfl ⟨by omega, by omega⟩ (fun c => ?_) (fun c => ?_)
    · subst c
      have e : y = n := by rw [← hy]; show y = y + 0; omega
      subst e
      have fin : ∀ g, q_g y = g → 1 ≤ g → g ≤ 6 → kx_wx (ke d) kt_M_lot Q 105 [some (kR 77), some (kI h), some (kI v), some (kI w), some (kI y), some (kI 0)] [kI g] (kg L) μ := by
        intro g hg g0 g1
        rw [hg] at t
        refine ks_istore_5 rfl rfl ?_
        refine ks_iload_n rfl rfl ?_
        -- at 108: if ne -> 119 else 111 st [None]
        refine ks_if_ne rfl ⟨by omega, by omega⟩ (fun c => ?_) (fun c => ?_)
        · rw [if_pos c] at t
          refine ks_iload rfl rfl ?_
          refine ks_iload rfl rfl ?_
          refine ks_idiv rfl ⟨by omega, by omega⟩ ⟨by omega, by omega⟩ (by omega) ?_
          refine ks_goto rfl ?_
          refine ks_ireturn rfl ?_
          -- at 124: ret  st [None]
          exact t
        · rw [if_neg c] at t
          refine ks_bipush rfl ?_
          refine ks_iload rfl rfl ?_
          refine ks_idiv rfl ⟨by omega, by omega⟩ ⟨by omega, by omega⟩ (by omega) ?_
          refine ks_ireturn rfl ?_
          -- at 124: ret  st [None]
          exact t
      have e6 : y.tmod 6 = y % 6 := Int.tmod_eq_emod_of_nonneg n0
      have e3 : y.tmod 3 = y % 3 := Int.tmod_eq_emod_of_nonneg n0
      have e2 : y.tmod 2 = y % 2 := Int.tmod_eq_emod_of_nonneg n0
      refine ks_iload rfl rfl ?_
      -- at 61: if ne -> 69 else 64 st [None]
      refine ks_if_ne rfl ⟨by omega, by omega⟩ (fun c1 => ?_) (fun c1 => ?_)
      · refine ks_bipush rfl ?_
        refine ks_goto rfl ?_
        -- at 105: stop  st ['6']
        exact fin 6 (by unfold q_g; rw [if_pos c1]) (by omega) (by omega)
      · refine ks_iload rfl rfl ?_
        refine ks_bipush rfl ?_
        refine ks_irem rfl ⟨by omega, by omega⟩ ⟨by omega, by omega⟩ (by omega) ?_
        -- at 74: if ne -> 82 else 77 st [None]
        rw [e6]
        refine ks_if_ne rfl ⟨by omega, by omega⟩ (fun c2 => ?_) (fun c2 => ?_)
        · refine ks_bipush rfl ?_
          refine ks_goto rfl ?_
          -- at 105: stop  st ['6']
          exact fin 6 (by unfold q_g; rw [if_neg c1, if_pos c2]) (by omega) (by omega)
        · refine ks_iload rfl rfl ?_
          refine ks_iconst rfl ?_
          refine ks_irem rfl ⟨by omega, by omega⟩ ⟨by omega, by omega⟩ (by omega) ?_
          -- at 86: if ne -> 93 else 89 st [None]
          rw [e3]
          refine ks_if_ne rfl ⟨by omega, by omega⟩ (fun c3 => ?_) (fun c3 => ?_)
          · refine ks_iconst rfl ?_
            refine ks_goto rfl ?_
            -- at 105: stop  st ['3']
            exact fin 3 (by unfold q_g; rw [if_neg c1, if_neg c2, if_pos c3]) (by omega) (by omega)
          · refine ks_iload rfl rfl ?_
            refine ks_iconst rfl ?_
            refine ks_irem rfl ⟨by omega, by omega⟩ ⟨by omega, by omega⟩ (by omega) ?_
            -- at 97: if ne -> 104 else 100 st [None]
            rw [e2]
            refine ks_if_ne rfl ⟨by omega, by omega⟩ (fun c4 => ?_) (fun c4 => ?_)
            · refine ks_iconst rfl ?_
              refine ks_goto rfl ?_
              -- at 105: stop  st ['2']
              exact fin 2 (by unfold q_g; rw [if_neg c1, if_neg c2, if_neg c3, if_pos c4]) (by omega) (by omega)
            · refine ks_iconst rfl ?_
              -- at 105: stop  st ['1']
              exact fin 1 (by unfold q_g; rw [if_neg c1, if_neg c2, if_neg c3, if_neg c4]) (by omega) (by omega)
    · obtain ⟨k1, k2, k3⟩ := q_pc_and (x := x) (by omega) x1
      refine ks_iinc_4 rfl rfl ?_
      refine ks_iload rfl rfl ?_
      refine ks_iload rfl rfl ?_
      refine ks_iconst rfl ?_
      refine ks_isub rfl ?_
      refine ks_iand rfl ?_
      refine ks_istore_5 rfl rfl ?_
      refine ks_goto rfl ?_
      -- at 39: stop  st []
      exact ih _ _ k1 (by omega) (by omega) (by omega) (by omega)
theorem r_Mlot {h w : Int} (hv : kx_in v) (hh : kx_in h) (hw : kx_in w) (hs : μ 81 = s) (N : TN s) (t1 : ¬ ((0 ≤ h ∧ h < s 1) ∧ (0 ≤ v ∧ v ≤ 60) ∧ (0 ≤ w ∧ w ≤ 1)) → Q (some (kI (-1000001))) (kg L) μ) (t2 : 0 ≤ h → h < s 1 → 0 ≤ v → v ≤ 60 → 0 ≤ w → w ≤ 1 → ∀ μ', FrQ μ μ' → Q (some (kI (if w = 0 then (q_pc (q_wi s h v.toNat 6 0 0)).tdiv (q_g (q_pc (q_wi s h v.toNat 6 0 0))) else (6 : Int).tdiv (q_g (q_pc (q_wi s h v.toNat 6 0 0)))))) (kg L) μ') : kx_cx (ke (d + 6)) 169 [kR 77, kI h, kI v, kI w] (kg L) μ Q := by
  refine ke_start (tb := kt_M_lot) (ls := [some (kR 77), some (kI h), some (kI v), some (kI w), none, none]) rfl rfl ?_
  obtain ⟨n1, n2, n3⟩ := TN_in N
  have hw0 := hw
  obtain ⟨_, _⟩ := hw
  refine ks_aload_n rfl rfl ?_
  refine ks_iload_n rfl rfl ?_
  refine ks_callv_2 rfl rfl rfl (Nat.le_of_ble_eq_true rfl) ?_
  -- at 2: call M_isHead st []
  refine r_isHead hh (by rw [hs]; exact ⟨by omega, by omega⟩) (fun c => ?_) (fun c => ?_)
  · rw [hs] at c
    show kx_wx _ _ _ _ _ (_ :: _) _ _
    refine ks_if_eq_1 rfl ?_
    refine ks_iload_n rfl rfl ?_
    refine ks_calls_1 rfl (Nat.le_of_ble_eq_true rfl) ?_
    -- at 9: call M_isFar st []
    refine r_isFar hv (fun c2 => ?_) (fun c2 => ?_)
    · show kx_wx _ _ _ _ _ (_ :: _) _ _
      refine ks_if_eq_1 rfl ?_
      refine ks_iload_n rfl rfl ?_
      refine ks_i2l rfl ⟨by omega, by omega⟩ ?_
      refine ks_lconst rfl ?_
      refine ks_lconst rfl ?_
      refine ks_calls_3 rfl (Nat.le_of_ble_eq_true rfl) ?_
      -- at 19: call M_in st []
      refine r_in ⟨by omega, by omega⟩ ⟨by omega, by omega⟩ ⟨by omega, by omega⟩ (fun c3 => ?_) (fun c3 => ?_)
      · obtain ⟨W, Z⟩ := TN_W N (by omega)
        have ev : v = (v.toNat : Int) := by omega
        generalize v.toNat = n at *
        subst ev
        show kx_wx _ _ _ _ _ (_ :: _) _ _
        refine ks_if_ne_1 rfl ?_
        refine ks_iconst rfl ?_
        refine ks_istore_4 rfl rfl ?_
        refine ks_aload_n rfl rfl ?_
        refine ks_iload_n rfl rfl ?_
        refine ks_iload_n rfl rfl ?_
        refine ks_callv_3 rfl rfl rfl (Nat.le_of_ble_eq_true rfl) ?_
        -- at 34: call M_windsBy st []
        refine r_windsBy (by omega) hh hs W Z (fun μ1 F1 => ?_)
        show kx_wx _ _ _ _ _ (_ :: _) _ _
        refine ks_istore_5 rfl rfl ?_
        -- at 39: stop  st []
        have t3 := t2 c.1 c.2 (by omega) (by omega) c3.1 c3.2 μ1 F1
        have hx := q_wi_in (s := s) (h := h) (n := n) 6 0 0 (by omega) (by omega) (by omega) (by omega)
        generalize q_wi s h n 6 0 0 = x at *
        have hp := q_pc_in hx.1 hx.2
        exact l_Mlot hw0 t3 hp.1 hp.2 64 x 0 hx.1 hx.2 (by omega) (by omega) (by omega)
      · show kx_wx _ _ _ _ _ (_ :: _) _ _
        refine ks_if_ne_0 rfl ?_
        refine ks_ldc rfl ?_
        refine ks_ireturn rfl ?_
        -- at 27: ret  st ['-1000001']
        exact t1 (fun q => c3 q.2.2)
    · show kx_wx _ _ _ _ _ (_ :: _) _ _
      refine ks_if_eq_0 rfl ?_
      refine ks_ldc rfl ?_
      refine ks_ireturn rfl ?_
      -- at 27: ret  st ['-1000001']
      exact t1 (fun q => c2 q.2.1)
  · rw [hs] at c
    show kx_wx _ _ _ _ _ (_ :: _) _ _
    refine ks_if_eq_0 rfl ?_
    refine ks_ldc rfl ?_
    refine ks_ireturn rfl ?_
    -- at 27: ret  st ['-1000001']
    exact t1 (fun q => c q.1)
end MH
end
section
/-! asks -/
/-- the trace: its length in field f of cell a, its numbers in cell c -/
def AK (μ : kx_M) (c a : Nat) (f : Int) (l : List Int) : Prop := μ a f = (l.length : Nat) ∧ ∀ i : Nat, i < l.length → μ c i = l.getD i 0
def FrC (μ μ' : kx_M) : Prop := ∀ c, c ≠ 55 → c ≠ 56 → μ' c = μ c
def FrT (μ μ' : kx_M) : Prop := (∀ j, j ≠ 23 → μ' 77 j = μ 77 j) ∧ ∀ c, c ≠ 77 → c ≠ 90 → μ' c = μ c
theorem FrC_tr {μ μ1 μ2 : kx_M} (h : FrC μ μ1) (k : FrC μ1 μ2) : FrC μ μ2 := fun c a b => (k c a b).trans (h c a b)
theorem FrT_tr {μ μ1 μ2 : kx_M} (h : FrT μ μ1) (k : FrT μ1 μ2) : FrT μ μ2 := ⟨fun j a => (k.1 j a).trans (h.1 j a), fun c a b => (k.2 c a b).trans (h.2 c a b)⟩
theorem AK_push {μ : kx_M} {c a : Nat} {f b : Int} {l : List Int} (hca : c ≠ a) (A : AK μ c a f l) : AK (kx_up (kx_up μ c l.length b) a f (l.length + 1)) c a f (l ++ [b]) := by
  refine ⟨?_, fun i hi => ?_⟩
  · rw [kx_up_self, List.length_append]; rfl
  · rw [kx_up_row hca]
    rw [List.length_append] at hi
    have hi2 : i < l.length + 1 := hi
    by_cases e : i = l.length
    · subst e
      rw [kx_up_self]
      simp
    · rw [kx_up_oth (by omega), A.2 i (by omega)]
      simp only [List.getD_eq_getElem?_getD]
      rw [List.getElem?_append_left (by omega)]
theorem TR_C {μ μ' : kx_M} {s : Int → Int} {z : Int} (T : TRx μ 30 s z) (F : FrC μ μ') : TRx μ' 30 s z := TR_fr T (fun c c0 c1 => F c (by omega) (by omega))
section ASK
variable {d L : Nat} {G : kx_G} {μ : kx_M} {Q : Option kx_V → kx_G → kx_M → Prop} {s : Int → Int} {h b e : Int} {l : List Int}
theorem r_leaveNumber (A : AK μ 56 55 1 l) (hl : l.length < 16) (t : ∀ μ', AK μ' 56 55 1 (l ++ [b]) → FrC μ μ' → Q none (kg L) μ') : kx_cx (ke (d + 1)) 9 [kR 55, kI b] (kg L) μ Q := by
  refine ke_start (tb := kt_Asker_leaveNumber) (ls := [some (kR 55), some (kI b)]) rfl rfl ?_
  have a1 := A.1
  refine ks_aload_n rfl rfl ?_
  refine ks_geti rfl rfl rfl rfl (by (try simp only [kx_up_at, kx_row_at, up1_at, Nat.reduceEqDiff, Int.reduceEq, Int.reduceNeg, and_true, true_and, and_false, false_and, and_self, reduceIte, Nat.add_left_cancel_iff, Nat.add_eq_left, Nat.left_eq_add, Nat.reduceAdd, Int.add_left_inj, Int.add_right_inj, a1]); rfl) ?_
  refine ks_bipush rfl ?_
  -- at 6: if ge -> 29 else 9 st ['16', None]
  refine ks_icmp_ge rfl ⟨by omega, by omega⟩ ⟨by omega, by omega⟩ (fun c => ?_) (fun c => absurd c (by omega))
  refine ks_aload_n rfl rfl ?_
  refine ks_getr (b := 56) rfl rfl rfl rfl (by decide) ?_
  refine ks_aload_n rfl rfl ?_
  refine ks_geti rfl rfl rfl rfl (by (try simp only [kx_up_at, kx_row_at, up1_at, Nat.reduceEqDiff, Int.reduceEq, Int.reduceNeg, and_true, true_and, and_false, false_and, and_self, reduceIte, Nat.add_left_cancel_iff, Nat.add_eq_left, Nat.left_eq_add, Nat.reduceAdd, Int.add_left_inj, Int.add_right_inj, a1]); rfl) ?_
  refine ks_iload_n rfl rfl ?_
  refine ks_iastore rfl rfl (by omega) (by omega) ?_
  refine ks_aload_n rfl rfl ?_
  refine ks_dupR rfl ?_
  refine ks_geti rfl rfl rfl rfl (by (try simp only [kx_up_at, kx_row_at, up1_at, Nat.reduceEqDiff, Int.reduceEq, Int.reduceNeg, and_true, true_and, and_false, false_and, and_self, reduceIte, Nat.add_left_cancel_iff, Nat.add_eq_left, Nat.left_eq_add, Nat.reduceAdd, Int.add_left_inj, Int.add_right_inj, a1]); rfl) ?_
  refine ks_iconst rfl ?_
  refine ks_iadd rfl ?_
  refine ks_puti rfl rfl ?_
  refine ks_return rfl ?_
  -- at 29: ret  st []
  refine t _ (AK_push (by omega) A) (fun c c0 c1 => ?_)
  rw [kx_up_row c0, kx_up_row c1]
theorem r_begin (A : AK μ 90 77 23 l) (hl : l.length < 16) (t : ∀ μ', AK μ' 90 77 23 (l ++ [b]) → FrT μ μ' → Q none (kg L) μ') : kx_cx (ke (d + 1)) 179 [kR 77, kI b] (kg L) μ Q := by
  refine ke_start (tb := kt_M_begin) (ls := [some (kR 77), some (kI b)]) rfl rfl ?_
  have a1 := A.1
  refine ks_aload_n rfl rfl ?_
  refine ks_geti rfl rfl rfl rfl (by (try simp only [kx_up_at, kx_row_at, up1_at, Nat.reduceEqDiff, Int.reduceEq, Int.reduceNeg, and_true, true_and, and_false, false_and, and_self, reduceIte, Nat.add_left_cancel_iff, Nat.add_eq_left, Nat.left_eq_add, Nat.reduceAdd, Int.add_left_inj, Int.add_right_inj, a1]); rfl) ?_
  refine ks_bipush rfl ?_
  -- at 6: if ge -> 29 else 9 st ['16', None]
  refine ks_icmp_ge rfl ⟨by omega, by omega⟩ ⟨by omega, by omega⟩ (fun c => ?_) (fun c => absurd c (by omega))
  refine ks_aload_n rfl rfl ?_
  refine ks_getr (b := 90) rfl rfl rfl rfl (by decide) ?_
  refine ks_aload_n rfl rfl ?_
  refine ks_geti rfl rfl rfl rfl (by (try simp only [kx_up_at, kx_row_at, up1_at, Nat.reduceEqDiff, Int.reduceEq, Int.reduceNeg, and_true, true_and, and_false, false_and, and_self, reduceIte, Nat.add_left_cancel_iff, Nat.add_eq_left, Nat.left_eq_add, Nat.reduceAdd, Int.add_left_inj, Int.add_right_inj, a1]); rfl) ?_
  refine ks_iload_n rfl rfl ?_
  refine ks_iastore rfl rfl (by omega) (by omega) ?_
  refine ks_aload_n rfl rfl ?_
  refine ks_dupR rfl ?_
  refine ks_geti rfl rfl rfl rfl (by (try simp only [kx_up_at, kx_row_at, up1_at, Nat.reduceEqDiff, Int.reduceEq, Int.reduceNeg, and_true, true_and, and_false, false_and, and_self, reduceIte, Nat.add_left_cancel_iff, Nat.add_eq_left, Nat.left_eq_add, Nat.reduceAdd, Int.add_left_inj, Int.add_right_inj, a1]); rfl) ?_
  refine ks_iconst rfl ?_
  refine ks_iadd rfl ?_
  refine ks_puti rfl rfl ?_
  refine ks_return rfl ?_
  -- at 29: ret  st []
  refine t _ (AK_push (by omega) A) ⟨fun j hj => ?_, fun c c0 c1 => ?_⟩
  · rw [kx_up_oth hj, kx_up_row (by omega)]
  · rw [kx_up_row c0, kx_up_row c1]
theorem r_rb10 (T : TR μ 30 s) (W : tw_W 999 s) (h0 : 0 ≤ h) (h1 : h < s 1) (e0 : 0 ≤ e) (e1 : e < 12) (A : AK μ 56 55 1 l) (hl : l.length < 16) (t : ∀ μ', AK μ' 56 55 1 (l ++ [10]) → FrC μ μ' → Q (some (kI (s (12 + h)))) (kg L) μ') : kx_cx (ke (d + 2)) 7 [kR 55, kI 10, kR 30, kI h, kI e] (kg L) μ Q := by
  refine ke_start (tb := kt_Asker_runBody) (ls := [some (kR 55), some (kI 10), some (kR 30), some (kI h), some (kI e), none]) rfl rfl ?_
  have w1 := W.1
  refine ks_iload rfl rfl ?_
  refine ks_bipush rfl ?_
  -- at 4: if lt -> 9 else 7 st ['12', None]
  refine ks_icmp_lt rfl ⟨by omega, by omega⟩ ⟨by omega, by omega⟩ (fun c => ?_) (fun c => absurd c (by omega))
  refine ks_aload_n rfl rfl ?_
  refine ks_iload_n rfl rfl ?_
  refine ks_callv_2 rfl rfl rfl (Nat.le_of_ble_eq_true rfl) ?_
  -- at 11: call Asker_leaveNumber st []
  refine r_leaveNumber A hl (fun μ1 A1 F1 => ?_)
  have k := ((TR_C T F1).2.2.2.2.2.2.1 h h0 h1).2.1
  show kx_wx _ _ _ _ _ _ _ _
  refine ks_iload rfl rfl ?_
  refine ks_iconst rfl ?_
  refine ks_iadd rfl ?_
  refine ks_istore_5 rfl rfl ?_
  refine ks_iload_n rfl rfl ?_
  -- at 21: sw  st [None]
  refine ks_tsw rfl ⟨by omega, by omega⟩ ?_
  simp only [kx_sw, Int.reduceAdd, reduceIte, Int.reduceEq]
  refine ks_aload_n rfl rfl ?_
  refine ks_getr (b := 32) rfl rfl rfl rfl (by decide) ?_
  refine ks_iload_n rfl rfl ?_
  refine ks_iaload rfl rfl (by omega) (by omega) (by (try simp only [kx_up_at, kx_row_at, up1_at, Nat.reduceEqDiff, Int.reduceEq, Int.reduceNeg, and_true, true_and, and_false, false_and, and_self, reduceIte, Nat.add_left_cancel_iff, Nat.add_eq_left, Nat.left_eq_add, Nat.reduceAdd, Int.add_left_inj, Int.add_right_inj, k]); rfl) ?_
  refine ks_ireturn rfl ?_
  -- at 102: ret  st [None]
  exact t _ A1 F1
theorem r_rb20 (T : TR μ 30 s) (W : tw_W 999 s) (h0 : 0 ≤ h) (h1 : h < s 1) (e0 : 0 ≤ e) (e1 : e < 12) (A : AK μ 56 55 1 l) (hl : l.length < 16) (t : ∀ μ', AK μ' 56 55 1 (l ++ [20]) → FrC μ μ' → Q (some (kI h)) (kg L) μ') : kx_cx (ke (d + 2)) 7 [kR 55, kI 20, kR 30, kI h, kI e] (kg L) μ Q := by
  refine ke_start (tb := kt_Asker_runBody) (ls := [some (kR 55), some (kI 20), some (kR 30), some (kI h), some (kI e), none]) rfl rfl ?_
  refine ks_iload rfl rfl ?_
  refine ks_bipush rfl ?_
  -- at 4: if lt -> 9 else 7 st ['12', None]
  refine ks_icmp_lt rfl ⟨by omega, by omega⟩ ⟨by omega, by omega⟩ (fun c => ?_) (fun c => absurd c (by omega))
  refine ks_aload_n rfl rfl ?_
  refine ks_iload_n rfl rfl ?_
  refine ks_callv_2 rfl rfl rfl (Nat.le_of_ble_eq_true rfl) ?_
  -- at 11: call Asker_leaveNumber st []
  refine r_leaveNumber A hl (fun μ1 A1 F1 => ?_)
  show kx_wx _ _ _ _ _ _ _ _
  refine ks_iload rfl rfl ?_
  refine ks_iconst rfl ?_
  refine ks_iadd rfl ?_
  refine ks_istore_5 rfl rfl ?_
  refine ks_iload_n rfl rfl ?_
  -- at 21: sw  st [None]
  refine ks_tsw rfl ⟨by omega, by omega⟩ ?_
  simp only [kx_sw, Int.reduceAdd, reduceIte, Int.reduceEq]
  refine ks_iload_n rfl rfl ?_
  refine ks_ireturn rfl ?_
  -- at 164: ret  st [None]
  exact t _ A1 F1
theorem r_rb21 (T : TR μ 30 s) (W : tw_W 999 s) (h0 : 0 ≤ h) (h1 : h < s 1) (e0 : 0 ≤ e) (e1 : e < 11) (A : AK μ 56 55 1 l) (hl : l.length < 15) (t : ∀ μ', AK μ' 56 55 1 (l ++ [21, 20]) → FrC μ μ' → Q (some (kI (h + s (24 + h)))) (kg L) μ') : kx_cx (ke (d + 3)) 7 [kR 55, kI 21, kR 30, kI h, kI e] (kg L) μ Q := by
  refine ke_start (tb := kt_Asker_runBody) (ls := [some (kR 55), some (kI 21), some (kR 30), some (kI h), some (kI e), none]) rfl rfl ?_
  have w1 := W.1
  refine ks_iload rfl rfl ?_
  refine ks_bipush rfl ?_
  -- at 4: if lt -> 9 else 7 st ['12', None]
  refine ks_icmp_lt rfl ⟨by omega, by omega⟩ ⟨by omega, by omega⟩ (fun c => ?_) (fun c => absurd c (by omega))
  refine ks_aload_n rfl rfl ?_
  refine ks_iload_n rfl rfl ?_
  refine ks_callv_2 rfl rfl rfl (Nat.le_of_ble_eq_true rfl) ?_
  -- at 11: call Asker_leaveNumber st []
  refine r_leaveNumber A (by omega) (fun μ1 A1 F1 => ?_)
  show kx_wx _ _ _ _ _ _ _ _
  refine ks_iload rfl rfl ?_
  refine ks_iconst rfl ?_
  refine ks_iadd rfl ?_
  refine ks_istore_5 rfl rfl ?_
  refine ks_iload_n rfl rfl ?_
  -- at 21: sw  st [None]
  refine ks_tsw rfl ⟨by omega, by omega⟩ ?_
  simp only [kx_sw, Int.reduceAdd, reduceIte, Int.reduceEq]
  refine ks_aload_n rfl rfl ?_
  refine ks_bipush rfl ?_
  refine ks_aload_n rfl rfl ?_
  refine ks_iload_n rfl rfl ?_
  refine ks_iload rfl rfl ?_
  refine ks_callv_5 rfl rfl rfl (Nat.le_of_ble_eq_true rfl) ?_
  -- at 172: call Asker_runBody st []
  refine r_rb20 (TR_C T F1) W h0 h1 (by omega) (by omega) A1 (by rw [List.length_append]; show l.length + 1 < 16; omega) (fun μ2 A2 F2 => ?_)
  have k := ((TR_C T (FrC_tr F1 F2)).2.2.2.2.2.2.1 h h0 h1).2.2.2
  show kx_wx _ _ _ _ _ (_ :: _) _ _
  refine ks_aload_n rfl rfl ?_
  refine ks_getr (b := 34) rfl rfl rfl rfl (by decide) ?_
  refine ks_iload_n rfl rfl ?_
  refine ks_iaload rfl rfl (by omega) (by omega) (by (try simp only [kx_up_at, kx_row_at, up1_at, Nat.reduceEqDiff, Int.reduceEq, Int.reduceNeg, and_true, true_and, and_false, false_and, and_self, reduceIte, Nat.add_left_cancel_iff, Nat.add_eq_left, Nat.left_eq_add, Nat.reduceAdd, Int.add_left_inj, Int.add_right_inj, k]); rfl) ?_
  refine ks_iadd rfl ?_
  refine ks_ireturn rfl ?_
  -- at 182: ret  st [None]
  rw [List.append_assoc] at A2
  exact t _ A2 (FrC_tr F1 F2)
theorem r_rb22 (T : TR μ 30 s) (W : tw_W 999 s) (h0 : 0 ≤ h) (h1 : h < s 1) (e0 : 0 ≤ e) (e1 : e < 10) (A : AK μ 56 55 1 l) (hl : l.length < 14) (t : ∀ μ', AK μ' 56 55 1 (l ++ [22, 21, 20]) → FrC μ μ' → Q (some (kI (h + s (24 + h) - 1000))) (kg L) μ') : kx_cx (ke (d + 4)) 7 [kR 55, kI 22, kR 30, kI h, kI e] (kg L) μ Q := by
  refine ke_start (tb := kt_Asker_runBody) (ls := [some (kR 55), some (kI 22), some (kR 30), some (kI h), some (kI e), none]) rfl rfl ?_
  refine ks_iload rfl rfl ?_
  refine ks_bipush rfl ?_
  -- at 4: if lt -> 9 else 7 st ['12', None]
  refine ks_icmp_lt rfl ⟨by omega, by omega⟩ ⟨by omega, by omega⟩ (fun c => ?_) (fun c => absurd c (by omega))
  refine ks_aload_n rfl rfl ?_
  refine ks_iload_n rfl rfl ?_
  refine ks_callv_2 rfl rfl rfl (Nat.le_of_ble_eq_true rfl) ?_
  -- at 11: call Asker_leaveNumber st []
  refine r_leaveNumber A (by omega) (fun μ1 A1 F1 => ?_)
  show kx_wx _ _ _ _ _ _ _ _
  refine ks_iload rfl rfl ?_
  refine ks_iconst rfl ?_
  refine ks_iadd rfl ?_
  refine ks_istore_5 rfl rfl ?_
  refine ks_iload_n rfl rfl ?_
  -- at 21: sw  st [None]
  refine ks_tsw rfl ⟨by omega, by omega⟩ ?_
  simp only [kx_sw, Int.reduceAdd, reduceIte, Int.reduceEq]
  refine ks_aload_n rfl rfl ?_
  refine ks_bipush rfl ?_
  refine ks_aload_n rfl rfl ?_
  refine ks_iload_n rfl rfl ?_
  refine ks_iload rfl rfl ?_
  refine ks_callv_5 rfl rfl rfl (Nat.le_of_ble_eq_true rfl) ?_
  -- at 190: call Asker_runBody st []
  refine r_rb21 (TR_C T F1) W h0 h1 (by omega) (by omega) A1 (by rw [List.length_append]; show l.length + 1 < 15; omega) (fun μ2 A2 F2 => ?_)
  show kx_wx _ _ _ _ _ (_ :: _) _ _
  refine ks_sipush rfl ?_
  refine ks_isub rfl ?_
  refine ks_ireturn rfl ?_
  -- at 197: ret  st [None]
  rw [List.append_assoc] at A2
  exact t _ A2 (FrC_tr F1 F2)
theorem r_rb24 (T : TR μ 30 s) (W : tw_W 999 s) (h0 : 0 ≤ h) (h1 : h < s 1) (e0 : 0 ≤ e) (e1 : e < 10) (A : AK μ 56 55 1 l) (hl : l.length < 14) (t : ∀ μ', AK μ' 56 55 1 (l ++ [24, 21, 20]) → FrC μ μ' → Q (some (kI (2 * (h + s (24 + h))))) (kg L) μ') : kx_cx (ke (d + 4)) 7 [kR 55, kI 24, kR 30, kI h, kI e] (kg L) μ Q := by
  refine ke_start (tb := kt_Asker_runBody) (ls := [some (kR 55), some (kI 24), some (kR 30), some (kI h), some (kI e), none]) rfl rfl ?_
  refine ks_iload rfl rfl ?_
  refine ks_bipush rfl ?_
  -- at 4: if lt -> 9 else 7 st ['12', None]
  refine ks_icmp_lt rfl ⟨by omega, by omega⟩ ⟨by omega, by omega⟩ (fun c => ?_) (fun c => absurd c (by omega))
  refine ks_aload_n rfl rfl ?_
  refine ks_iload_n rfl rfl ?_
  refine ks_callv_2 rfl rfl rfl (Nat.le_of_ble_eq_true rfl) ?_
  -- at 11: call Asker_leaveNumber st []
  refine r_leaveNumber A (by omega) (fun μ1 A1 F1 => ?_)
  show kx_wx _ _ _ _ _ _ _ _
  refine ks_iload rfl rfl ?_
  refine ks_iconst rfl ?_
  refine ks_iadd rfl ?_
  refine ks_istore_5 rfl rfl ?_
  refine ks_iload_n rfl rfl ?_
  -- at 21: sw  st [None]
  refine ks_tsw rfl ⟨by omega, by omega⟩ ?_
  simp only [kx_sw, Int.reduceAdd, reduceIte, Int.reduceEq]
  refine ks_iconst rfl ?_
  refine ks_aload_n rfl rfl ?_
  refine ks_bipush rfl ?_
  refine ks_aload_n rfl rfl ?_
  refine ks_iload_n rfl rfl ?_
  refine ks_iload rfl rfl ?_
  refine ks_callv_5 rfl rfl rfl (Nat.le_of_ble_eq_true rfl) ?_
  -- at 227: call Asker_runBody st ['2']
  refine r_rb21 (TR_C T F1) W h0 h1 (by omega) (by omega) A1 (by rw [List.length_append]; show l.length + 1 < 15; omega) (fun μ2 A2 F2 => ?_)
  show kx_wx _ _ _ _ _ (_ :: _) _ _
  refine ks_imul rfl ?_
  refine ks_ireturn rfl ?_
  -- at 231: ret  st [None]
  rw [List.append_assoc] at A2
  exact t _ A2 (FrC_tr F1 F2)
theorem r_rb13 (T : TR μ 30 s) (W : tw_W 999 s) (h0 : 0 ≤ h) (h1 : h < s 1) (e0 : 0 ≤ e) (e1 : e < 11) (A : AK μ 56 55 1 l) (hl : l.length < 15) (t : ∀ μ', AK μ' 56 55 1 (l ++ [13, 10]) → FrC μ μ' → Q (some (kI (s (12 + h) - 100))) (kg L) μ') : kx_cx (ke (d + 3)) 7 [kR 55, kI 13, kR 30, kI h, kI e] (kg L) μ Q := by
  refine ke_start (tb := kt_Asker_runBody) (ls := [some (kR 55), some (kI 13), some (kR 30), some (kI h), some (kI e), none]) rfl rfl ?_
  refine ks_iload rfl rfl ?_
  refine ks_bipush rfl ?_
  -- at 4: if lt -> 9 else 7 st ['12', None]
  refine ks_icmp_lt rfl ⟨by omega, by omega⟩ ⟨by omega, by omega⟩ (fun c => ?_) (fun c => absurd c (by omega))
  refine ks_aload_n rfl rfl ?_
  refine ks_iload_n rfl rfl ?_
  refine ks_callv_2 rfl rfl rfl (Nat.le_of_ble_eq_true rfl) ?_
  -- at 11: call Asker_leaveNumber st []
  refine r_leaveNumber A (by omega) (fun μ1 A1 F1 => ?_)
  show kx_wx _ _ _ _ _ _ _ _
  refine ks_iload rfl rfl ?_
  refine ks_iconst rfl ?_
  refine ks_iadd rfl ?_
  refine ks_istore_5 rfl rfl ?_
  refine ks_iload_n rfl rfl ?_
  -- at 21: sw  st [None]
  refine ks_tsw rfl ⟨by omega, by omega⟩ ?_
  simp only [kx_sw, Int.reduceAdd, reduceIte, Int.reduceEq]
  refine ks_aload_n rfl rfl ?_
  refine ks_bipush rfl ?_
  refine ks_aload_n rfl rfl ?_
  refine ks_iload_n rfl rfl ?_
  refine ks_iload rfl rfl ?_
  refine ks_callv_5 rfl rfl rfl (Nat.le_of_ble_eq_true rfl) ?_
  -- at 143: call Asker_runBody st []
  refine r_rb10 (TR_C T F1) W h0 h1 (by omega) (by omega) A1 (by rw [List.length_append]; show l.length + 1 < 16; omega) (fun μ2 A2 F2 => ?_)
  show kx_wx _ _ _ _ _ (_ :: _) _ _
  refine ks_bipush rfl ?_
  refine ks_isub rfl ?_
  refine ks_ireturn rfl ?_
  -- at 149: ret  st [None]
  rw [List.append_assoc] at A2
  exact t _ A2 (FrC_tr F1 F2)
theorem r_rb14 (T : TR μ 30 s) (W : tw_W 999 s) (h0 : 0 ≤ h) (h1 : h < s 1) (e0 : 0 ≤ e) (e1 : e < 10) (A : AK μ 56 55 1 l) (hl : l.length < 14) (t : ∀ μ', AK μ' 56 55 1 (l ++ [14, 13, 10]) → FrC μ μ' → Q (some (kI (2 * (s (12 + h) - 100)))) (kg L) μ') : kx_cx (ke (d + 4)) 7 [kR 55, kI 14, kR 30, kI h, kI e] (kg L) μ Q := by
  refine ke_start (tb := kt_Asker_runBody) (ls := [some (kR 55), some (kI 14), some (kR 30), some (kI h), some (kI e), none]) rfl rfl ?_
  refine ks_iload rfl rfl ?_
  refine ks_bipush rfl ?_
  -- at 4: if lt -> 9 else 7 st ['12', None]
  refine ks_icmp_lt rfl ⟨by omega, by omega⟩ ⟨by omega, by omega⟩ (fun c => ?_) (fun c => absurd c (by omega))
  refine ks_aload_n rfl rfl ?_
  refine ks_iload_n rfl rfl ?_
  refine ks_callv_2 rfl rfl rfl (Nat.le_of_ble_eq_true rfl) ?_
  -- at 11: call Asker_leaveNumber st []
  refine r_leaveNumber A (by omega) (fun μ1 A1 F1 => ?_)
  show kx_wx _ _ _ _ _ _ _ _
  refine ks_iload rfl rfl ?_
  refine ks_iconst rfl ?_
  refine ks_iadd rfl ?_
  refine ks_istore_5 rfl rfl ?_
  refine ks_iload_n rfl rfl ?_
  -- at 21: sw  st [None]
  refine ks_tsw rfl ⟨by omega, by omega⟩ ?_
  simp only [kx_sw, Int.reduceAdd, reduceIte, Int.reduceEq]
  refine ks_iconst rfl ?_
  refine ks_aload_n rfl rfl ?_
  refine ks_bipush rfl ?_
  refine ks_aload_n rfl rfl ?_
  refine ks_iload_n rfl rfl ?_
  refine ks_iload rfl rfl ?_
  refine ks_callv_5 rfl rfl rfl (Nat.le_of_ble_eq_true rfl) ?_
  -- at 158: call Asker_runBody st ['2']
  refine r_rb13 (TR_C T F1) W h0 h1 (by omega) (by omega) A1 (by rw [List.length_append]; show l.length + 1 < 15; omega) (fun μ2 A2 F2 => ?_)
  show kx_wx _ _ _ _ _ (_ :: _) _ _
  refine ks_imul rfl ?_
  refine ks_ireturn rfl ?_
  -- at 162: ret  st [None]
  rw [List.append_assoc] at A2
  exact t _ A2 (FrC_tr F1 F2)
/-- the tables, and the text of the sorts -/
def TB (μ : kx_M) : Prop := μ 101 = (fun j => ([0, 0, 1, 1, 0, 4] : List Int).getD j.toNat 0) ∧ μ 102 = (fun j => ([10, 11, 12, 0, 13, 14] : List Int).getD j.toNat 0) ∧ μ 103 = (fun j => ([20, 21, 24, 22, 23, 0] : List Int).getD j.toNat 0) ∧ μ 106 = (fun j => ([102, 115, 116, 119, 98] : List Int).getD j.toNat 0)
theorem TB_fr {μ μ' : kx_M} (T : TB μ) (f : ∀ c, 100 < c → μ' c = μ c) : TB μ' := by
  unfold TB at *
  rw [f 101 (by omega), f 102 (by omega), f 103 (by omega), f 106 (by omega)]
  exact T
def q_bo (k w : Int) : Int := if w = 0 then (if k = 1 then 11 else if k = 2 then 12 else if k = 3 then 11 else if k = 4 then 13 else 14) else (if k = 1 then 21 else if k = 2 then 24 else if k = 3 then 22 else 23)
theorem r_bodyOf {k w : Int} (B : TB μ) (k0 : 1 ≤ k) (k1 : k ≤ 5) (w0 : 0 ≤ w) (w1 : w ≤ 1) (t : Q (some (kI (q_bo k w))) (kg L) μ) : kx_cx (ke (d + 1)) 29 [kI k, kI w] (kg L) μ Q := by
  refine ke_start (tb := kt_Kinds_bodyOf) (ls := [some (kI k), some (kI w), none, none, none]) rfl rfl ?_
  obtain ⟨b1, b2, b3, b4⟩ := B
  have b13 : μ 101 3 = 1 := by rw [b1]; rfl
  have b15 : μ 101 5 = 4 := by rw [b1]; rfl
  refine ks_iload_n rfl rfl ?_
  -- at 1: if ne -> 10 else 4 st [None]
  refine ks_if_ne rfl ⟨by omega, by omega⟩ (fun c => ?_) (fun c => ?_)
  · subst c
    have c1 : μ 102 1 = 11 := by rw [b2]; rfl
    have c2 : μ 102 2 = 12 := by rw [b2]; rfl
    have c3 : μ 102 3 = 0 := by rw [b2]; rfl
    have c4 : μ 102 4 = 13 := by rw [b2]; rfl
    have c5 : μ 102 5 = 14 := by rw [b2]; rfl
    have hk : k = 1 ∨ k = 2 ∨ k = 3 ∨ k = 4 ∨ k = 5 := by omega
    rcases hk with e | e | e | e | e
    · subst e
      refine ks_getstatic rfl ?_
      refine ks_goto rfl ?_
      refine ks_astore_n_2 rfl rfl ?_
      refine ks_iload_n rfl rfl ?_
      refine ks_istore_n_3 rfl rfl ?_
      refine ks_iconst rfl ?_
      refine ks_istore_4 rfl rfl ?_
      refine ks_iload rfl rfl ?_
      refine ks_bipush rfl ?_
      -- at 23: if ge -> 48 else 26 st ['6', '0']
      refine ks_icmp_ge rfl ⟨by omega, by omega⟩ ⟨by omega, by omega⟩ (fun q => ?_) (fun q => absurd q (by omega))
      refine ks_aload_n rfl rfl ?_
      refine ks_iload_n rfl rfl ?_
      refine ks_iaload7 rfl rfl (by omega) (by omega) (by (try simp only [kx_up_at, kx_row_at, up1_at, Nat.reduceEqDiff, Int.reduceEq, Int.reduceNeg, and_true, true_and, and_false, false_and, and_self, reduceIte, Nat.add_left_cancel_iff, Nat.add_eq_left, Nat.left_eq_add, Nat.reduceAdd, Int.add_left_inj, Int.add_right_inj, c1]); rfl) ?_
      -- at 29: if eq -> 36 else 32 st [None]
      refine ks_if_eq rfl ⟨by omega, by omega⟩ (fun q2 => absurd q2 (by omega)) (fun q2 => ?_)
      refine ks_aload_n rfl rfl ?_
      refine ks_iload_n rfl rfl ?_
      refine ks_iaload7 rfl rfl (by omega) (by omega) (by (try simp only [kx_up_at, kx_row_at, up1_at, Nat.reduceEqDiff, Int.reduceEq, Int.reduceNeg, and_true, true_and, and_false, false_and, and_self, reduceIte, Nat.add_left_cancel_iff, Nat.add_eq_left, Nat.left_eq_add, Nat.reduceAdd, Int.add_left_inj, Int.add_right_inj, c1]); rfl) ?_
      refine ks_ireturn rfl ?_
      -- at 35: ret  st [None]
      exact t
    · subst e
      refine ks_getstatic rfl ?_
      refine ks_goto rfl ?_
      refine ks_astore_n_2 rfl rfl ?_
      refine ks_iload_n rfl rfl ?_
      refine ks_istore_n_3 rfl rfl ?_
      refine ks_iconst rfl ?_
      refine ks_istore_4 rfl rfl ?_
      refine ks_iload rfl rfl ?_
      refine ks_bipush rfl ?_
      -- at 23: if ge -> 48 else 26 st ['6', '0']
      refine ks_icmp_ge rfl ⟨by omega, by omega⟩ ⟨by omega, by omega⟩ (fun q => ?_) (fun q => absurd q (by omega))
      refine ks_aload_n rfl rfl ?_
      refine ks_iload_n rfl rfl ?_
      refine ks_iaload7 rfl rfl (by omega) (by omega) (by (try simp only [kx_up_at, kx_row_at, up1_at, Nat.reduceEqDiff, Int.reduceEq, Int.reduceNeg, and_true, true_and, and_false, false_and, and_self, reduceIte, Nat.add_left_cancel_iff, Nat.add_eq_left, Nat.left_eq_add, Nat.reduceAdd, Int.add_left_inj, Int.add_right_inj, c2]); rfl) ?_
      -- at 29: if eq -> 36 else 32 st [None]
      refine ks_if_eq rfl ⟨by omega, by omega⟩ (fun q2 => absurd q2 (by omega)) (fun q2 => ?_)
      refine ks_aload_n rfl rfl ?_
      refine ks_iload_n rfl rfl ?_
      refine ks_iaload7 rfl rfl (by omega) (by omega) (by (try simp only [kx_up_at, kx_row_at, up1_at, Nat.reduceEqDiff, Int.reduceEq, Int.reduceNeg, and_true, true_and, and_false, false_and, and_self, reduceIte, Nat.add_left_cancel_iff, Nat.add_eq_left, Nat.left_eq_add, Nat.reduceAdd, Int.add_left_inj, Int.add_right_inj, c2]); rfl) ?_
      refine ks_ireturn rfl ?_
      -- at 35: ret  st [None]
      exact t
    · subst e
      refine ks_getstatic rfl ?_
      refine ks_goto rfl ?_
      refine ks_astore_n_2 rfl rfl ?_
      refine ks_iload_n rfl rfl ?_
      refine ks_istore_n_3 rfl rfl ?_
      refine ks_iconst rfl ?_
      refine ks_istore_4 rfl rfl ?_
      refine ks_iload rfl rfl ?_
      refine ks_bipush rfl ?_
      -- at 23: if ge -> 48 else 26 st ['6', '0']
      refine ks_icmp_ge rfl ⟨by omega, by omega⟩ ⟨by omega, by omega⟩ (fun q => ?_) (fun q => absurd q (by omega))
      refine ks_aload_n rfl rfl ?_
      refine ks_iload_n rfl rfl ?_
      refine ks_iaload7 rfl rfl (by omega) (by omega) (by (try simp only [kx_up_at, kx_row_at, up1_at, Nat.reduceEqDiff, Int.reduceEq, Int.reduceNeg, and_true, true_and, and_false, false_and, and_self, reduceIte, Nat.add_left_cancel_iff, Nat.add_eq_left, Nat.left_eq_add, Nat.reduceAdd, Int.add_left_inj, Int.add_right_inj, c3]); rfl) ?_
      -- at 29: if eq -> 36 else 32 st [None]
      refine ks_if_eq rfl ⟨by omega, by omega⟩ (fun q2 => ?_) (fun q2 => absurd q2 (by omega))
      refine ks_getstatic rfl ?_
      refine ks_iload_n rfl rfl ?_
      refine ks_iaload7 rfl rfl (by omega) (by omega) (by (try simp only [kx_up_at, kx_row_at, up1_at, Nat.reduceEqDiff, Int.reduceEq, Int.reduceNeg, and_true, true_and, and_false, false_and, and_self, reduceIte, Nat.add_left_cancel_iff, Nat.add_eq_left, Nat.left_eq_add, Nat.reduceAdd, Int.add_left_inj, Int.add_right_inj, b13]); rfl) ?_
      refine ks_istore_n_3 rfl rfl ?_
      refine ks_iinc_4 rfl rfl ?_
      refine ks_goto rfl ?_
      refine ks_iload rfl rfl ?_
      refine ks_bipush rfl ?_
      -- at 23: if ge -> 48 else 26 st ['6', None]
      refine ks_icmp_ge rfl ⟨by omega, by omega⟩ ⟨by omega, by omega⟩ (fun q3 => ?_) (fun q3 => absurd q3 (by omega))
      refine ks_aload_n rfl rfl ?_
      refine ks_iload_n rfl rfl ?_
      refine ks_iaload7 rfl rfl (by omega) (by omega) (by (try simp only [kx_up_at, kx_row_at, up1_at, Nat.reduceEqDiff, Int.reduceEq, Int.reduceNeg, and_true, true_and, and_false, false_and, and_self, reduceIte, Nat.add_left_cancel_iff, Nat.add_eq_left, Nat.left_eq_add, Nat.reduceAdd, Int.add_left_inj, Int.add_right_inj, c1]); rfl) ?_
      -- at 29: if eq -> 36 else 32 st [None]
      refine ks_if_eq rfl ⟨by omega, by omega⟩ (fun q4 => absurd q4 (by omega)) (fun q4 => ?_)
      refine ks_aload_n rfl rfl ?_
      refine ks_iload_n rfl rfl ?_
      refine ks_iaload7 rfl rfl (by omega) (by omega) (by (try simp only [kx_up_at, kx_row_at, up1_at, Nat.reduceEqDiff, Int.reduceEq, Int.reduceNeg, and_true, true_and, and_false, false_and, and_self, reduceIte, Nat.add_left_cancel_iff, Nat.add_eq_left, Nat.left_eq_add, Nat.reduceAdd, Int.add_left_inj, Int.add_right_inj, c1]); rfl) ?_
      refine ks_ireturn rfl ?_
      -- at 35: ret  st [None]
      exact t
    · subst e
      refine ks_getstatic rfl ?_
      refine ks_goto rfl ?_
      refine ks_astore_n_2 rfl rfl ?_
      refine ks_iload_n rfl rfl ?_
      refine ks_istore_n_3 rfl rfl ?_
      refine ks_iconst rfl ?_
      refine ks_istore_4 rfl rfl ?_
      refine ks_iload rfl rfl ?_
      refine ks_bipush rfl ?_
      -- at 23: if ge -> 48 else 26 st ['6', '0']
      refine ks_icmp_ge rfl ⟨by omega, by omega⟩ ⟨by omega, by omega⟩ (fun q => ?_) (fun q => absurd q (by omega))
      refine ks_aload_n rfl rfl ?_
      refine ks_iload_n rfl rfl ?_
      refine ks_iaload7 rfl rfl (by omega) (by omega) (by (try simp only [kx_up_at, kx_row_at, up1_at, Nat.reduceEqDiff, Int.reduceEq, Int.reduceNeg, and_true, true_and, and_false, false_and, and_self, reduceIte, Nat.add_left_cancel_iff, Nat.add_eq_left, Nat.left_eq_add, Nat.reduceAdd, Int.add_left_inj, Int.add_right_inj, c4]); rfl) ?_
      -- at 29: if eq -> 36 else 32 st [None]
      refine ks_if_eq rfl ⟨by omega, by omega⟩ (fun q2 => absurd q2 (by omega)) (fun q2 => ?_)
      refine ks_aload_n rfl rfl ?_
      refine ks_iload_n rfl rfl ?_
      refine ks_iaload7 rfl rfl (by omega) (by omega) (by (try simp only [kx_up_at, kx_row_at, up1_at, Nat.reduceEqDiff, Int.reduceEq, Int.reduceNeg, and_true, true_and, and_false, false_and, and_self, reduceIte, Nat.add_left_cancel_iff, Nat.add_eq_left, Nat.left_eq_add, Nat.reduceAdd, Int.add_left_inj, Int.add_right_inj, c4]); rfl) ?_
      refine ks_ireturn rfl ?_
      -- at 35: ret  st [None]
      exact t
    · subst e
      refine ks_getstatic rfl ?_
      refine ks_goto rfl ?_
      refine ks_astore_n_2 rfl rfl ?_
      refine ks_iload_n rfl rfl ?_
      refine ks_istore_n_3 rfl rfl ?_
      refine ks_iconst rfl ?_
      refine ks_istore_4 rfl rfl ?_
      refine ks_iload rfl rfl ?_
      refine ks_bipush rfl ?_
      -- at 23: if ge -> 48 else 26 st ['6', '0']
      refine ks_icmp_ge rfl ⟨by omega, by omega⟩ ⟨by omega, by omega⟩ (fun q => ?_) (fun q => absurd q (by omega))
      refine ks_aload_n rfl rfl ?_
      refine ks_iload_n rfl rfl ?_
      refine ks_iaload7 rfl rfl (by omega) (by omega) (by (try simp only [kx_up_at, kx_row_at, up1_at, Nat.reduceEqDiff, Int.reduceEq, Int.reduceNeg, and_true, true_and, and_false, false_and, and_self, reduceIte, Nat.add_left_cancel_iff, Nat.add_eq_left, Nat.left_eq_add, Nat.reduceAdd, Int.add_left_inj, Int.add_right_inj, c5]); rfl) ?_
      -- at 29: if eq -> 36 else 32 st [None]
      refine ks_if_eq rfl ⟨by omega, by omega⟩ (fun q2 => absurd q2 (by omega)) (fun q2 => ?_)
      refine ks_aload_n rfl rfl ?_
      refine ks_iload_n rfl rfl ?_
      refine ks_iaload7 rfl rfl (by omega) (by omega) (by (try simp only [kx_up_at, kx_row_at, up1_at, Nat.reduceEqDiff, Int.reduceEq, Int.reduceNeg, and_true, true_and, and_false, false_and, and_self, reduceIte, Nat.add_left_cancel_iff, Nat.add_eq_left, Nat.left_eq_add, Nat.reduceAdd, Int.add_left_inj, Int.add_right_inj, c5]); rfl) ?_
      refine ks_ireturn rfl ?_
      -- at 35: ret  st [None]
      exact t
  · have ew : w = 1 := by omega
    subst ew
    have c1 : μ 103 1 = 21 := by rw [b3]; rfl
    have c2 : μ 103 2 = 24 := by rw [b3]; rfl
    have c3 : μ 103 3 = 22 := by rw [b3]; rfl
    have c4 : μ 103 4 = 23 := by rw [b3]; rfl
    have c5 : μ 103 5 = 0 := by rw [b3]; rfl
    have hk : k = 1 ∨ k = 2 ∨ k = 3 ∨ k = 4 ∨ k = 5 := by omega
    rcases hk with e | e | e | e | e
    · subst e
      refine ks_getstatic rfl ?_
      refine ks_astore_n_2 rfl rfl ?_
      refine ks_iload_n rfl rfl ?_
      refine ks_istore_n_3 rfl rfl ?_
      refine ks_iconst rfl ?_
      refine ks_istore_4 rfl rfl ?_
      refine ks_iload rfl rfl ?_
      refine ks_bipush rfl ?_
      -- at 23: if ge -> 48 else 26 st ['6', '0']
      refine ks_icmp_ge rfl ⟨by omega, by omega⟩ ⟨by omega, by omega⟩ (fun q => ?_) (fun q => absurd q (by omega))
      refine ks_aload_n rfl rfl ?_
      refine ks_iload_n rfl rfl ?_
      refine ks_iaload7 rfl rfl (by omega) (by omega) (by (try simp only [kx_up_at, kx_row_at, up1_at, Nat.reduceEqDiff, Int.reduceEq, Int.reduceNeg, and_true, true_and, and_false, false_and, and_self, reduceIte, Nat.add_left_cancel_iff, Nat.add_eq_left, Nat.left_eq_add, Nat.reduceAdd, Int.add_left_inj, Int.add_right_inj, c1]); rfl) ?_
      -- at 29: if eq -> 36 else 32 st [None]
      refine ks_if_eq rfl ⟨by omega, by omega⟩ (fun q2 => absurd q2 (by omega)) (fun q2 => ?_)
      refine ks_aload_n rfl rfl ?_
      refine ks_iload_n rfl rfl ?_
      refine ks_iaload7 rfl rfl (by omega) (by omega) (by (try simp only [kx_up_at, kx_row_at, up1_at, Nat.reduceEqDiff, Int.reduceEq, Int.reduceNeg, and_true, true_and, and_false, false_and, and_self, reduceIte, Nat.add_left_cancel_iff, Nat.add_eq_left, Nat.left_eq_add, Nat.reduceAdd, Int.add_left_inj, Int.add_right_inj, c1]); rfl) ?_
      refine ks_ireturn rfl ?_
      -- at 35: ret  st [None]
      exact t
    · subst e
      refine ks_getstatic rfl ?_
      refine ks_astore_n_2 rfl rfl ?_
      refine ks_iload_n rfl rfl ?_
      refine ks_istore_n_3 rfl rfl ?_
      refine ks_iconst rfl ?_
      refine ks_istore_4 rfl rfl ?_
      refine ks_iload rfl rfl ?_
      refine ks_bipush rfl ?_
      -- at 23: if ge -> 48 else 26 st ['6', '0']
      refine ks_icmp_ge rfl ⟨by omega, by omega⟩ ⟨by omega, by omega⟩ (fun q => ?_) (fun q => absurd q (by omega))
      refine ks_aload_n rfl rfl ?_
      refine ks_iload_n rfl rfl ?_
      refine ks_iaload7 rfl rfl (by omega) (by omega) (by (try simp only [kx_up_at, kx_row_at, up1_at, Nat.reduceEqDiff, Int.reduceEq, Int.reduceNeg, and_true, true_and, and_false, false_and, and_self, reduceIte, Nat.add_left_cancel_iff, Nat.add_eq_left, Nat.left_eq_add, Nat.reduceAdd, Int.add_left_inj, Int.add_right_inj, c2]); rfl) ?_
      -- at 29: if eq -> 36 else 32 st [None]
      refine ks_if_eq rfl ⟨by omega, by omega⟩ (fun q2 => absurd q2 (by omega)) (fun q2 => ?_)
      refine ks_aload_n rfl rfl ?_
      refine ks_iload_n rfl rfl ?_
      refine ks_iaload7 rfl rfl (by omega) (by omega) (by (try simp only [kx_up_at, kx_row_at, up1_at, Nat.reduceEqDiff, Int.reduceEq, Int.reduceNeg, and_true, true_and, and_false, false_and, and_self, reduceIte, Nat.add_left_cancel_iff, Nat.add_eq_left, Nat.left_eq_add, Nat.reduceAdd, Int.add_left_inj, Int.add_right_inj, c2]); rfl) ?_
      refine ks_ireturn rfl ?_
      -- at 35: ret  st [None]
      exact t
    · subst e
      refine ks_getstatic rfl ?_
      refine ks_astore_n_2 rfl rfl ?_
      refine ks_iload_n rfl rfl ?_
      refine ks_istore_n_3 rfl rfl ?_
      refine ks_iconst rfl ?_
      refine ks_istore_4 rfl rfl ?_
      refine ks_iload rfl rfl ?_
      refine ks_bipush rfl ?_
      -- at 23: if ge -> 48 else 26 st ['6', '0']
      refine ks_icmp_ge rfl ⟨by omega, by omega⟩ ⟨by omega, by omega⟩ (fun q => ?_) (fun q => absurd q (by omega))
      refine ks_aload_n rfl rfl ?_
      refine ks_iload_n rfl rfl ?_
      refine ks_iaload7 rfl rfl (by omega) (by omega) (by (try simp only [kx_up_at, kx_row_at, up1_at, Nat.reduceEqDiff, Int.reduceEq, Int.reduceNeg, and_true, true_and, and_false, false_and, and_self, reduceIte, Nat.add_left_cancel_iff, Nat.add_eq_left, Nat.left_eq_add, Nat.reduceAdd, Int.add_left_inj, Int.add_right_inj, c3]); rfl) ?_
      -- at 29: if eq -> 36 else 32 st [None]
      refine ks_if_eq rfl ⟨by omega, by omega⟩ (fun q2 => absurd q2 (by omega)) (fun q2 => ?_)
      refine ks_aload_n rfl rfl ?_
      refine ks_iload_n rfl rfl ?_
      refine ks_iaload7 rfl rfl (by omega) (by omega) (by (try simp only [kx_up_at, kx_row_at, up1_at, Nat.reduceEqDiff, Int.reduceEq, Int.reduceNeg, and_true, true_and, and_false, false_and, and_self, reduceIte, Nat.add_left_cancel_iff, Nat.add_eq_left, Nat.left_eq_add, Nat.reduceAdd, Int.add_left_inj, Int.add_right_inj, c3]); rfl) ?_
      refine ks_ireturn rfl ?_
      -- at 35: ret  st [None]
      exact t
    · subst e
      refine ks_getstatic rfl ?_
      refine ks_astore_n_2 rfl rfl ?_
      refine ks_iload_n rfl rfl ?_
      refine ks_istore_n_3 rfl rfl ?_
      refine ks_iconst rfl ?_
      refine ks_istore_4 rfl rfl ?_
      refine ks_iload rfl rfl ?_
      refine ks_bipush rfl ?_
      -- at 23: if ge -> 48 else 26 st ['6', '0']
      refine ks_icmp_ge rfl ⟨by omega, by omega⟩ ⟨by omega, by omega⟩ (fun q => ?_) (fun q => absurd q (by omega))
      refine ks_aload_n rfl rfl ?_
      refine ks_iload_n rfl rfl ?_
      refine ks_iaload7 rfl rfl (by omega) (by omega) (by (try simp only [kx_up_at, kx_row_at, up1_at, Nat.reduceEqDiff, Int.reduceEq, Int.reduceNeg, and_true, true_and, and_false, false_and, and_self, reduceIte, Nat.add_left_cancel_iff, Nat.add_eq_left, Nat.left_eq_add, Nat.reduceAdd, Int.add_left_inj, Int.add_right_inj, c4]); rfl) ?_
      -- at 29: if eq -> 36 else 32 st [None]
      refine ks_if_eq rfl ⟨by omega, by omega⟩ (fun q2 => absurd q2 (by omega)) (fun q2 => ?_)
      refine ks_aload_n rfl rfl ?_
      refine ks_iload_n rfl rfl ?_
      refine ks_iaload7 rfl rfl (by omega) (by omega) (by (try simp only [kx_up_at, kx_row_at, up1_at, Nat.reduceEqDiff, Int.reduceEq, Int.reduceNeg, and_true, true_and, and_false, false_and, and_self, reduceIte, Nat.add_left_cancel_iff, Nat.add_eq_left, Nat.left_eq_add, Nat.reduceAdd, Int.add_left_inj, Int.add_right_inj, c4]); rfl) ?_
      refine ks_ireturn rfl ?_
      -- at 35: ret  st [None]
      exact t
    · subst e
      refine ks_getstatic rfl ?_
      refine ks_astore_n_2 rfl rfl ?_
      refine ks_iload_n rfl rfl ?_
      refine ks_istore_n_3 rfl rfl ?_
      refine ks_iconst rfl ?_
      refine ks_istore_4 rfl rfl ?_
      refine ks_iload rfl rfl ?_
      refine ks_bipush rfl ?_
      -- at 23: if ge -> 48 else 26 st ['6', '0']
      refine ks_icmp_ge rfl ⟨by omega, by omega⟩ ⟨by omega, by omega⟩ (fun q => ?_) (fun q => absurd q (by omega))
      refine ks_aload_n rfl rfl ?_
      refine ks_iload_n rfl rfl ?_
      refine ks_iaload7 rfl rfl (by omega) (by omega) (by (try simp only [kx_up_at, kx_row_at, up1_at, Nat.reduceEqDiff, Int.reduceEq, Int.reduceNeg, and_true, true_and, and_false, false_and, and_self, reduceIte, Nat.add_left_cancel_iff, Nat.add_eq_left, Nat.left_eq_add, Nat.reduceAdd, Int.add_left_inj, Int.add_right_inj, c5]); rfl) ?_
      -- at 29: if eq -> 36 else 32 st [None]
      refine ks_if_eq rfl ⟨by omega, by omega⟩ (fun q2 => ?_) (fun q2 => absurd q2 (by omega))
      refine ks_getstatic rfl ?_
      refine ks_iload_n rfl rfl ?_
      refine ks_iaload7 rfl rfl (by omega) (by omega) (by (try simp only [kx_up_at, kx_row_at, up1_at, Nat.reduceEqDiff, Int.reduceEq, Int.reduceNeg, and_true, true_and, and_false, false_and, and_self, reduceIte, Nat.add_left_cancel_iff, Nat.add_eq_left, Nat.left_eq_add, Nat.reduceAdd, Int.add_left_inj, Int.add_right_inj, b15]); rfl) ?_
      refine ks_istore_n_3 rfl rfl ?_
      refine ks_iinc_4 rfl rfl ?_
      refine ks_goto rfl ?_
      refine ks_iload rfl rfl ?_
      refine ks_bipush rfl ?_
      -- at 23: if ge -> 48 else 26 st ['6', None]
      refine ks_icmp_ge rfl ⟨by omega, by omega⟩ ⟨by omega, by omega⟩ (fun q3 => ?_) (fun q3 => absurd q3 (by omega))
      refine ks_aload_n rfl rfl ?_
      refine ks_iload_n rfl rfl ?_
      refine ks_iaload7 rfl rfl (by omega) (by omega) (by (try simp only [kx_up_at, kx_row_at, up1_at, Nat.reduceEqDiff, Int.reduceEq, Int.reduceNeg, and_true, true_and, and_false, false_and, and_self, reduceIte, Nat.add_left_cancel_iff, Nat.add_eq_left, Nat.left_eq_add, Nat.reduceAdd, Int.add_left_inj, Int.add_right_inj, c4]); rfl) ?_
      -- at 29: if eq -> 36 else 32 st [None]
      refine ks_if_eq rfl ⟨by omega, by omega⟩ (fun q4 => absurd q4 (by omega)) (fun q4 => ?_)
      refine ks_aload_n rfl rfl ?_
      refine ks_iload_n rfl rfl ?_
      refine ks_iaload7 rfl rfl (by omega) (by omega) (by (try simp only [kx_up_at, kx_row_at, up1_at, Nat.reduceEqDiff, Int.reduceEq, Int.reduceNeg, and_true, true_and, and_false, false_and, and_self, reduceIte, Nat.add_left_cancel_iff, Nat.add_eq_left, Nat.left_eq_add, Nat.reduceAdd, Int.add_left_inj, Int.add_right_inj, c4]); rfl) ?_
      refine ks_ireturn rfl ?_
      -- at 35: ret  st [None]
      exact t
/-- what is asked, of a kind: the answer, and the bodies -/
def q_mv (s : Int → Int) (h : Int) : Int := if s (6 + h) = 1 then h + s (24 + h) else if s (6 + h) = 2 then 2 * (h + s (24 + h)) else if s (6 + h) = 3 then h + s (24 + h) - 1000 else if s (6 + h) = 4 then h - (s (12 + h) - 100) else h - 2 * (s (12 + h) - 100)
def q_ml (k : Int) : List Int := if k = 1 then [21, 20] else if k = 2 then [24, 21, 20] else if k = 3 then [22, 21, 20] else if k = 4 then [23, 20, 13, 10] else [23, 20, 14, 13, 10]
def q_sv (s : Int → Int) (h : Int) : Int := if s (6 + h) = 2 then -(s (12 + h) + 2 * (h + s (24 + h))) else if s (6 + h) = 4 then s (12 + h) - 100 else if s (6 + h) = 5 then 2 * (s (12 + h) - 100) else s (12 + h) + q_mv s h
def q_sl (k : Int) : List Int := if k = 2 then [12, 11, 10, 24, 21, 20] else if k = 4 then [13, 10] else if k = 5 then [14, 13, 10] else if k = 1 then [11, 10, 21, 20] else [11, 10, 22, 21, 20]
theorem TB_C {μ μ' : kx_M} (B : TB μ) (F : FrC μ μ') : TB μ' := TB_fr B (fun c hc => F c (by omega) (by omega))
/-- MARK of firm ones -/
theorem r_aa1 {k : Int} (B : TB μ) (T : TR μ 30 s) (W : tw_W 999 s) (h0 : 0 ≤ h) (h1 : h < s 1) (hk : s (6 + h) = k) (k1 : k ≤ 3) (e0 : 0 ≤ e) (e1 : e < 10) (A : AK μ 56 55 1 l) (hl : l.length < 14) (t : ∀ μ', AK μ' 56 55 1 (l ++ q_ml k) → FrC μ μ' → Q (some (kI (q_mv s h))) (kg L) μ') : kx_cx (ke (d + 5)) 8 [kR 55, kI 1, kR 30, kI h, kI e] (kg L) μ Q := by
  refine ke_start (tb := kt_Asker_askAnew) (ls := [some (kR 55), some (kI 1), some (kR 30), some (kI h), some (kI e)]) rfl rfl ?_
  have w1 := W.1
  have w7 := W.2.2.2.2.2.2.1 h h0 h1
  have c7 := (T.2.2.2.2.2.2.1 h h0 h1).1
  refine ks_aload_n rfl rfl ?_
  refine ks_aload_n rfl rfl ?_
  refine ks_getr (b := 31) rfl rfl rfl rfl (by decide) ?_
  refine ks_iload_n rfl rfl ?_
  refine ks_iaload rfl rfl (by omega) (by omega) (by (try simp only [kx_up_at, kx_row_at, up1_at, Nat.reduceEqDiff, Int.reduceEq, Int.reduceNeg, and_true, true_and, and_false, false_and, and_self, reduceIte, Nat.add_left_cancel_iff, Nat.add_eq_left, Nat.left_eq_add, Nat.reduceAdd, Int.add_left_inj, Int.add_right_inj, c7]); rfl) ?_
  refine ks_iload_n rfl rfl ?_
  refine ks_calls_2 rfl (Nat.le_of_ble_eq_true rfl) ?_
  -- at 8: call Kinds_bodyOf st ['55']
  have hc : k = 1 ∨ k = 2 ∨ k = 3 := by omega
  unfold q_mv at t
  rw [hk] at t ⊢
  refine r_bodyOf B (by omega) (by omega) (by omega) (by omega) ?_
  rcases hc with g | g | g
  · subst g
    have eb : q_bo 1 1 = 21 := rfl
    rw [eb]
    show kx_wx _ _ _ _ _ (_ :: _) _ _
    refine ks_aload_n rfl rfl ?_
    refine ks_iload_n rfl rfl ?_
    refine ks_iload rfl rfl ?_
    refine ks_callv_5 rfl rfl rfl (Nat.le_of_ble_eq_true rfl) ?_
    -- at 15: call Asker_runBody st []
    refine r_rb21 T W h0 h1 e0 (by omega) A (by omega) (fun μ1 A1 F1 => ?_)
    show kx_wx _ _ _ _ _ (_ :: _) _ _
    refine ks_ireturn rfl ?_
    -- at 18: ret  st [None]
    exact t _ A1 F1
  · subst g
    have eb : q_bo 2 1 = 24 := rfl
    rw [eb]
    show kx_wx _ _ _ _ _ (_ :: _) _ _
    refine ks_aload_n rfl rfl ?_
    refine ks_iload_n rfl rfl ?_
    refine ks_iload rfl rfl ?_
    refine ks_callv_5 rfl rfl rfl (Nat.le_of_ble_eq_true rfl) ?_
    -- at 15: call Asker_runBody st []
    refine r_rb24 T W h0 h1 e0 (by omega) A (by omega) (fun μ1 A1 F1 => ?_)
    show kx_wx _ _ _ _ _ (_ :: _) _ _
    refine ks_ireturn rfl ?_
    -- at 18: ret  st [None]
    exact t _ A1 F1
  · subst g
    have eb : q_bo 3 1 = 22 := rfl
    rw [eb]
    show kx_wx _ _ _ _ _ (_ :: _) _ _
    refine ks_aload_n rfl rfl ?_
    refine ks_iload_n rfl rfl ?_
    refine ks_iload rfl rfl ?_
    refine ks_callv_5 rfl rfl rfl (Nat.le_of_ble_eq_true rfl) ?_
    -- at 15: call Asker_runBody st []
    refine r_rb22 T W h0 h1 e0 (by omega) A (by omega) (fun μ1 A1 F1 => ?_)
    show kx_wx _ _ _ _ _ (_ :: _) _ _
    refine ks_ireturn rfl ?_
    -- at 18: ret  st [None]
    exact t _ A1 F1
/-- SIZE of windy ones -/
theorem r_aa0 {k : Int} (B : TB μ) (T : TR μ 30 s) (W : tw_W 999 s) (h0 : 0 ≤ h) (h1 : h < s 1) (hk : s (6 + h) = k) (k1 : 4 ≤ k) (e0 : 0 ≤ e) (e1 : e < 10) (A : AK μ 56 55 1 l) (hl : l.length < 14) (t : ∀ μ', AK μ' 56 55 1 (l ++ q_sl k) → FrC μ μ' → Q (some (kI (q_sv s h))) (kg L) μ') : kx_cx (ke (d + 5)) 8 [kR 55, kI 0, kR 30, kI h, kI e] (kg L) μ Q := by
  refine ke_start (tb := kt_Asker_askAnew) (ls := [some (kR 55), some (kI 0), some (kR 30), some (kI h), some (kI e)]) rfl rfl ?_
  have w1 := W.1
  have w7 := W.2.2.2.2.2.2.1 h h0 h1
  have c7 := (T.2.2.2.2.2.2.1 h h0 h1).1
  refine ks_aload_n rfl rfl ?_
  refine ks_aload_n rfl rfl ?_
  refine ks_getr (b := 31) rfl rfl rfl rfl (by decide) ?_
  refine ks_iload_n rfl rfl ?_
  refine ks_iaload rfl rfl (by omega) (by omega) (by (try simp only [kx_up_at, kx_row_at, up1_at, Nat.reduceEqDiff, Int.reduceEq, Int.reduceNeg, and_true, true_and, and_false, false_and, and_self, reduceIte, Nat.add_left_cancel_iff, Nat.add_eq_left, Nat.left_eq_add, Nat.reduceAdd, Int.add_left_inj, Int.add_right_inj, c7]); rfl) ?_
  refine ks_iload_n rfl rfl ?_
  refine ks_calls_2 rfl (Nat.le_of_ble_eq_true rfl) ?_
  -- at 8: call Kinds_bodyOf st ['55']
  have hc : k = 4 ∨ k = 5 := by omega
  unfold q_sv at t
  rw [hk] at t ⊢
  refine r_bodyOf B (by omega) (by omega) (by omega) (by omega) ?_
  rcases hc with g | g
  · subst g
    have eb : q_bo 4 0 = 13 := rfl
    rw [eb]
    show kx_wx _ _ _ _ _ (_ :: _) _ _
    refine ks_aload_n rfl rfl ?_
    refine ks_iload_n rfl rfl ?_
    refine ks_iload rfl rfl ?_
    refine ks_callv_5 rfl rfl rfl (Nat.le_of_ble_eq_true rfl) ?_
    -- at 15: call Asker_runBody st []
    refine r_rb13 T W h0 h1 e0 (by omega) A (by omega) (fun μ1 A1 F1 => ?_)
    show kx_wx _ _ _ _ _ (_ :: _) _ _
    refine ks_ireturn rfl ?_
    -- at 18: ret  st [None]
    exact t _ A1 F1
  · subst g
    have eb : q_bo 5 0 = 14 := rfl
    rw [eb]
    show kx_wx _ _ _ _ _ (_ :: _) _ _
    refine ks_aload_n rfl rfl ?_
    refine ks_iload_n rfl rfl ?_
    refine ks_iload rfl rfl ?_
    refine ks_callv_5 rfl rfl rfl (Nat.le_of_ble_eq_true rfl) ?_
    -- at 15: call Asker_runBody st []
    refine r_rb14 T W h0 h1 e0 (by omega) A (by omega) (fun μ1 A1 F1 => ?_)
    show kx_wx _ _ _ _ _ (_ :: _) _ _
    refine ks_ireturn rfl ?_
    -- at 18: ret  st [None]
    exact t _ A1 F1
theorem r_rb11 {k : Int} (B : TB μ) (T : TR μ 30 s) (W : tw_W 999 s) (h0 : 0 ≤ h) (h1 : h < s 1) (hk : s (6 + h) = k) (k1 : k ≤ 3) (e0 : 0 ≤ e) (e1 : e < 9) (A : AK μ 56 55 1 l) (hl : l.length < 11) (t : ∀ μ', AK μ' 56 55 1 (l ++ ([11, 10] ++ q_ml k)) → FrC μ μ' → Q (some (kI (s (12 + h) + q_mv s h))) (kg L) μ') : kx_cx (ke (d + 6)) 7 [kR 55, kI 11, kR 30, kI h, kI e] (kg L) μ Q := by
  refine ke_start (tb := kt_Asker_runBody) (ls := [some (kR 55), some (kI 11), some (kR 30), some (kI h), some (kI e), none]) rfl rfl ?_
  refine ks_iload rfl rfl ?_
  refine ks_bipush rfl ?_
  -- at 4: if lt -> 9 else 7 st ['12', None]
  refine ks_icmp_lt rfl ⟨by omega, by omega⟩ ⟨by omega, by omega⟩ (fun c => ?_) (fun c => absurd c (by omega))
  refine ks_aload_n rfl rfl ?_
  refine ks_iload_n rfl rfl ?_
  refine ks_callv_2 rfl rfl rfl (Nat.le_of_ble_eq_true rfl) ?_
  -- at 11: call Asker_leaveNumber st []
  refine r_leaveNumber A (by omega) (fun μ1 A1 F1 => ?_)
  show kx_wx _ _ _ _ _ _ _ _
  refine ks_iload rfl rfl ?_
  refine ks_iconst rfl ?_
  refine ks_iadd rfl ?_
  refine ks_istore_5 rfl rfl ?_
  refine ks_iload_n rfl rfl ?_
  -- at 21: sw  st [None]
  refine ks_tsw rfl ⟨by omega, by omega⟩ ?_
  simp only [kx_sw, Int.reduceAdd, reduceIte, Int.reduceEq]
  refine ks_aload_n rfl rfl ?_
  refine ks_bipush rfl ?_
  refine ks_aload_n rfl rfl ?_
  refine ks_iload_n rfl rfl ?_
  refine ks_iload rfl rfl ?_
  refine ks_callv_5 rfl rfl rfl (Nat.le_of_ble_eq_true rfl) ?_
  -- at 110: call Asker_runBody st []
  refine r_rb10 (TR_C T F1) W h0 h1 (by omega) (by omega) A1 (by rw [List.length_append]; show l.length + 1 < 16; omega) (fun μ2 A2 F2 => ?_)
  show kx_wx _ _ _ _ _ (_ :: _) _ _
  refine ks_aload_n rfl rfl ?_
  refine ks_iconst rfl ?_
  refine ks_aload_n rfl rfl ?_
  refine ks_iload_n rfl rfl ?_
  refine ks_iload rfl rfl ?_
  refine ks_callv_5 rfl rfl rfl (Nat.le_of_ble_eq_true rfl) ?_
  -- at 119: call Asker_askAnew st [None]
  rw [List.append_assoc] at A2
  have F3 := FrC_tr F1 F2
  refine r_aa1 (TB_C B F3) (TR_C T F3) W h0 h1 hk k1 (by omega) (by omega) A2 (by rw [List.length_append]; show l.length + 2 < 14; omega) (fun μ4 A4 F4 => ?_)
  show kx_wx _ _ _ _ _ (_ :: _) _ _
  refine ks_iadd rfl ?_
  refine ks_ireturn rfl ?_
  -- at 123: ret  st [None]
  rw [List.append_assoc] at A4
  exact t _ A4 (FrC_tr F3 F4)
theorem r_rb12 (B : TB μ) (T : TR μ 30 s) (W : tw_W 999 s) (h0 : 0 ≤ h) (h1 : h < s 1) (hk : s (6 + h) = 2) (e0 : 0 ≤ e) (e1 : e < 8) (A : AK μ 56 55 1 l) (hl : l.length < 10) (t : ∀ μ', AK μ' 56 55 1 (l ++ [12, 11, 10, 24, 21, 20]) → FrC μ μ' → Q (some (kI (-(s (12 + h) + q_mv s h)))) (kg L) μ') : kx_cx (ke (d + 7)) 7 [kR 55, kI 12, kR 30, kI h, kI e] (kg L) μ Q := by
  refine ke_start (tb := kt_Asker_runBody) (ls := [some (kR 55), some (kI 12), some (kR 30), some (kI h), some (kI e), none]) rfl rfl ?_
  refine ks_iload rfl rfl ?_
  refine ks_bipush rfl ?_
  -- at 4: if lt -> 9 else 7 st ['12', None]
  refine ks_icmp_lt rfl ⟨by omega, by omega⟩ ⟨by omega, by omega⟩ (fun c => ?_) (fun c => absurd c (by omega))
  refine ks_aload_n rfl rfl ?_
  refine ks_iload_n rfl rfl ?_
  refine ks_callv_2 rfl rfl rfl (Nat.le_of_ble_eq_true rfl) ?_
  -- at 11: call Asker_leaveNumber st []
  refine r_leaveNumber A (by omega) (fun μ1 A1 F1 => ?_)
  show kx_wx _ _ _ _ _ _ _ _
  refine ks_iload rfl rfl ?_
  refine ks_iconst rfl ?_
  refine ks_iadd rfl ?_
  refine ks_istore_5 rfl rfl ?_
  refine ks_iload_n rfl rfl ?_
  -- at 21: sw  st [None]
  refine ks_tsw rfl ⟨by omega, by omega⟩ ?_
  simp only [kx_sw, Int.reduceAdd, reduceIte, Int.reduceEq]
  refine ks_aload_n rfl rfl ?_
  refine ks_bipush rfl ?_
  refine ks_aload_n rfl rfl ?_
  refine ks_iload_n rfl rfl ?_
  refine ks_iload rfl rfl ?_
  refine ks_callv_5 rfl rfl rfl (Nat.le_of_ble_eq_true rfl) ?_
  -- at 131: call Asker_runBody st []
  refine r_rb11 (TB_C B F1) (TR_C T F1) W h0 h1 hk (by omega) (by omega) (by omega) A1 (by rw [List.length_append]; show l.length + 1 < 11; omega) (fun μ2 A2 F2 => ?_)
  show kx_wx _ _ _ _ _ (_ :: _) _ _
  refine ks_ineg rfl ?_
  refine ks_ireturn rfl ?_
  -- at 135: ret  st [None]
  rw [List.append_assoc] at A2
  exact t _ A2 (FrC_tr F1 F2)
theorem r_rb23 {k : Int} (B : TB μ) (T : TR μ 30 s) (W : tw_W 999 s) (h0 : 0 ≤ h) (h1 : h < s 1) (hk : s (6 + h) = k) (k1 : 4 ≤ k) (e0 : 0 ≤ e) (e1 : e < 9) (A : AK μ 56 55 1 l) (hl : l.length < 11) (t : ∀ μ', AK μ' 56 55 1 (l ++ ([23, 20] ++ q_sl k)) → FrC μ μ' → Q (some (kI (h - q_sv s h))) (kg L) μ') : kx_cx (ke (d + 6)) 7 [kR 55, kI 23, kR 30, kI h, kI e] (kg L) μ Q := by
  refine ke_start (tb := kt_Asker_runBody) (ls := [some (kR 55), some (kI 23), some (kR 30), some (kI h), some (kI e), none]) rfl rfl ?_
  refine ks_iload rfl rfl ?_
  refine ks_bipush rfl ?_
  -- at 4: if lt -> 9 else 7 st ['12', None]
  refine ks_icmp_lt rfl ⟨by omega, by omega⟩ ⟨by omega, by omega⟩ (fun c => ?_) (fun c => absurd c (by omega))
  refine ks_aload_n rfl rfl ?_
  refine ks_iload_n rfl rfl ?_
  refine ks_callv_2 rfl rfl rfl (Nat.le_of_ble_eq_true rfl) ?_
  -- at 11: call Asker_leaveNumber st []
  refine r_leaveNumber A (by omega) (fun μ1 A1 F1 => ?_)
  show kx_wx _ _ _ _ _ _ _ _
  refine ks_iload rfl rfl ?_
  refine ks_iconst rfl ?_
  refine ks_iadd rfl ?_
  refine ks_istore_5 rfl rfl ?_
  refine ks_iload_n rfl rfl ?_
  -- at 21: sw  st [None]
  refine ks_tsw rfl ⟨by omega, by omega⟩ ?_
  simp only [kx_sw, Int.reduceAdd, reduceIte, Int.reduceEq]
  refine ks_aload_n rfl rfl ?_
  refine ks_bipush rfl ?_
  refine ks_aload_n rfl rfl ?_
  refine ks_iload_n rfl rfl ?_
  refine ks_iload rfl rfl ?_
  refine ks_callv_5 rfl rfl rfl (Nat.le_of_ble_eq_true rfl) ?_
  -- at 205: call Asker_runBody st []
  refine r_rb20 (TR_C T F1) W h0 h1 (by omega) (by omega) A1 (by rw [List.length_append]; show l.length + 1 < 16; omega) (fun μ2 A2 F2 => ?_)
  show kx_wx _ _ _ _ _ (_ :: _) _ _
  refine ks_aload_n rfl rfl ?_
  refine ks_iconst rfl ?_
  refine ks_aload_n rfl rfl ?_
  refine ks_iload_n rfl rfl ?_
  refine ks_iload rfl rfl ?_
  refine ks_callv_5 rfl rfl rfl (Nat.le_of_ble_eq_true rfl) ?_
  -- at 214: call Asker_askAnew st [None]
  rw [List.append_assoc] at A2
  have F3 := FrC_tr F1 F2
  refine r_aa0 (TB_C B F3) (TR_C T F3) W h0 h1 hk k1 (by omega) (by omega) A2 (by rw [List.length_append]; show l.length + 2 < 14; omega) (fun μ4 A4 F4 => ?_)
  show kx_wx _ _ _ _ _ (_ :: _) _ _
  refine ks_isub rfl ?_
  refine ks_ireturn rfl ?_
  -- at 218: ret  st [None]
  rw [List.append_assoc] at A4
  exact t _ A4 (FrC_tr F3 F4)
/-- an ask, by the class -/
theorem r_askAnew {w : Int} (B : TB μ) (T : TR μ 30 s) (W : tw_W 999 s) (h0 : 0 ≤ h) (h1 : h < s 1) (w0 : 0 ≤ w) (w1 : w ≤ 1) (A : AK μ 56 55 1 []) (t : ∀ μ', AK μ' 56 55 1 (if w = 0 then q_sl (s (6 + h)) else q_ml (s (6 + h))) → FrC μ μ' → Q (some (kI (if w = 0 then q_sv s h else q_mv s h))) (kg L) μ') : kx_cx (ke (d + 8)) 8 [kR 55, kI w, kR 30, kI h, kI 0] (kg L) μ Q := by
  have x1 := W.1
  have w7 := W.2.2.2.2.2.2.1 h h0 h1
  have c7 := (T.2.2.2.2.2.2.1 h h0 h1).1
  generalize hk : s (6 + h) = k at *
  by_cases ew : w = 0
  · subst ew
    rw [if_pos rfl] at t
    rw [if_pos rfl] at t
    by_cases k4 : 4 ≤ k
    · exact r_aa0 B T W h0 h1 hk k4 (by omega) (by omega) A (by show 0 < 14; omega) t
    · refine ke_start (tb := kt_Asker_askAnew) (ls := [some (kR 55), some (kI 0), some (kR 30), some (kI h), some (kI 0)]) rfl rfl ?_
      refine ks_aload_n rfl rfl ?_
      refine ks_aload_n rfl rfl ?_
      refine ks_getr (b := 31) rfl rfl rfl rfl (by decide) ?_
      refine ks_iload_n rfl rfl ?_
      refine ks_iaload rfl rfl (by omega) (by omega) (by (try simp only [kx_up_at, kx_row_at, up1_at, Nat.reduceEqDiff, Int.reduceEq, Int.reduceNeg, and_true, true_and, and_false, false_and, and_self, reduceIte, Nat.add_left_cancel_iff, Nat.add_eq_left, Nat.left_eq_add, Nat.reduceAdd, Int.add_left_inj, Int.add_right_inj, c7]); rfl) ?_
      refine ks_iload_n rfl rfl ?_
      refine ks_calls_2 rfl (Nat.le_of_ble_eq_true rfl) ?_
      -- at 8: call Kinds_bodyOf st ['55']
      refine r_bodyOf B (by omega) (by omega) (by omega) (by omega) ?_
      by_cases e2 : k = 2
      · subst e2
        have eb : q_bo 2 0 = 12 := rfl
        rw [eb]
        show kx_wx _ _ _ _ _ (_ :: _) _ _
        refine ks_aload_n rfl rfl ?_
        refine ks_iload_n rfl rfl ?_
        refine ks_iload rfl rfl ?_
        refine ks_callv_5 rfl rfl rfl (Nat.le_of_ble_eq_true rfl) ?_
        -- at 15: call Asker_runBody st []
        refine r_rb12 B T W h0 h1 hk (by omega) (by omega) A (by show 0 < 10; omega) (fun μ1 A1 F1 => ?_)
        show kx_wx _ _ _ _ _ (_ :: _) _ _
        refine ks_ireturn rfl ?_
        -- at 18: ret  st [None]
        have e1 : q_sv s h = -(s (12 + h) + q_mv s h) := by unfold q_sv q_mv; rw [hk]; rfl
        rw [e1] at t
        exact t _ A1 F1
      · have eb : q_bo k 0 = 11 := by
          have hc : k = 1 ∨ k = 3 := by omega
          rcases hc with g | g <;> subst g <;> rfl
        rw [eb]
        show kx_wx _ _ _ _ _ (_ :: _) _ _
        refine ks_aload_n rfl rfl ?_
        refine ks_iload_n rfl rfl ?_
        refine ks_iload rfl rfl ?_
        refine ks_callv_5 rfl rfl rfl (Nat.le_of_ble_eq_true rfl) ?_
        -- at 15: call Asker_runBody st []
        refine r_rb11 B T W h0 h1 hk (by omega) (by omega) (by omega) A (by show 0 < 11; omega) (fun μ1 A1 F1 => ?_)
        show kx_wx _ _ _ _ _ (_ :: _) _ _
        refine ks_ireturn rfl ?_
        -- at 18: ret  st [None]
        have e1 : q_sv s h = s (12 + h) + q_mv s h := by unfold q_sv; rw [hk, if_neg e2, if_neg (by omega), if_neg (by omega)]
        have e3 : q_sl k = [] ++ ([11, 10] ++ q_ml k) := by
          have hc : k = 1 ∨ k = 3 := by omega
          rcases hc with g | g <;> subst g <;> rfl
        rw [e1, e3] at t
        exact t _ A1 F1
  · have e1 : w = 1 := by omega
    subst e1
    rw [if_neg ew] at t
    rw [if_neg ew] at t
    by_cases k4 : 4 ≤ k
    · refine ke_start (tb := kt_Asker_askAnew) (ls := [some (kR 55), some (kI 1), some (kR 30), some (kI h), some (kI 0)]) rfl rfl ?_
      refine ks_aload_n rfl rfl ?_
      refine ks_aload_n rfl rfl ?_
      refine ks_getr (b := 31) rfl rfl rfl rfl (by decide) ?_
      refine ks_iload_n rfl rfl ?_
      refine ks_iaload rfl rfl (by omega) (by omega) (by (try simp only [kx_up_at, kx_row_at, up1_at, Nat.reduceEqDiff, Int.reduceEq, Int.reduceNeg, and_true, true_and, and_false, false_and, and_self, reduceIte, Nat.add_left_cancel_iff, Nat.add_eq_left, Nat.left_eq_add, Nat.reduceAdd, Int.add_left_inj, Int.add_right_inj, c7]); rfl) ?_
      refine ks_iload_n rfl rfl ?_
      refine ks_calls_2 rfl (Nat.le_of_ble_eq_true rfl) ?_
      -- at 8: call Kinds_bodyOf st ['55']
      refine r_bodyOf B (by omega) (by omega) (by omega) (by omega) ?_
      have eb : q_bo k 1 = 23 := by
        have hc : k = 4 ∨ k = 5 := by omega
        rcases hc with g | g <;> subst g <;> rfl
      rw [eb]
      show kx_wx _ _ _ _ _ (_ :: _) _ _
      refine ks_aload_n rfl rfl ?_
      refine ks_iload_n rfl rfl ?_
      refine ks_iload rfl rfl ?_
      refine ks_callv_5 rfl rfl rfl (Nat.le_of_ble_eq_true rfl) ?_
      -- at 15: call Asker_runBody st []
      refine r_rb23 B T W h0 h1 hk k4 (by omega) (by omega) A (by show 0 < 11; omega) (fun μ1 A1 F1 => ?_)
      show kx_wx _ _ _ _ _ (_ :: _) _ _
      refine ks_ireturn rfl ?_
      -- at 18: ret  st [None]
      have e1 : q_mv s h = h - q_sv s h := by
        unfold q_sv q_mv
        rw [hk]
        have hc : k = 4 ∨ k = 5 := by omega
        rcases hc with g | g <;> subst g <;> rfl
      have e3 : q_ml k = [] ++ ([23, 20] ++ q_sl k) := by
        have hc : k = 4 ∨ k = 5 := by omega
        rcases hc with g | g <;> subst g <;> rfl
      rw [e1, e3] at t
      exact t _ A1 F1
    · exact r_aa1 B T W h0 h1 hk (by omega) (by omega) (by omega) A (by show 0 < 14; omega) t
end ASK
end
section
/-! asks of the reference, and small questions on both sides -/
section AT
variable {d L : Nat} {G : kx_G} {μ : kx_M} {Q : Option kx_V → kx_G → kx_M → Prop} {s : Int → Int} {h b e v w : Int} {l : List Int}
theorem FrT_81 {μ μ' : kx_M} {s : Int → Int} (hs : μ 81 = s) (F : FrT μ μ') : μ' 81 = s := by rw [F.2 81 (by omega) (by omega)]; exact hs
theorem r_lent10 (hs : μ 81 = s) (h0 : 0 ≤ h) (h1 : h < 6) (A : AK μ 90 77 23 l) (hl : l.length < 16) (t : ∀ μ', AK μ' 90 77 23 (l ++ [10]) → FrT μ μ' → Q (some (kI (s (12 + h)))) (kg L) μ') : kx_cx (ke (d + 2)) 180 [kR 77, kI h, kI 10] (kg L) μ Q := by
  refine ke_start (tb := kt_M_lent) (ls := [some (kR 77), some (kI h), some (kI 10)]) rfl rfl ?_
  refine ks_aload_n rfl rfl ?_
  refine ks_iload_n rfl rfl ?_
  refine ks_callv_2 rfl rfl rfl (Nat.le_of_ble_eq_true rfl) ?_
  -- at 2: call M_begin st []
  refine r_begin A hl (fun μ1 A1 F1 => ?_)
  have e1 := FrT_81 hs F1
  show kx_wx _ _ _ _ _ _ _ _
  refine ks_iload_n rfl rfl ?_
  refine ks_bipush rfl ?_
  -- at 8: if ne -> 23 else 11 st ['10', None]
  refine ks_icmp_ne rfl ⟨by omega, by omega⟩ ⟨by omega, by omega⟩ (fun c => ?_) (fun c => absurd c (by omega))
  refine ks_aload_n rfl rfl ?_
  refine ks_getr (b := 81) rfl rfl rfl rfl (by decide) ?_
  refine ks_bipush rfl ?_
  refine ks_iload_n rfl rfl ?_
  refine ks_iadd rfl ?_
  refine ks_iaload rfl rfl (by omega) (by omega) (by (try simp only [kx_up_at, kx_row_at, up1_at, Nat.reduceEqDiff, Int.reduceEq, Int.reduceNeg, and_true, true_and, and_false, false_and, and_self, reduceIte, Nat.add_left_cancel_iff, Nat.add_eq_left, Nat.left_eq_add, Nat.reduceAdd, Int.add_left_inj, Int.add_right_inj, e1]); rfl) ?_
  refine ks_goto rfl ?_
  refine ks_ireturn rfl ?_
  -- at 24: ret  st [None]
  exact t _ A1 F1
theorem r_lent20 (A : AK μ 90 77 23 l) (hl : l.length < 16) (t : ∀ μ', AK μ' 90 77 23 (l ++ [20]) → FrT μ μ' → Q (some (kI h)) (kg L) μ') : kx_cx (ke (d + 2)) 180 [kR 77, kI h, kI 20] (kg L) μ Q := by
  refine ke_start (tb := kt_M_lent) (ls := [some (kR 77), some (kI h), some (kI 20)]) rfl rfl ?_
  refine ks_aload_n rfl rfl ?_
  refine ks_iload_n rfl rfl ?_
  refine ks_callv_2 rfl rfl rfl (Nat.le_of_ble_eq_true rfl) ?_
  -- at 2: call M_begin st []
  refine r_begin A hl (fun μ1 A1 F1 => ?_)
  show kx_wx _ _ _ _ _ _ _ _
  refine ks_iload_n rfl rfl ?_
  refine ks_bipush rfl ?_
  -- at 8: if ne -> 23 else 11 st ['10', None]
  refine ks_icmp_ne rfl ⟨by omega, by omega⟩ ⟨by omega, by omega⟩ (fun c => absurd c (by omega)) (fun c => ?_)
  refine ks_iload_n rfl rfl ?_
  refine ks_ireturn rfl ?_
  -- at 24: ret  st [None]
  exact t _ A1 F1
theorem r_firmMark (hs : μ 81 = s) (h0 : 0 ≤ h) (h1 : h < 6) (A : AK μ 90 77 23 l) (hl : l.length < 15) (t : ∀ μ', AK μ' 90 77 23 (l ++ [21, 20]) → FrT μ μ' → Q (some (kI (h + s (24 + h)))) (kg L) μ') : kx_cx (ke (d + 3)) 181 [kR 77, kI h] (kg L) μ Q := by
  refine ke_start (tb := kt_M_firmMark) (ls := [some (kR 77), some (kI h)]) rfl rfl ?_
  refine ks_aload_n rfl rfl ?_
  refine ks_bipush rfl ?_
  refine ks_callv_2 rfl rfl rfl (Nat.le_of_ble_eq_true rfl) ?_
  -- at 3: call M_begin st []
  refine r_begin A (by omega) (fun μ1 A1 F1 => ?_)
  show kx_wx _ _ _ _ _ _ _ _
  refine ks_aload_n rfl rfl ?_
  refine ks_iload_n rfl rfl ?_
  refine ks_bipush rfl ?_
  refine ks_callv_3 rfl rfl rfl (Nat.le_of_ble_eq_true rfl) ?_
  -- at 10: call M_lent st []
  refine r_lent20 A1 (by rw [List.length_append]; show l.length + 1 < 16; omega) (fun μ2 A2 F2 => ?_)
  have e1 := FrT_81 hs (FrT_tr F1 F2)
  show kx_wx _ _ _ _ _ (_ :: _) _ _
  refine ks_aload_n rfl rfl ?_
  refine ks_getr (b := 81) rfl rfl rfl rfl (by decide) ?_
  refine ks_bipush rfl ?_
  refine ks_iload_n rfl rfl ?_
  refine ks_iadd rfl ?_
  refine ks_iaload rfl rfl (by omega) (by omega) (by (try simp only [kx_up_at, kx_row_at, up1_at, Nat.reduceEqDiff, Int.reduceEq, Int.reduceNeg, and_true, true_and, and_false, false_and, and_self, reduceIte, Nat.add_left_cancel_iff, Nat.add_eq_left, Nat.left_eq_add, Nat.reduceAdd, Int.add_left_inj, Int.add_right_inj, e1]); rfl) ?_
  refine ks_iadd rfl ?_
  refine ks_ireturn rfl ?_
  -- at 23: ret  st [None]
  rw [List.append_assoc] at A2
  exact t _ A2 (FrT_tr F1 F2)
theorem r_windySize (hs : μ 81 = s) (h0 : 0 ≤ h) (h1 : h < 6) (A : AK μ 90 77 23 l) (hl : l.length < 15) (t : ∀ μ', AK μ' 90 77 23 (l ++ [13, 10]) → FrT μ μ' → Q (some (kI (s (12 + h) - 100))) (kg L) μ') : kx_cx (ke (d + 3)) 182 [kR 77, kI h] (kg L) μ Q := by
  refine ke_start (tb := kt_M_windySize) (ls := [some (kR 77), some (kI h)]) rfl rfl ?_
  refine ks_aload_n rfl rfl ?_
  refine ks_bipush rfl ?_
  refine ks_callv_2 rfl rfl rfl (Nat.le_of_ble_eq_true rfl) ?_
  -- at 3: call M_begin st []
  refine r_begin A (by omega) (fun μ1 A1 F1 => ?_)
  show kx_wx _ _ _ _ _ _ _ _
  refine ks_aload_n rfl rfl ?_
  refine ks_iload_n rfl rfl ?_
  refine ks_bipush rfl ?_
  refine ks_callv_3 rfl rfl rfl (Nat.le_of_ble_eq_true rfl) ?_
  -- at 10: call M_lent st []
  refine r_lent10 (FrT_81 hs F1) h0 h1 A1 (by rw [List.length_append]; show l.length + 1 < 16; omega) (fun μ2 A2 F2 => ?_)
  show kx_wx _ _ _ _ _ (_ :: _) _ _
  refine ks_bipush rfl ?_
  refine ks_isub rfl ?_
  refine ks_ireturn rfl ?_
  -- at 16: ret  st [None]
  rw [List.append_assoc] at A2
  exact t _ A2 (FrT_tr F1 F2)
theorem r_sizeOfWindy {k : Int} (hs : μ 81 = s) (h0 : 0 ≤ h) (h1 : h < 6) (hk : s (6 + h) = k) (k0 : 4 ≤ k) (k1 : k ≤ 5) (A : AK μ 90 77 23 l) (hl : l.length < 14) (t : ∀ μ', AK μ' 90 77 23 (l ++ q_sl k) → FrT μ μ' → Q (some (kI (q_sv s h))) (kg L) μ') : kx_cx (ke (d + 4)) 183 [kR 77, kI h] (kg L) μ Q := by
  refine ke_start (tb := kt_M_sizeOfWindy) (ls := [some (kR 77), some (kI h)]) rfl rfl ?_
  unfold q_sv at t
  rw [hk] at t
  refine ks_aload_n rfl rfl ?_
  refine ks_getr (b := 81) rfl rfl rfl rfl (by decide) ?_
  refine ks_bipush rfl ?_
  refine ks_iload_n rfl rfl ?_
  refine ks_iadd rfl ?_
  refine ks_iaload rfl rfl (by omega) (by omega) (by (try simp only [kx_up_at, kx_row_at, up1_at, Nat.reduceEqDiff, Int.reduceEq, Int.reduceNeg, and_true, true_and, and_false, false_and, and_self, reduceIte, Nat.add_left_cancel_iff, Nat.add_eq_left, Nat.left_eq_add, Nat.reduceAdd, Int.add_left_inj, Int.add_right_inj, hs, hk]); rfl) ?_
  refine ks_iconst rfl ?_
  -- at 10: if ne -> 27 else 13 st ['5', None]
  refine ks_icmp_ne rfl ⟨by omega, by omega⟩ ⟨by omega, by omega⟩ (fun c => ?_) (fun c => ?_)
  · subst c
    refine ks_aload_n rfl rfl ?_
    refine ks_bipush rfl ?_
    refine ks_callv_2 rfl rfl rfl (Nat.le_of_ble_eq_true rfl) ?_
    -- at 16: call M_begin st []
    refine r_begin A (by omega) (fun μ1 A1 F1 => ?_)
    show kx_wx _ _ _ _ _ _ _ _
    refine ks_iconst rfl ?_
    refine ks_aload_n rfl rfl ?_
    refine ks_iload_n rfl rfl ?_
    refine ks_callv_2 rfl rfl rfl (Nat.le_of_ble_eq_true rfl) ?_
    -- at 22: call M_windySize st ['2']
    refine r_windySize (FrT_81 hs F1) h0 h1 A1 (by rw [List.length_append]; show l.length + 1 < 15; omega) (fun μ2 A2 F2 => ?_)
    show kx_wx _ _ _ _ _ (_ :: _) _ _
    refine ks_imul rfl ?_
    refine ks_ireturn rfl ?_
    -- at 26: ret  st [None]
    rw [List.append_assoc] at A2
    exact t _ A2 (FrT_tr F1 F2)
  · have e4 : k = 4 := by omega
    subst e4
    refine ks_aload_n rfl rfl ?_
    refine ks_iload_n rfl rfl ?_
    refine ks_callv_2 rfl rfl rfl (Nat.le_of_ble_eq_true rfl) ?_
    -- at 29: call M_windySize st []
    refine r_windySize hs h0 h1 A (by omega) (fun μ2 A2 F2 => ?_)
    show kx_wx _ _ _ _ _ (_ :: _) _ _
    refine ks_ireturn rfl ?_
    -- at 32: ret  st [None]
    exact t _ A2 F2
theorem r_markOf {k : Int} (hs : μ 81 = s) (h0 : 0 ≤ h) (h1 : h < 6) (hk : s (6 + h) = k) (k0 : 1 ≤ k) (k1 : k ≤ 5) (A : AK μ 90 77 23 l) (hl : l.length < 11) (t : ∀ μ', AK μ' 90 77 23 (l ++ q_ml k) → FrT μ μ' → Q (some (kI (q_mv s h))) (kg L) μ') : kx_cx (ke (d + 5)) 184 [kR 77, kI h] (kg L) μ Q := by
  refine ke_start (tb := kt_M_markOf) (ls := [some (kR 77), some (kI h), none, none]) rfl rfl ?_
  have em : 4 ≤ k → q_mv s h = h - q_sv s h ∧ q_ml k = [23, 20] ++ q_sl k := by
    intro k4
    unfold q_sv q_mv
    rw [hk]
    have hc : k = 4 ∨ k = 5 := by omega
    rcases hc with g | g <;> subst g <;> exact ⟨rfl, rfl⟩
  refine ks_aload_n rfl rfl ?_
  refine ks_getr (b := 81) rfl rfl rfl rfl (by decide) ?_
  refine ks_bipush rfl ?_
  refine ks_iload_n rfl rfl ?_
  refine ks_iadd rfl ?_
  refine ks_iaload rfl rfl (by omega) (by omega) (by (try simp only [kx_up_at, kx_row_at, up1_at, Nat.reduceEqDiff, Int.reduceEq, Int.reduceNeg, and_true, true_and, and_false, false_and, and_self, reduceIte, Nat.add_left_cancel_iff, Nat.add_eq_left, Nat.left_eq_add, Nat.reduceAdd, Int.add_left_inj, Int.add_right_inj, hs, hk]); rfl) ?_
  refine ks_istore_n_2 rfl rfl ?_
  refine ks_iload_n rfl rfl ?_
  refine ks_iconst rfl ?_
  -- at 12: if ne -> 29 else 15 st ['2', None]
  refine ks_icmp_ne rfl ⟨by omega, by omega⟩ ⟨by omega, by omega⟩ (fun c => ?_) (fun c => ?_)
  · subst c
    refine ks_aload_n rfl rfl ?_
    refine ks_bipush rfl ?_
    refine ks_callv_2 rfl rfl rfl (Nat.le_of_ble_eq_true rfl) ?_
    -- at 18: call M_begin st []
    refine r_begin A (by omega) (fun μ1 A1 F1 => ?_)
    show kx_wx _ _ _ _ _ _ _ _
    refine ks_iconst rfl ?_
    refine ks_aload_n rfl rfl ?_
    refine ks_iload_n rfl rfl ?_
    refine ks_callv_2 rfl rfl rfl (Nat.le_of_ble_eq_true rfl) ?_
    -- at 24: call M_firmMark st ['2']
    refine r_firmMark (FrT_81 hs F1) h0 h1 A1 (by rw [List.length_append]; show l.length + 1 < 15; omega) (fun μ2 A2 F2 => ?_)
    show kx_wx _ _ _ _ _ (_ :: _) _ _
    refine ks_imul rfl ?_
    refine ks_ireturn rfl ?_
    -- at 28: ret  st [None]
    rw [List.append_assoc] at A2
    unfold q_mv at t
    rw [hk] at t
    exact t _ A2 (FrT_tr F1 F2)
  · refine ks_iload_n rfl rfl ?_
    refine ks_iconst rfl ?_
    -- at 31: if ne -> 50 else 34 st ['3', None]
    refine ks_icmp_ne rfl ⟨by omega, by omega⟩ ⟨by omega, by omega⟩ (fun c2 => ?_) (fun c2 => ?_)
    · subst c2
      refine ks_aload_n rfl rfl ?_
      refine ks_bipush rfl ?_
      refine ks_callv_2 rfl rfl rfl (Nat.le_of_ble_eq_true rfl) ?_
      -- at 37: call M_begin st []
      refine r_begin A (by omega) (fun μ1 A1 F1 => ?_)
      show kx_wx _ _ _ _ _ _ _ _
      refine ks_aload_n rfl rfl ?_
      refine ks_iload_n rfl rfl ?_
      refine ks_callv_2 rfl rfl rfl (Nat.le_of_ble_eq_true rfl) ?_
      -- at 42: call M_firmMark st []
      refine r_firmMark (FrT_81 hs F1) h0 h1 A1 (by rw [List.length_append]; show l.length + 1 < 15; omega) (fun μ2 A2 F2 => ?_)
      show kx_wx _ _ _ _ _ (_ :: _) _ _
      refine ks_sipush rfl ?_
      refine ks_isub rfl ?_
      refine ks_ireturn rfl ?_
      -- at 49: ret  st [None]
      rw [List.append_assoc] at A2
      unfold q_mv at t
      rw [hk] at t
      exact t _ A2 (FrT_tr F1 F2)
    · refine ks_iload_n rfl rfl ?_
      refine ks_iconst rfl ?_
      -- at 52: if ne -> 61 else 55 st ['1', None]
      refine ks_icmp_ne rfl ⟨by omega, by omega⟩ ⟨by omega, by omega⟩ (fun c3 => ?_) (fun c3 => ?_)
      · subst c3
        refine ks_aload_n rfl rfl ?_
        refine ks_iload_n rfl rfl ?_
        refine ks_callv_2 rfl rfl rfl (Nat.le_of_ble_eq_true rfl) ?_
        -- at 57: call M_firmMark st []
        refine r_firmMark hs h0 h1 A (by omega) (fun μ2 A2 F2 => ?_)
        show kx_wx _ _ _ _ _ (_ :: _) _ _
        refine ks_ireturn rfl ?_
        -- at 60: ret  st [None]
        unfold q_mv at t
        rw [hk] at t
        exact t _ A2 F2
      · obtain ⟨m1, m2⟩ := em (by omega)
        rw [m1, m2] at t
        refine ks_aload_n rfl rfl ?_
        refine ks_bipush rfl ?_
        refine ks_callv_2 rfl rfl rfl (Nat.le_of_ble_eq_true rfl) ?_
        -- at 64: call M_begin st []
        refine r_begin A (by omega) (fun μ1 A1 F1 => ?_)
        show kx_wx _ _ _ _ _ _ _ _
        refine ks_aload_n rfl rfl ?_
        refine ks_iload_n rfl rfl ?_
        refine ks_bipush rfl ?_
        refine ks_callv_3 rfl rfl rfl (Nat.le_of_ble_eq_true rfl) ?_
        -- at 71: call M_lent st []
        refine r_lent20 A1 (by rw [List.length_append]; show l.length + 1 < 16; omega) (fun μ2 A2 F2 => ?_)
        show kx_wx _ _ _ _ _ (_ :: _) _ _
        refine ks_istore_n_3 rfl rfl ?_
        refine ks_iload_n rfl rfl ?_
        refine ks_aload_n rfl rfl ?_
        refine ks_iload_n rfl rfl ?_
        refine ks_callv_2 rfl rfl rfl (Nat.le_of_ble_eq_true rfl) ?_
        -- at 78: call M_sizeOfWindy st [None]
        rw [List.append_assoc] at A2
        have F3 := FrT_tr F1 F2
        refine r_sizeOfWindy (FrT_81 hs F3) h0 h1 hk (by omega) (by omega) A2 (by rw [List.length_append]; show l.length + 2 < 14; omega) (fun μ4 A4 F4 => ?_)
        show kx_wx _ _ _ _ _ (_ :: _) _ _
        refine ks_isub rfl ?_
        refine ks_ireturn rfl ?_
        -- at 82: ret  st [None]
        rw [List.append_assoc] at A4
        exact t _ A4 (FrT_tr F3 F4)
theorem r_firmSize {k : Int} (hs : μ 81 = s) (h0 : 0 ≤ h) (h1 : h < 6) (hk : s (6 + h) = k) (k0 : 1 ≤ k) (k1 : k ≤ 5) (A : AK μ 90 77 23 l) (hl : l.length < 9) (t : ∀ μ', AK μ' 90 77 23 (l ++ ([11, 10] ++ q_ml k)) → FrT μ μ' → Q (some (kI (s (12 + h) + q_mv s h))) (kg L) μ') : kx_cx (ke (d + 6)) 185 [kR 77, kI h] (kg L) μ Q := by
  refine ke_start (tb := kt_M_firmSize) (ls := [some (kR 77), some (kI h), none]) rfl rfl ?_
  refine ks_aload_n rfl rfl ?_
  refine ks_bipush rfl ?_
  refine ks_callv_2 rfl rfl rfl (Nat.le_of_ble_eq_true rfl) ?_
  -- at 3: call M_begin st []
  refine r_begin A (by omega) (fun μ1 A1 F1 => ?_)
  show kx_wx _ _ _ _ _ _ _ _
  refine ks_aload_n rfl rfl ?_
  refine ks_iload_n rfl rfl ?_
  refine ks_bipush rfl ?_
  refine ks_callv_3 rfl rfl rfl (Nat.le_of_ble_eq_true rfl) ?_
  -- at 10: call M_lent st []
  refine r_lent10 (FrT_81 hs F1) h0 h1 A1 (by rw [List.length_append]; show l.length + 1 < 16; omega) (fun μ2 A2 F2 => ?_)
  show kx_wx _ _ _ _ _ (_ :: _) _ _
  refine ks_istore_n_2 rfl rfl ?_
  refine ks_iload_n rfl rfl ?_
  refine ks_aload_n rfl rfl ?_
  refine ks_iload_n rfl rfl ?_
  refine ks_callv_2 rfl rfl rfl (Nat.le_of_ble_eq_true rfl) ?_
  -- at 17: call M_markOf st [None]
  rw [List.append_assoc] at A2
  have F3 := FrT_tr F1 F2
  refine r_markOf (FrT_81 hs F3) h0 h1 hk k0 k1 A2 (by rw [List.length_append]; show l.length + 2 < 11; omega) (fun μ4 A4 F4 => ?_)
  show kx_wx _ _ _ _ _ (_ :: _) _ _
  refine ks_iadd rfl ?_
  refine ks_ireturn rfl ?_
  -- at 21: ret  st [None]
  rw [List.append_assoc] at A4
  exact t _ A4 (FrT_tr F3 F4)
theorem r_sizeOf {k : Int} (hs : μ 81 = s) (h0 : 0 ≤ h) (h1 : h < 6) (hk : s (6 + h) = k) (k0 : 1 ≤ k) (k1 : k ≤ 5) (A : AK μ 90 77 23 []) (t : ∀ μ', AK μ' 90 77 23 (q_sl k) → FrT μ μ' → Q (some (kI (q_sv s h))) (kg L) μ') : kx_cx (ke (d + 7)) 186 [kR 77, kI h] (kg L) μ Q := by
  refine ke_start (tb := kt_M_sizeOf) (ls := [some (kR 77), some (kI h), none]) rfl rfl ?_
  refine ks_aload_n rfl rfl ?_
  refine ks_getr (b := 81) rfl rfl rfl rfl (by decide) ?_
  refine ks_bipush rfl ?_
  refine ks_iload_n rfl rfl ?_
  refine ks_iadd rfl ?_
  refine ks_iaload rfl rfl (by omega) (by omega) (by (try simp only [kx_up_at, kx_row_at, up1_at, Nat.reduceEqDiff, Int.reduceEq, Int.reduceNeg, and_true, true_and, and_false, false_and, and_self, reduceIte, Nat.add_left_cancel_iff, Nat.add_eq_left, Nat.left_eq_add, Nat.reduceAdd, Int.add_left_inj, Int.add_right_inj, hs, hk]); rfl) ?_
  refine ks_istore_n_2 rfl rfl ?_
  refine ks_iload_n rfl rfl ?_
  refine ks_iconst rfl ?_
  -- at 12: if ne -> 28 else 15 st ['2', None]
  refine ks_icmp_ne rfl ⟨by omega, by omega⟩ ⟨by omega, by omega⟩ (fun c => ?_) (fun c => ?_)
  · subst c
    refine ks_aload_n rfl rfl ?_
    refine ks_bipush rfl ?_
    refine ks_callv_2 rfl rfl rfl (Nat.le_of_ble_eq_true rfl) ?_
    -- at 18: call M_begin st []
    refine r_begin A (by show 0 < 16; omega) (fun μ1 A1 F1 => ?_)
    show kx_wx _ _ _ _ _ _ _ _
    refine ks_aload_n rfl rfl ?_
    refine ks_iload_n rfl rfl ?_
    refine ks_callv_2 rfl rfl rfl (Nat.le_of_ble_eq_true rfl) ?_
    -- at 23: call M_firmSize st []
    refine r_firmSize (FrT_81 hs F1) h0 h1 hk k0 k1 A1 (by show 1 < 9; omega) (fun μ2 A2 F2 => ?_)
    show kx_wx _ _ _ _ _ (_ :: _) _ _
    refine ks_ineg rfl ?_
    refine ks_ireturn rfl ?_
    -- at 27: ret  st [None]
    have e1 : q_sv s h = -(s (12 + h) + q_mv s h) := by unfold q_sv q_mv; rw [hk]; rfl
    rw [e1] at t
    exact t _ A2 (FrT_tr F1 F2)
  · refine ks_iload_n rfl rfl ?_
    refine ks_iconst rfl ?_
    -- at 30: if lt -> 41 else 33 st ['4', None]
    refine ks_icmp_lt rfl ⟨by omega, by omega⟩ ⟨by omega, by omega⟩ (fun c2 => ?_) (fun c2 => ?_)
    · refine ks_aload_n rfl rfl ?_
      refine ks_iload_n rfl rfl ?_
      refine ks_callv_2 rfl rfl rfl (Nat.le_of_ble_eq_true rfl) ?_
      -- at 43: call M_firmSize st []
      refine r_firmSize hs h0 h1 hk k0 k1 A (by show 0 < 9; omega) (fun μ2 A2 F2 => ?_)
      show kx_wx _ _ _ _ _ (_ :: _) _ _
      refine ks_ireturn rfl ?_
      -- at 46: ret  st [None]
      have e1 : q_sv s h = s (12 + h) + q_mv s h := by unfold q_sv; rw [hk, if_neg c, if_neg (by omega), if_neg (by omega)]
      have e3 : q_sl k = [] ++ ([11, 10] ++ q_ml k) := by
        have hc : k = 1 ∨ k = 3 := by omega
        rcases hc with g | g <;> subst g <;> rfl
      rw [e1, e3] at t
      exact t _ A2 F2
    · refine ks_aload_n rfl rfl ?_
      refine ks_iload_n rfl rfl ?_
      refine ks_callv_2 rfl rfl rfl (Nat.le_of_ble_eq_true rfl) ?_
      -- at 35: call M_sizeOfWindy st []
      refine r_sizeOfWindy hs h0 h1 hk (by omega) k1 A (by show 0 < 14; omega) (fun μ2 A2 F2 => ?_)
      show kx_wx _ _ _ _ _ (_ :: _) _ _
      refine ks_goto rfl ?_
      refine ks_ireturn rfl ?_
      -- at 46: ret  st [None]
      exact t _ A2 F2
theorem r_Mask (hh : kx_in h) (hw : kx_in w) (hs : μ 81 = s) (N : TN s) (t1 : ¬ ((0 ≤ h ∧ h < s 1) ∧ (0 ≤ w ∧ w ≤ 1)) → Q (some (kI (-1000001))) (kg L) μ) (t2 : 0 ≤ h → h < s 1 → 0 ≤ w → w ≤ 1 → ∀ μ', AK μ' 90 77 23 (if w = 0 then q_sl (s (6 + h)) else q_ml (s (6 + h))) → FrT μ μ' → Q (some (kI (if w = 0 then q_sv s h else q_mv s h))) (kg L) μ') : kx_cx (ke (d + 8)) 187 [kR 77, kI h, kI w] (kg L) μ Q := by
  refine ke_start (tb := kt_M_ask) (ls := [some (kR 77), some (kI h), some (kI w)]) rfl rfl ?_
  obtain ⟨n1, n2, n3⟩ := TN_in N
  obtain ⟨_, _⟩ := hw
  refine ks_aload_n rfl rfl ?_
  refine ks_iload_n rfl rfl ?_
  refine ks_callv_2 rfl rfl rfl (Nat.le_of_ble_eq_true rfl) ?_
  -- at 2: call M_isHead st []
  refine r_isHead hh (by rw [hs]; exact ⟨by omega, by omega⟩) (fun c => ?_) (fun c => ?_)
  · rw [hs] at c
    show kx_wx _ _ _ _ _ (_ :: _) _ _
    refine ks_if_eq_1 rfl ?_
    refine ks_iload_n rfl rfl ?_
    refine ks_i2l rfl ⟨by omega, by omega⟩ ?_
    refine ks_lconst rfl ?_
    refine ks_lconst rfl ?_
    refine ks_calls_3 rfl (Nat.le_of_ble_eq_true rfl) ?_
    -- at 12: call M_in st []
    refine r_in ⟨by omega, by omega⟩ ⟨by omega, by omega⟩ ⟨by omega, by omega⟩ (fun c2 => ?_) (fun c2 => ?_)
    · obtain ⟨W, Z⟩ := TN_W N (by omega)
      have w7 := W.2.2.2.2.2.2.1 h c.1 c.2
      have t3 := t2 c.1 c.2 c2.1 c2.2
      show kx_wx _ _ _ _ _ (_ :: _) _ _
      refine ks_if_ne_1 rfl ?_
      refine ks_aload_n rfl rfl ?_
      refine ks_iconst rfl ?_
      refine ks_puti rfl rfl ?_
      refine ks_iload_n rfl rfl ?_
      -- at 27: if ne -> 38 else 30 st [None]
      have A0 : AK (kx_up μ 77 23 0) 90 77 23 [] := ⟨kx_up_self _ _ _ _, fun i hi => absurd hi (Nat.not_lt_zero i)⟩
      have F0 : FrT μ (kx_up μ 77 23 0) := ⟨fun j hj => kx_up_oth hj, fun c a b => kx_up_row a⟩
      have hs0 : kx_up μ 77 23 0 81 = s := by rw [kx_up_row (by omega)]; exact hs
      generalize kx_up μ 77 23 0 = μ0 at *
      refine ks_if_ne rfl ⟨by omega, by omega⟩ (fun c3 => ?_) (fun c3 => ?_)
      · refine ks_aload_n rfl rfl ?_
        refine ks_iload_n rfl rfl ?_
        refine ks_callv_2 rfl rfl rfl (Nat.le_of_ble_eq_true rfl) ?_
        -- at 32: call M_sizeOf st []
        rw [if_pos c3] at t3
        rw [if_pos c3] at t3
        refine r_sizeOf hs0 c.1 (by omega) rfl w7.1.1 w7.1.2 A0 (fun μ1 A1 F1 => ?_)
        show kx_wx _ _ _ _ _ (_ :: _) _ _
        refine ks_goto rfl ?_
        refine ks_ireturn rfl ?_
        -- at 43: ret  st [None]
        exact t3 _ A1 (FrT_tr F0 F1)
      · refine ks_aload_n rfl rfl ?_
        refine ks_iload_n rfl rfl ?_
        refine ks_callv_2 rfl rfl rfl (Nat.le_of_ble_eq_true rfl) ?_
        -- at 40: call M_markOf st []
        rw [if_neg c3] at t3
        rw [if_neg c3] at t3
        refine r_markOf hs0 c.1 (by omega) rfl w7.1.1 w7.1.2 A0 (by show 0 < 11; omega) (fun μ1 A1 F1 => ?_)
        show kx_wx _ _ _ _ _ (_ :: _) _ _
        refine ks_ireturn rfl ?_
        -- at 43: ret  st [None]
        exact t3 _ A1 (FrT_tr F0 F1)
    · show kx_wx _ _ _ _ _ (_ :: _) _ _
      refine ks_if_ne_0 rfl ?_
      refine ks_ldc rfl ?_
      refine ks_ireturn rfl ?_
      -- at 20: ret  st ['-1000001']
      exact t1 (fun q => c2 q.2)
  · rw [hs] at c
    show kx_wx _ _ _ _ _ (_ :: _) _ _
    refine ks_if_eq_0 rfl ?_
    refine ks_ldc rfl ?_
    refine ks_ireturn rfl ?_
    -- at 20: ret  st ['-1000001']
    exact t1 (fun q => c q.1)
theorem r_Xask (hh : kx_in h) (hw : kx_in w) (B : TB μ) (T : TR μ 30 s) (N : TN s) (t1 : ¬ ((0 ≤ h ∧ h < s 1) ∧ (0 ≤ w ∧ w ≤ 1)) → Q (some (kI (-1000001))) (kg L) μ) (t2 : 0 ≤ h → h < s 1 → 0 ≤ w → w ≤ 1 → ∀ μ', AK μ' 56 55 1 (if w = 0 then q_sl (s (6 + h)) else q_ml (s (6 + h))) → FrC μ μ' → Q (some (kI (if w = 0 then q_sv s h else q_mv s h))) (kg L) μ') : kx_cx (ke (d + 10)) 101 [kR 1, kI h, kI w] (kg L) μ Q := by
  refine ke_start (tb := kt_X_ask) (ls := [some (kR 1), some (kI h), some (kI w)]) rfl rfl ?_
  obtain ⟨n1, n2, n3⟩ := TN_in N
  have e8 := T.1
  refine ks_aload_n rfl rfl ?_
  refine ks_getr (b := 30) rfl rfl rfl rfl (by decide) ?_
  refine ks_iload_n rfl rfl ?_
  refine ks_callv_2 rfl rfl rfl (Nat.le_of_ble_eq_true rfl) ?_
  -- at 5: call Town_hasHead st []
  refine r_hasHead (kg_T30 L) hh ⟨by omega, by omega⟩ (fun c => ?_) (fun c => ?_)
  · show kx_wx _ _ _ _ _ (_ :: _) _ _
    refine ks_if_eq_1 rfl ?_
    refine ks_iload_n rfl rfl ?_
    refine ks_iconst rfl ?_
    refine ks_iconst rfl ?_
    refine ks_calls_3 rfl (Nat.le_of_ble_eq_true rfl) ?_
    -- at 14: call X_isBetween st []
    refine r_isBetween hw ⟨by omega, by omega⟩ ⟨by omega, by omega⟩ (fun c2 => ?_) (fun c2 => ?_)
    · obtain ⟨W, Z⟩ := TN_W N (by omega)
      have t3 := t2 c.1 (by omega) c2.1 c2.2
      show kx_wx _ _ _ _ _ (_ :: _) _ _
      refine ks_if_ne_1 rfl ?_
      refine ks_aload_n rfl rfl ?_
      refine ks_getr (b := 55) rfl rfl rfl rfl (by decide) ?_
      refine ks_aload_n rfl rfl ?_
      refine ks_getr (b := 30) rfl rfl rfl rfl (by decide) ?_
      refine ks_iload_n rfl rfl ?_
      refine ks_iload_n rfl rfl ?_
      refine ks_callv_4 rfl rfl rfl (Nat.le_of_ble_eq_true rfl) ?_
      -- at 33: call Asker_answer st []
      refine ke_start (m := 6) (tb := kt_Asker_answer) (ls := [some (kR 55), some (kR 30), some (kI h), some (kI w)]) rfl rfl ?_
      have A0 : AK (kx_up μ 55 1 0) 56 55 1 [] := ⟨kx_up_self _ _ _ _, fun i hi => absurd hi (Nat.not_lt_zero i)⟩
      have F0 : FrC μ (kx_up μ 55 1 0) := fun c a b => kx_up_row a
      refine ks_aload_n rfl rfl ?_
      refine ks_iconst rfl ?_
      refine ks_puti rfl rfl ?_
      refine ks_aload_n rfl rfl ?_
      refine ks_iload_n rfl rfl ?_
      refine ks_aload_n rfl rfl ?_
      refine ks_iload_n rfl rfl ?_
      refine ks_iconst rfl ?_
      refine ks_callv_5 rfl rfl rfl (Nat.le_of_ble_eq_true rfl) ?_
      -- at 10: call Asker_askAnew st []
      generalize kx_up μ 55 1 0 = μ0 at *
      refine r_askAnew (TB_C B F0) (TR_C T F0) W c.1 (by omega) c2.1 c2.2 A0 (fun μ1 A1 F1 => ?_)
      show kx_wx _ _ _ _ _ (_ :: _) _ _
      refine ks_ireturn rfl ?_
      -- at 13: ret  st [None]
      show kx_wx _ _ _ _ _ (_ :: _) _ _
      refine ks_ireturn rfl ?_
      -- at 36: ret  st [None]
      exact t3 _ A1 (FrC_tr F0 F1)
    · show kx_wx _ _ _ _ _ (_ :: _) _ _
      refine ks_if_ne_0 rfl ?_
      refine ks_ldc rfl ?_
      refine ks_ireturn rfl ?_
      -- at 22: ret  st ['-1000001']
      exact t1 (fun q => c2 q.2)
  · show kx_wx _ _ _ _ _ (_ :: _) _ _
    refine ks_if_eq_0 rfl ?_
    refine ks_ldc rfl ?_
    refine ks_ireturn rfl ?_
    -- at 22: ret  st ['-1000001']
    exact t1 (fun q => c (by omega))
theorem r_Xtrace (hv : kx_in v) (hm : 0 ≤ μ 55 1 ∧ μ 55 1 ≤ 16) (t0 : ¬ (0 ≤ v ∧ v < μ 55 1) → Q (some (kI (-1000000))) (kg L) μ) (t1 : 0 ≤ v → v < μ 55 1 → Q (some (kI (μ 56 v))) (kg L) μ) : kx_cx (ke (d + 2)) 102 [kR 1, kI v] (kg L) μ Q := by
  refine ke_start (tb := kt_X_trace) (ls := [some (kR 1), some (kI v)]) rfl rfl ?_
  obtain ⟨_, _⟩ := hv
  refine ks_aload_n rfl rfl ?_
  refine ks_getr (b := 55) rfl rfl rfl rfl (by decide) ?_
  refine ks_iload_n rfl rfl ?_
  refine ks_callv_2 rfl rfl rfl (Nat.le_of_ble_eq_true rfl) ?_
  -- at 5: call Asker_numberAt st []
  refine ke_start (m := 5) (tb := kt_Asker_numberAt) (ls := [some (kR 55), some (kI v)]) rfl rfl ?_
  refine ks_iconst rfl ?_
  refine ks_iload_n rfl rfl ?_
  -- at 2: if gt -> 22 else 5 st [None, '0']
  refine ks_icmp_gt rfl ⟨by omega, by omega⟩ ⟨by omega, by omega⟩ (fun c => ?_) (fun c => ?_)
  · refine ks_ldc rfl ?_
    refine ks_ireturn rfl ?_
    -- at 24: ret  st ['-1000000']
    show kx_wx _ _ _ _ _ (_ :: _) _ _
    refine ks_ireturn rfl ?_
    -- at 8: ret  st [None]
    exact t0 (by omega)
  · refine ks_iload_n rfl rfl ?_
    refine ks_aload_n rfl rfl ?_
    refine ks_geti rfl rfl rfl rfl (by (try simp only [kx_up_at, kx_row_at, up1_at, Nat.reduceEqDiff, Int.reduceEq, Int.reduceNeg, and_true, true_and, and_false, false_and, and_self, reduceIte, Nat.add_left_cancel_iff, Nat.add_eq_left, Nat.left_eq_add, Nat.reduceAdd, Int.add_left_inj, Int.add_right_inj]); rfl) ?_
    -- at 10: if ge -> 22 else 13 st [None, None]
    refine ks_icmp_ge rfl ⟨by omega, by omega⟩ ⟨by omega, by omega⟩ (fun c2 => ?_) (fun c2 => ?_)
    · refine ks_aload_n rfl rfl ?_
      refine ks_getr (b := 56) rfl rfl rfl rfl (by decide) ?_
      refine ks_iload_n rfl rfl ?_
      refine ks_iaload rfl rfl (by omega) (by omega) (by (try simp only [kx_up_at, kx_row_at, up1_at, Nat.reduceEqDiff, Int.reduceEq, Int.reduceNeg, and_true, true_and, and_false, false_and, and_self, reduceIte, Nat.add_left_cancel_iff, Nat.add_eq_left, Nat.left_eq_add, Nat.reduceAdd, Int.add_left_inj, Int.add_right_inj]); rfl) ?_
      refine ks_goto rfl ?_
      refine ks_ireturn rfl ?_
      -- at 24: ret  st [None]
      show kx_wx _ _ _ _ _ (_ :: _) _ _
      refine ks_ireturn rfl ?_
      -- at 8: ret  st [None]
      exact t1 (by omega) c2
    · refine ks_ldc rfl ?_
      refine ks_ireturn rfl ?_
      -- at 24: ret  st ['-1000000']
      show kx_wx _ _ _ _ _ (_ :: _) _ _
      refine ks_ireturn rfl ?_
      -- at 8: ret  st [None]
      exact t0 (by omega)
theorem r_Mtrace (hv : kx_in v) (hm : 0 ≤ μ 77 23 ∧ μ 77 23 ≤ 16) (t0 : ¬ (0 ≤ v ∧ v < μ 77 23) → Q (some (kI (-1000000))) (kg L) μ) (t1 : 0 ≤ v → v < μ 77 23 → Q (some (kI (μ 90 v))) (kg L) μ) : kx_cx (ke (d + 2)) 188 [kR 77, kI v] (kg L) μ Q := by
  refine ke_start (tb := kt_M_trace) (ls := [some (kR 77), some (kI v)]) rfl rfl ?_
  obtain ⟨_, _⟩ := hv
  refine ks_iload_n rfl rfl ?_
  refine ks_i2l rfl ⟨by omega, by omega⟩ ?_
  refine ks_lconst rfl ?_
  refine ks_aload_n rfl rfl ?_
  refine ks_geti rfl rfl rfl rfl (by (try simp only [kx_up_at, kx_row_at, up1_at, Nat.reduceEqDiff, Int.reduceEq, Int.reduceNeg, and_true, true_and, and_false, false_and, and_self, reduceIte, Nat.add_left_cancel_iff, Nat.add_eq_left, Nat.left_eq_add, Nat.reduceAdd, Int.add_left_inj, Int.add_right_inj]); rfl) ?_
  refine ks_iconst rfl ?_
  refine ks_isub rfl ?_
  refine ks_i2l rfl ⟨by omega, by omega⟩ ?_
  refine ks_calls_3 rfl (Nat.le_of_ble_eq_true rfl) ?_
  -- at 10: call M_in st []
  refine r_in ⟨by omega, by omega⟩ ⟨by omega, by omega⟩ ⟨by omega, by omega⟩ (fun c => ?_) (fun c => ?_)
  · show kx_wx _ _ _ _ _ (_ :: _) _ _
    refine ks_if_eq_1 rfl ?_
    refine ks_aload_n rfl rfl ?_
    refine ks_getr (b := 90) rfl rfl rfl rfl (by decide) ?_
    refine ks_iload_n rfl rfl ?_
    refine ks_iaload rfl rfl (by omega) (by omega) (by (try simp only [kx_up_at, kx_row_at, up1_at, Nat.reduceEqDiff, Int.reduceEq, Int.reduceNeg, and_true, true_and, and_false, false_and, and_self, reduceIte, Nat.add_left_cancel_iff, Nat.add_eq_left, Nat.left_eq_add, Nat.reduceAdd, Int.add_left_inj, Int.add_right_inj]); rfl) ?_
    refine ks_goto rfl ?_
    refine ks_ireturn rfl ?_
    -- at 27: ret  st [None]
    exact t1 (by omega) (by omega)
  · show kx_wx _ _ _ _ _ (_ :: _) _ _
    refine ks_if_eq_0 rfl ?_
    refine ks_ldc rfl ?_
    refine ks_ireturn rfl ?_
    -- at 27: ret  st ['-1000000']
    exact t0 (by omega)
theorem r_Xkind (hv : kx_in v) (T : TR μ 30 s) (N : TN s) (t0 : ¬ (0 ≤ v ∧ v < s 1) → Q (some (kI (-1000001))) (kg L) μ) (t1 : 0 ≤ v → v < s 1 → Q (some (kI (s (6 + v)))) (kg L) μ) : kx_cx (ke (d + 2)) 99 [kR 1, kI v] (kg L) μ Q := by
  refine ke_start (tb := kt_X_kind) (ls := [some (kR 1), some (kI v)]) rfl rfl ?_
  obtain ⟨n1, n2, n3⟩ := TN_in N
  have e8 := T.1
  refine ks_aload_n rfl rfl ?_
  refine ks_getr (b := 30) rfl rfl rfl rfl (by decide) ?_
  refine ks_iload_n rfl rfl ?_
  refine ks_callv_2 rfl rfl rfl (Nat.le_of_ble_eq_true rfl) ?_
  -- at 5: call Town_hasHead st []
  refine r_hasHead (kg_T30 L) hv ⟨by omega, by omega⟩ (fun c => ?_) (fun c => ?_)
  · have k := (T.2.2.2.2.2.2.1 v c.1 (by omega)).1
    show kx_wx _ _ _ _ _ (_ :: _) _ _
    refine ks_if_eq_1 rfl ?_
    refine ks_aload_n rfl rfl ?_
    refine ks_getr (b := 30) rfl rfl rfl rfl (by decide) ?_
    refine ks_getr (b := 31) rfl rfl rfl rfl (by decide) ?_
    refine ks_iload_n rfl rfl ?_
    refine ks_iaload rfl rfl (by omega) (by omega) (by (try simp only [kx_up_at, kx_row_at, up1_at, Nat.reduceEqDiff, Int.reduceEq, Int.reduceNeg, and_true, true_and, and_false, false_and, and_self, reduceIte, Nat.add_left_cancel_iff, Nat.add_eq_left, Nat.left_eq_add, Nat.reduceAdd, Int.add_left_inj, Int.add_right_inj, k]); rfl) ?_
    refine ks_goto rfl ?_
    refine ks_ireturn rfl ?_
    -- at 25: ret  st [None]
    exact t1 c.1 (by omega)
  · show kx_wx _ _ _ _ _ (_ :: _) _ _
    refine ks_if_eq_0 rfl ?_
    refine ks_ldc rfl ?_
    refine ks_ireturn rfl ?_
    -- at 25: ret  st ['-1000001']
    exact t0 (by omega)
theorem r_Mkind (hv : kx_in v) (hs : μ 81 = s) (N : TN s) (t0 : ¬ (0 ≤ v ∧ v < s 1) → Q (some (kI (-1000001))) (kg L) μ) (t1 : 0 ≤ v → v < s 1 → Q (some (kI (s (6 + v)))) (kg L) μ) : kx_cx (ke (d + 3)) 176 [kR 77, kI v] (kg L) μ Q := by
  refine ke_start (tb := kt_M_kind) (ls := [some (kR 77), some (kI v)]) rfl rfl ?_
  obtain ⟨n1, n2, n3⟩ := TN_in N
  refine ks_aload_n rfl rfl ?_
  refine ks_iload_n rfl rfl ?_
  refine ks_callv_2 rfl rfl rfl (Nat.le_of_ble_eq_true rfl) ?_
  -- at 2: call M_isHead st []
  refine r_isHead hv (by rw [hs]; exact ⟨by omega, by omega⟩) (fun c => ?_) (fun c => ?_)
  · rw [hs] at c
    show kx_wx _ _ _ _ _ (_ :: _) _ _
    refine ks_if_eq_1 rfl ?_
    refine ks_aload_n rfl rfl ?_
    refine ks_getr (b := 81) rfl rfl rfl rfl (by decide) ?_
    refine ks_bipush rfl ?_
    refine ks_iload_n rfl rfl ?_
    refine ks_iadd rfl ?_
    refine ks_iaload rfl rfl (by omega) (by omega) (by (try simp only [kx_up_at, kx_row_at, up1_at, Nat.reduceEqDiff, Int.reduceEq, Int.reduceNeg, and_true, true_and, and_false, false_and, and_self, reduceIte, Nat.add_left_cancel_iff, Nat.add_eq_left, Nat.left_eq_add, Nat.reduceAdd, Int.add_left_inj, Int.add_right_inj, hs]); rfl) ?_
    refine ks_goto rfl ?_
    refine ks_ireturn rfl ?_
    -- at 22: ret  st [None]
    exact t1 c.1 c.2
  · rw [hs] at c
    show kx_wx _ _ _ _ _ (_ :: _) _ _
    refine ks_if_eq_0 rfl ?_
    refine ks_ldc rfl ?_
    refine ks_ireturn rfl ?_
    -- at 22: ret  st ['-1000001']
    exact t0 c
/-- k is one of kind a -/
def q_is (k a : Int) : Prop := a = 0 ∨ k = a ∨ (a = 1 ∧ k < 4) ∨ (a = 4 ∧ k = 5)
theorem r_isKind {k a : Int} (k0 : 1 ≤ k) (k1 : k ≤ 5) (a0 : 0 ≤ a) (a1 : a ≤ 5) (t1 : q_is k a → Q (some (kI 1)) G μ) (t0 : ¬ q_is k a → Q (some (kI 0)) G μ) : kx_cx (ke (d + 1)) 177 [kI k, kI a] G μ Q := by
  refine ke_start (tb := kt_M_isKind) (ls := [some (kI k), some (kI a)]) rfl rfl ?_
  unfold q_is at t1 t0
  refine ks_iload_n rfl rfl ?_
  refine ks_if_eq rfl ⟨by omega, by omega⟩ (fun h1 => ?_) (fun h1 => ?_)
  · refine ks_iconst rfl ?_
    refine ks_goto rfl ?_
    refine ks_zreturn rfl (by omega) ?_
    first | exact t1 (by omega) | exact t0 (by omega)
  · refine ks_iload_n rfl rfl ?_
    refine ks_iload_n rfl rfl ?_
    refine ks_icmp_eq rfl ⟨by omega, by omega⟩ ⟨by omega, by omega⟩ (fun h2 => ?_) (fun h2 => ?_)
    · refine ks_iconst rfl ?_
      refine ks_goto rfl ?_
      refine ks_zreturn rfl (by omega) ?_
      first | exact t1 (by omega) | exact t0 (by omega)
    · refine ks_iload_n rfl rfl ?_
      refine ks_iconst rfl ?_
      refine ks_icmp_ne rfl ⟨by omega, by omega⟩ ⟨by omega, by omega⟩ (fun h3 => ?_) (fun h3 => ?_)
      · refine ks_iload_n rfl rfl ?_
        refine ks_iconst rfl ?_
        refine ks_icmp_lt rfl ⟨by omega, by omega⟩ ⟨by omega, by omega⟩ (fun h4 => ?_) (fun h4 => ?_)
        · refine ks_iconst rfl ?_
          refine ks_goto rfl ?_
          refine ks_zreturn rfl (by omega) ?_
          first | exact t1 (by omega) | exact t0 (by omega)
        · refine ks_iload_n rfl rfl ?_
          refine ks_iconst rfl ?_
          refine ks_icmp_ne rfl ⟨by omega, by omega⟩ ⟨by omega, by omega⟩ (fun h5 => ?_) (fun h5 => ?_)
          · refine ks_iload_n rfl rfl ?_
            refine ks_iconst rfl ?_
            refine ks_icmp_ne rfl ⟨by omega, by omega⟩ ⟨by omega, by omega⟩ (fun h6 => ?_) (fun h6 => ?_)
            · refine ks_iconst rfl ?_
              refine ks_goto rfl ?_
              refine ks_zreturn rfl (by omega) ?_
              first | exact t1 (by omega) | exact t0 (by omega)
            · refine ks_iconst rfl ?_
              refine ks_zreturn rfl (by omega) ?_
              first | exact t1 (by omega) | exact t0 (by omega)
          · refine ks_iconst rfl ?_
            refine ks_zreturn rfl (by omega) ?_
            first | exact t1 (by omega) | exact t0 (by omega)
      · refine ks_iload_n rfl rfl ?_
        refine ks_iconst rfl ?_
        refine ks_icmp_ne rfl ⟨by omega, by omega⟩ ⟨by omega, by omega⟩ (fun h7 => ?_) (fun h7 => ?_)
        · refine ks_iload_n rfl rfl ?_
          refine ks_iconst rfl ?_
          refine ks_icmp_ne rfl ⟨by omega, by omega⟩ ⟨by omega, by omega⟩ (fun h8 => ?_) (fun h8 => ?_)
          · refine ks_iconst rfl ?_
            refine ks_goto rfl ?_
            refine ks_zreturn rfl (by omega) ?_
            first | exact t1 (by omega) | exact t0 (by omega)
          · refine ks_iconst rfl ?_
            refine ks_zreturn rfl (by omega) ?_
            first | exact t1 (by omega) | exact t0 (by omega)
        · refine ks_iconst rfl ?_
          refine ks_zreturn rfl (by omega) ?_
          first | exact t1 (by omega) | exact t0 (by omega)
theorem l_isOne {K k j k' a : Int} (a0 : 0 ≤ a) (a1 : a ≤ 5) (k0 : 0 ≤ k) (k1 : k ≤ 5) (j0 : 0 ≤ j) (j1 : j ≤ 5) (hk : μ 101 k = k') (t1 : k = a → Q (some (kI 1)) (kg L) μ) (t0 : k ≠ a → kx_wx (ke d) kt_Kinds_isOne Q 4 [some (kI K), some (kI a), some (kI k'), some (kI (j + 1))] [] (kg L) μ) : kx_wx (ke d) kt_Kinds_isOne Q 4 [some (kI K), some (kI a), some (kI k), some (kI j)] [] (kg L) μ := by
  refine ks_iload_n rfl rfl ?_
  refine ks_bipush rfl ?_
  -- at 7: if ge -> 29 else 10 st ['6', None]
  refine ks_icmp_ge rfl ⟨by omega, by omega⟩ ⟨by omega, by omega⟩ (fun c => ?_) (fun c => absurd c (by omega))
  refine ks_iload_n rfl rfl ?_
  refine ks_iload_n rfl rfl ?_
  -- at 12: if ne -> 17 else 15 st [None, None]
  refine ks_icmp_ne rfl ⟨by omega, by omega⟩ ⟨by omega, by omega⟩ (fun c2 => ?_) (fun c2 => ?_)
  · refine ks_iconst rfl ?_
    refine ks_zreturn rfl (by omega) ?_
    -- at 16: ret  st ['1']
    exact t1 c2
  · refine ks_getstatic rfl ?_
    refine ks_iload_n rfl rfl ?_
    refine ks_iaload7 rfl rfl (by omega) (by omega) (by (try simp only [kx_up_at, kx_row_at, up1_at, Nat.reduceEqDiff, Int.reduceEq, Int.reduceNeg, and_true, true_and, and_false, false_and, and_self, reduceIte, Nat.add_left_cancel_iff, Nat.add_eq_left, Nat.left_eq_add, Nat.reduceAdd, Int.add_left_inj, Int.add_right_inj, hk]); rfl) ?_
    refine ks_istore_n_2 rfl rfl ?_
    refine ks_iinc_3 rfl rfl ?_
    refine ks_goto rfl ?_
    -- at 4: stop  st []
    exact t0 c2
theorem e_isOne {K k a : Int} (t : Q (some (kI 0)) (kg L) μ) : kx_wx (ke d) kt_Kinds_isOne Q 4 [some (kI K), some (kI a), some (kI k), some (kI (0 + 1 + 1 + 1 + 1 + 1 + 1))] [] (kg L) μ := by
  refine ks_iload_n rfl rfl ?_
  refine ks_bipush rfl ?_
  -- at 7: if ge -> 29 else 10 st ['6', None]
  refine ks_icmp_ge rfl ⟨by omega, by omega⟩ ⟨by omega, by omega⟩ (fun c => absurd c (by omega)) (fun c => ?_)
  refine ks_iconst rfl ?_
  refine ks_zreturn rfl (by omega) ?_
  -- at 30: ret  st ['0']
  exact t
theorem r_isOne {k a : Int} (B : TB μ) (k0 : 1 ≤ k) (k1 : k ≤ 5) (a0 : 0 ≤ a) (a1 : a ≤ 5) (t1 : q_is k a → Q (some (kI 1)) (kg L) μ) (t0 : ¬ q_is k a → Q (some (kI 0)) (kg L) μ) : kx_cx (ke (d + 1)) 28 [kI k, kI a] (kg L) μ Q := by
  refine ke_start (tb := kt_Kinds_isOne) (ls := [some (kI k), some (kI a), none, none]) rfl rfl ?_
  obtain ⟨b1, b2, b3, b4⟩ := B
  unfold q_is at t1 t0
  have z0 : μ 101 0 = 0 := by rw [b1]; rfl
  have z1 : μ 101 1 = 0 := by rw [b1]; rfl
  have z2 : μ 101 2 = 1 := by rw [b1]; rfl
  have z3 : μ 101 3 = 1 := by rw [b1]; rfl
  have z4 : μ 101 4 = 0 := by rw [b1]; rfl
  have z5 : μ 101 5 = 4 := by rw [b1]; rfl
  refine ks_iload_n rfl rfl ?_
  refine ks_istore_n_2 rfl rfl ?_
  refine ks_iconst rfl ?_
  refine ks_istore_n_3 rfl rfl ?_
  -- at 4: stop  st []
  have hc : k = 1 ∨ k = 2 ∨ k = 3 ∨ k = 4 ∨ k = 5 := by omega
  rcases hc with g | g | g | g | g
  · subst g
    refine l_isOne a0 a1 (by omega) (by omega) (by omega) (by omega) z1 (fun q => t1 (by omega)) (fun q1 => ?_)
    refine l_isOne a0 a1 (by omega) (by omega) (by omega) (by omega) z0 (fun q => t1 (by omega)) (fun q2 => ?_)
    refine l_isOne a0 a1 (by omega) (by omega) (by omega) (by omega) z0 (fun q => t1 (by omega)) (fun q3 => ?_)
    refine l_isOne a0 a1 (by omega) (by omega) (by omega) (by omega) z0 (fun q => t1 (by omega)) (fun q4 => ?_)
    refine l_isOne a0 a1 (by omega) (by omega) (by omega) (by omega) z0 (fun q => t1 (by omega)) (fun q5 => ?_)
    refine l_isOne a0 a1 (by omega) (by omega) (by omega) (by omega) z0 (fun q => t1 (by omega)) (fun q6 => ?_)
    exact e_isOne (t0 (by omega))
  · subst g
    refine l_isOne a0 a1 (by omega) (by omega) (by omega) (by omega) z2 (fun q => t1 (by omega)) (fun q1 => ?_)
    refine l_isOne a0 a1 (by omega) (by omega) (by omega) (by omega) z1 (fun q => t1 (by omega)) (fun q2 => ?_)
    refine l_isOne a0 a1 (by omega) (by omega) (by omega) (by omega) z0 (fun q => t1 (by omega)) (fun q3 => ?_)
    refine l_isOne a0 a1 (by omega) (by omega) (by omega) (by omega) z0 (fun q => t1 (by omega)) (fun q4 => ?_)
    refine l_isOne a0 a1 (by omega) (by omega) (by omega) (by omega) z0 (fun q => t1 (by omega)) (fun q5 => ?_)
    refine l_isOne a0 a1 (by omega) (by omega) (by omega) (by omega) z0 (fun q => t1 (by omega)) (fun q6 => ?_)
    exact e_isOne (t0 (by omega))
  · subst g
    refine l_isOne a0 a1 (by omega) (by omega) (by omega) (by omega) z3 (fun q => t1 (by omega)) (fun q1 => ?_)
    refine l_isOne a0 a1 (by omega) (by omega) (by omega) (by omega) z1 (fun q => t1 (by omega)) (fun q2 => ?_)
    refine l_isOne a0 a1 (by omega) (by omega) (by omega) (by omega) z0 (fun q => t1 (by omega)) (fun q3 => ?_)
    refine l_isOne a0 a1 (by omega) (by omega) (by omega) (by omega) z0 (fun q => t1 (by omega)) (fun q4 => ?_)
    refine l_isOne a0 a1 (by omega) (by omega) (by omega) (by omega) z0 (fun q => t1 (by omega)) (fun q5 => ?_)
    refine l_isOne a0 a1 (by omega) (by omega) (by omega) (by omega) z0 (fun q => t1 (by omega)) (fun q6 => ?_)
    exact e_isOne (t0 (by omega))
  · subst g
    refine l_isOne a0 a1 (by omega) (by omega) (by omega) (by omega) z4 (fun q => t1 (by omega)) (fun q1 => ?_)
    refine l_isOne a0 a1 (by omega) (by omega) (by omega) (by omega) z0 (fun q => t1 (by omega)) (fun q2 => ?_)
    refine l_isOne a0 a1 (by omega) (by omega) (by omega) (by omega) z0 (fun q => t1 (by omega)) (fun q3 => ?_)
    refine l_isOne a0 a1 (by omega) (by omega) (by omega) (by omega) z0 (fun q => t1 (by omega)) (fun q4 => ?_)
    refine l_isOne a0 a1 (by omega) (by omega) (by omega) (by omega) z0 (fun q => t1 (by omega)) (fun q5 => ?_)
    refine l_isOne a0 a1 (by omega) (by omega) (by omega) (by omega) z0 (fun q => t1 (by omega)) (fun q6 => ?_)
    exact e_isOne (t0 (by omega))
  · subst g
    refine l_isOne a0 a1 (by omega) (by omega) (by omega) (by omega) z5 (fun q => t1 (by omega)) (fun q1 => ?_)
    refine l_isOne a0 a1 (by omega) (by omega) (by omega) (by omega) z4 (fun q => t1 (by omega)) (fun q2 => ?_)
    refine l_isOne a0 a1 (by omega) (by omega) (by omega) (by omega) z0 (fun q => t1 (by omega)) (fun q3 => ?_)
    refine l_isOne a0 a1 (by omega) (by omega) (by omega) (by omega) z0 (fun q => t1 (by omega)) (fun q4 => ?_)
    refine l_isOne a0 a1 (by omega) (by omega) (by omega) (by omega) z0 (fun q => t1 (by omega)) (fun q5 => ?_)
    refine l_isOne a0 a1 (by omega) (by omega) (by omega) (by omega) z0 (fun q => t1 (by omega)) (fun q6 => ?_)
    exact e_isOne (t0 (by omega))
theorem r_Xas (hv : kx_in v) (hw : kx_in w) (B : TB μ) (T : TR μ 30 s) (N : TN s) (t1 : ¬ ((0 ≤ v ∧ v < s 1) ∧ (0 ≤ w ∧ w ≤ 5)) → Q (some (kI (-1000001))) (kg L) μ) (t3 : 0 ≤ v → v < s 1 → 0 ≤ w → w ≤ 5 → ¬ q_is (s (6 + v)) w → Q (some (kI (-1000013))) (kg L) (kx_up μ 1 10 3)) (t2 : 0 ≤ v → v < s 1 → 0 ≤ w → w ≤ 5 → q_is (s (6 + v)) w → Q (some (kI v)) (kg L) (kx_up μ 1 10 0)) : kx_cx (ke (d + 2)) 100 [kR 1, kI v, kI w] (kg L) μ Q := by
  refine ke_start (tb := kt_X_as) (ls := [some (kR 1), some (kI v), some (kI w)]) rfl rfl ?_
  obtain ⟨n1, n2, n3⟩ := TN_in N
  have e8 := T.1
  refine ks_aload_n rfl rfl ?_
  refine ks_getr (b := 30) rfl rfl rfl rfl (by decide) ?_
  refine ks_iload_n rfl rfl ?_
  refine ks_callv_2 rfl rfl rfl (Nat.le_of_ble_eq_true rfl) ?_
  -- at 5: call Town_hasHead st []
  refine r_hasHead (kg_T30 L) hv ⟨by omega, by omega⟩ (fun c => ?_) (fun c => ?_)
  · show kx_wx _ _ _ _ _ (_ :: _) _ _
    refine ks_if_eq_1 rfl ?_
    refine ks_iload_n rfl rfl ?_
    refine ks_iconst rfl ?_
    refine ks_iconst rfl ?_
    refine ks_calls_3 rfl (Nat.le_of_ble_eq_true rfl) ?_
    -- at 14: call X_isBetween st []
    refine r_isBetween hw ⟨by omega, by omega⟩ ⟨by omega, by omega⟩ (fun c2 => ?_) (fun c2 => ?_)
    · obtain ⟨W, Z⟩ := TN_W N (by omega)
      have w7 := W.2.2.2.2.2.2.1 v c.1 (by omega)
      have k := (T.2.2.2.2.2.2.1 v c.1 (by omega)).1
      show kx_wx _ _ _ _ _ (_ :: _) _ _
      refine ks_if_ne_1 rfl ?_
      refine ks_aload_n rfl rfl ?_
      refine ks_getr (b := 30) rfl rfl rfl rfl (by decide) ?_
      refine ks_getr (b := 31) rfl rfl rfl rfl (by decide) ?_
      refine ks_iload_n rfl rfl ?_
      refine ks_iaload rfl rfl (by omega) (by omega) (by (try simp only [kx_up_at, kx_row_at, up1_at, Nat.reduceEqDiff, Int.reduceEq, Int.reduceNeg, and_true, true_and, and_false, false_and, and_self, reduceIte, Nat.add_left_cancel_iff, Nat.add_eq_left, Nat.left_eq_add, Nat.reduceAdd, Int.add_left_inj, Int.add_right_inj, k]); rfl) ?_
      refine ks_iload_n rfl rfl ?_
      refine ks_calls_2 rfl (Nat.le_of_ble_eq_true rfl) ?_
      -- at 33: call Kinds_isOne st []
      refine r_isOne B w7.1.1 w7.1.2 c2.1 c2.2 (fun c3 => ?_) (fun c3 => ?_)
      · show kx_wx _ _ _ _ _ (_ :: _) _ _
        refine ks_if_ne_1 rfl ?_
        refine ks_aload_n rfl rfl ?_
        refine ks_iload_n rfl rfl ?_
        refine ks_callv_2 rfl rfl rfl (Nat.le_of_ble_eq_true rfl) ?_
        -- at 47: call X_noFinding st []
        refine r_noFinding ?_
        show kx_wx _ _ _ _ _ (_ :: _) _ _
        refine ks_ireturn rfl ?_
        -- at 50: ret  st [None]
        exact t2 c.1 (by omega) c2.1 c2.2 c3
      · show kx_wx _ _ _ _ _ (_ :: _) _ _
        refine ks_if_ne_0 rfl ?_
        refine ks_aload_n rfl rfl ?_
        refine ks_iconst rfl ?_
        refine ks_callv_2 rfl rfl rfl (Nat.le_of_ble_eq_true rfl) ?_
        -- at 41: call X_finding st []
        refine r_finding ?_
        show kx_wx _ _ _ _ _ (_ :: _) _ _
        refine ks_ireturn rfl ?_
        -- at 44: ret  st [None]
        exact t3 c.1 (by omega) c2.1 c2.2 c3
    · show kx_wx _ _ _ _ _ (_ :: _) _ _
      refine ks_if_ne_0 rfl ?_
      refine ks_ldc rfl ?_
      refine ks_ireturn rfl ?_
      -- at 22: ret  st ['-1000001']
      exact t1 (fun q => c2 q.2)
  · show kx_wx _ _ _ _ _ (_ :: _) _ _
    refine ks_if_eq_0 rfl ?_
    refine ks_ldc rfl ?_
    refine ks_ireturn rfl ?_
    -- at 22: ret  st ['-1000001']
    exact t1 (fun q => c (by omega))
theorem r_Mas (hv : kx_in v) (hw : kx_in w) (hs : μ 81 = s) (N : TN s) (t1 : ¬ ((0 ≤ v ∧ v < s 1) ∧ (0 ≤ w ∧ w ≤ 5)) → Q (some (kI (-1000001))) (kg L) μ) (t3 : 0 ≤ v → v < s 1 → 0 ≤ w → w ≤ 5 → ¬ q_is (s (6 + v)) w → Q (some (kI (-1000013))) (kg L) (kx_up μ 77 3 3)) (t2 : 0 ≤ v → v < s 1 → 0 ≤ w → w ≤ 5 → q_is (s (6 + v)) w → Q (some (kI v)) (kg L) (kx_up μ 77 3 0)) : kx_cx (ke (d + 3)) 178 [kR 77, kI v, kI w] (kg L) μ Q := by
  refine ke_start (tb := kt_M_as) (ls := [some (kR 77), some (kI v), some (kI w)]) rfl rfl ?_
  obtain ⟨n1, n2, n3⟩ := TN_in N
  obtain ⟨_, _⟩ := hw
  refine ks_aload_n rfl rfl ?_
  refine ks_iload_n rfl rfl ?_
  refine ks_callv_2 rfl rfl rfl (Nat.le_of_ble_eq_true rfl) ?_
  -- at 2: call M_isHead st []
  refine r_isHead hv (by rw [hs]; exact ⟨by omega, by omega⟩) (fun c => ?_) (fun c => ?_)
  · rw [hs] at c
    show kx_wx _ _ _ _ _ (_ :: _) _ _
    refine ks_if_eq_1 rfl ?_
    refine ks_iload_n rfl rfl ?_
    refine ks_i2l rfl ⟨by omega, by omega⟩ ?_
    refine ks_lconst rfl ?_
    refine ks_ldc2_w rfl ?_
    refine ks_calls_3 rfl (Nat.le_of_ble_eq_true rfl) ?_
    -- at 14: call M_in st []
    refine r_in ⟨by omega, by omega⟩ ⟨by omega, by omega⟩ ⟨by omega, by omega⟩ (fun c2 => ?_) (fun c2 => ?_)
    · obtain ⟨W, Z⟩ := TN_W N (by omega)
      have w7 := W.2.2.2.2.2.2.1 v c.1 c.2
      show kx_wx _ _ _ _ _ (_ :: _) _ _
      refine ks_if_ne_1 rfl ?_
      refine ks_aload_n rfl rfl ?_
      refine ks_getr (b := 81) rfl rfl rfl rfl (by decide) ?_
      refine ks_bipush rfl ?_
      refine ks_iload_n rfl rfl ?_
      refine ks_iadd rfl ?_
      refine ks_iaload rfl rfl (by omega) (by omega) (by (try simp only [kx_up_at, kx_row_at, up1_at, Nat.reduceEqDiff, Int.reduceEq, Int.reduceNeg, and_true, true_and, and_false, false_and, and_self, reduceIte, Nat.add_left_cancel_iff, Nat.add_eq_left, Nat.left_eq_add, Nat.reduceAdd, Int.add_left_inj, Int.add_right_inj, hs]); rfl) ?_
      refine ks_iload_n rfl rfl ?_
      refine ks_calls_2 rfl (Nat.le_of_ble_eq_true rfl) ?_
      -- at 33: call M_isKind st []
      refine r_isKind w7.1.1 w7.1.2 c2.1 c2.2 (fun c3 => ?_) (fun c3 => ?_)
      · show kx_wx _ _ _ _ _ (_ :: _) _ _
        refine ks_if_eq_1 rfl ?_
        refine ks_aload_n rfl rfl ?_
        refine ks_iload_n rfl rfl ?_
        refine ks_callv_2 rfl rfl rfl (Nat.le_of_ble_eq_true rfl) ?_
        -- at 41: call M_well st []
        refine r_well ?_
        show kx_wx _ _ _ _ _ (_ :: _) _ _
        refine ks_goto rfl ?_
        refine ks_ireturn rfl ?_
        -- at 52: ret  st [None]
        exact t2 c.1 c.2 c2.1 c2.2 c3
      · show kx_wx _ _ _ _ _ (_ :: _) _ _
        refine ks_if_eq_0 rfl ?_
        refine ks_aload_n rfl rfl ?_
        refine ks_iconst rfl ?_
        refine ks_callv_2 rfl rfl rfl (Nat.le_of_ble_eq_true rfl) ?_
        -- at 49: call M_find st []
        refine r_find ?_
        show kx_wx _ _ _ _ _ (_ :: _) _ _
        refine ks_ireturn rfl ?_
        -- at 52: ret  st [None]
        exact t3 c.1 c.2 c2.1 c2.2 c3
    · show kx_wx _ _ _ _ _ (_ :: _) _ _
      refine ks_if_ne_0 rfl ?_
      refine ks_ldc rfl ?_
      refine ks_ireturn rfl ?_
      -- at 22: ret  st ['-1000001']
      exact t1 (fun q => c2 q.2)
  · rw [hs] at c
    show kx_wx _ _ _ _ _ (_ :: _) _ _
    refine ks_if_eq_0 rfl ?_
    refine ks_ldc rfl ?_
    refine ks_ireturn rfl ?_
    -- at 22: ret  st ['-1000001']
    exact t1 (fun q => c q.1)
end AT
end
section
/-! the class's face: foretold -/
theorem Fr_54 {μ μ' : kx_M} (F : Fr 45 μ μ') : F54 μ μ' := fun c hc => F c (by omega)
section XQ
variable {d L : Nat} {G : kx_G} {μ : kx_M} {Q : Option kx_V → kx_G → kx_M → Prop} {s : Int → Int} {h b e v w : Int}
theorem r_Xwho (hv : kx_in v) (T : TR μ 30 s) (N : TN s) (t0 : s 1 = 0 → Q (some (kI (-1000002))) (kg L) μ) (t1 : 1 ≤ s 1 → ¬ (0 ≤ v ∧ v ≤ 60) → Q (some (kI (-1000001))) (kg L) μ) (t2 : 1 ≤ s 1 → 0 ≤ v → v ≤ 60 → ∀ μ', F54 μ μ' → Q (some (kI (tw_go s v.toNat 4))) (kg L) μ') : kx_cx (ke (d + 6)) 85 [kR 1, kI v] (kg L) μ Q := by
  refine ke_start (tb := kt_X_who) (ls := [some (kR 1), some (kI v)]) rfl rfl ?_
  obtain ⟨n1, n2, n3⟩ := TN_in N
  have e8 := T.1
  refine ks_aload_n rfl rfl ?_
  refine ks_callv_1 rfl rfl rfl (Nat.le_of_ble_eq_true rfl) ?_
  -- at 1: call X_isNoTown st []
  refine r_isNoTown ⟨by omega, by omega⟩ (fun c => ?_) (fun c => ?_)
  · show kx_wx _ _ _ _ _ (_ :: _) _ _
    refine ks_if_eq_1 rfl ?_
    refine ks_ldc rfl ?_
    refine ks_ireturn rfl ?_
    -- at 9: ret  st ['-1000002']
    exact t0 (by omega)
  · show kx_wx _ _ _ _ _ (_ :: _) _ _
    refine ks_if_eq_0 rfl ?_
    refine ks_iload_n rfl rfl ?_
    refine ks_calls_1 rfl (Nat.le_of_ble_eq_true rfl) ?_
    -- at 11: call X_isSpan st []
    refine r_isSpan hv (fun c2 => ?_) (fun c2 => ?_)
    · obtain ⟨W, Z⟩ := TN_W N (by omega)
      have ev : v = (v.toNat : Int) := by omega
      generalize v.toNat = n at *
      subst ev
      show kx_wx _ _ _ _ _ (_ :: _) _ _
      refine ks_if_eq_1 rfl ?_
      refine ks_aload_n rfl rfl ?_
      refine ks_getr (b := 44) rfl rfl rfl rfl (by decide) ?_
      refine ks_iload_n rfl rfl ?_
      refine ks_callv_2 rfl rfl rfl (Nat.le_of_ble_eq_true rfl) ?_
      -- at 22: call Fore_holderBehind st []
      refine r_holderBehind (by omega) W T (fun μ1 F1 => ?_)
      show kx_wx _ _ _ _ _ (_ :: _) _ _
      refine ks_goto rfl ?_
      refine ks_ireturn rfl ?_
      -- at 30: ret  st [None]
      exact t2 (by omega) (by omega) (by omega) _ (Fr_54 F1)
    · show kx_wx _ _ _ _ _ (_ :: _) _ _
      refine ks_if_eq_0 rfl ?_
      refine ks_ldc rfl ?_
      refine ks_ireturn rfl ?_
      -- at 30: ret  st ['-1000001']
      exact t1 (by omega) c2
theorem r_Xever (hv : kx_in v) (T : TR μ 30 s) (N : TN s) (t0 : s 1 = 0 → Q (some (kI (-1000002))) (kg L) μ) (t1 : 1 ≤ s 1 → ¬ (0 ≤ v ∧ v ≤ 60) → Q (some (kI (-1000001))) (kg L) μ) (t2 : 1 ≤ s 1 → 0 ≤ v → v ≤ 60 → ∀ μ', F54 μ μ' → Q (some (kI (q_ever s v.toNat))) (kg L) μ') : kx_cx (ke (d + 6)) 87 [kR 1, kI v] (kg L) μ Q := by
  refine ke_start (tb := kt_X_ever) (ls := [some (kR 1), some (kI v)]) rfl rfl ?_
  obtain ⟨n1, n2, n3⟩ := TN_in N
  have e8 := T.1
  refine ks_aload_n rfl rfl ?_
  refine ks_callv_1 rfl rfl rfl (Nat.le_of_ble_eq_true rfl) ?_
  -- at 1: call X_isNoTown st []
  refine r_isNoTown ⟨by omega, by omega⟩ (fun c => ?_) (fun c => ?_)
  · show kx_wx _ _ _ _ _ (_ :: _) _ _
    refine ks_if_eq_1 rfl ?_
    refine ks_ldc rfl ?_
    refine ks_ireturn rfl ?_
    -- at 9: ret  st ['-1000002']
    exact t0 (by omega)
  · show kx_wx _ _ _ _ _ (_ :: _) _ _
    refine ks_if_eq_0 rfl ?_
    refine ks_iload_n rfl rfl ?_
    refine ks_calls_1 rfl (Nat.le_of_ble_eq_true rfl) ?_
    -- at 11: call X_isSpan st []
    refine r_isSpan hv (fun c2 => ?_) (fun c2 => ?_)
    · obtain ⟨W, Z⟩ := TN_W N (by omega)
      have ev : v = (v.toNat : Int) := by omega
      generalize v.toNat = n at *
      subst ev
      show kx_wx _ _ _ _ _ (_ :: _) _ _
      refine ks_if_eq_1 rfl ?_
      refine ks_aload_n rfl rfl ?_
      refine ks_getr (b := 44) rfl rfl rfl rfl (by decide) ?_
      refine ks_iload_n rfl rfl ?_
      refine ks_callv_2 rfl rfl rfl (Nat.le_of_ble_eq_true rfl) ?_
      -- at 22: call Fore_holdersWithin st []
      refine r_holdersWithin (by omega) W T (fun μ1 F1 => ?_)
      show kx_wx _ _ _ _ _ (_ :: _) _ _
      refine ks_goto rfl ?_
      refine ks_ireturn rfl ?_
      -- at 30: ret  st [None]
      exact t2 (by omega) (by omega) (by omega) _ (Fr_54 F1)
    · show kx_wx _ _ _ _ _ (_ :: _) _ _
      refine ks_if_eq_0 rfl ?_
      refine ks_ldc rfl ?_
      refine ks_ireturn rfl ?_
      -- at 30: ret  st ['-1000001']
      exact t1 (by omega) c2
theorem r_Xround (hv : kx_in v) (T : TR μ 30 s) (N : TN s) (t0 : s 1 = 0 → Q (some (kI (-1000002))) (kg L) μ) (t1 : 1 ≤ s 1 → ¬ (0 ≤ v ∧ v ≤ 1) → Q (some (kI (-1000001))) (kg L) μ) (t2 : 1 ≤ s 1 → 0 ≤ v → v ≤ 1 → ∀ μ', F54 μ μ' → Q (some (kI (q_ro (q_mk s) v 60 1))) (kg L) μ') : kx_cx (ke (d + 6)) 88 [kR 1, kI v] (kg L) μ Q := by
  refine ke_start (tb := kt_X_round) (ls := [some (kR 1), some (kI v)]) rfl rfl ?_
  obtain ⟨n1, n2, n3⟩ := TN_in N
  have e8 := T.1
  refine ks_aload_n rfl rfl ?_
  refine ks_callv_1 rfl rfl rfl (Nat.le_of_ble_eq_true rfl) ?_
  -- at 1: call X_isNoTown st []
  refine r_isNoTown ⟨by omega, by omega⟩ (fun c => ?_) (fun c => ?_)
  · show kx_wx _ _ _ _ _ (_ :: _) _ _
    refine ks_if_eq_1 rfl ?_
    refine ks_ldc rfl ?_
    refine ks_ireturn rfl ?_
    -- at 9: ret  st ['-1000002']
    exact t0 (by omega)
  · show kx_wx _ _ _ _ _ (_ :: _) _ _
    refine ks_if_eq_0 rfl ?_
    refine ks_iload_n rfl rfl ?_
    refine ks_iconst rfl ?_
    refine ks_iconst rfl ?_
    refine ks_calls_3 rfl (Nat.le_of_ble_eq_true rfl) ?_
    -- at 13: call X_isBetween st []
    refine r_isBetween hv ⟨by omega, by omega⟩ ⟨by omega, by omega⟩ (fun c2 => ?_) (fun c2 => ?_)
    · obtain ⟨W, Z⟩ := TN_W N (by omega)
      show kx_wx _ _ _ _ _ (_ :: _) _ _
      refine ks_if_eq_1 rfl ?_
      refine ks_aload_n rfl rfl ?_
      refine ks_getr (b := 44) rfl rfl rfl rfl (by decide) ?_
      refine ks_iload_n rfl rfl ?_
      refine ks_callv_2 rfl rfl rfl (Nat.le_of_ble_eq_true rfl) ?_
      -- at 24: call Fore_repetition st []
      refine r_repetition hv W T (fun μ1 F1 => ?_)
      show kx_wx _ _ _ _ _ (_ :: _) _ _
      refine ks_goto rfl ?_
      refine ks_ireturn rfl ?_
      -- at 32: ret  st [None]
      exact t2 (by omega) c2.1 c2.2 _ F1
    · show kx_wx _ _ _ _ _ (_ :: _) _ _
      refine ks_if_eq_0 rfl ?_
      refine ks_ldc rfl ?_
      refine ks_ireturn rfl ?_
      -- at 32: ret  st ['-1000001']
      exact t1 (by omega) c2
theorem r_Xgets (hv : kx_in v) (T : TR μ 30 s) (N : TN s) (t1 : ¬ (0 ≤ v ∧ v < s 1) → Q (some (kI (-1000001))) (kg L) μ) (t2 : 0 ≤ v → v < s 1 → ∀ μ', F54 μ μ' → Q (some (kI (q_gets s v 61 0))) (kg L) μ') : kx_cx (ke (d + 6)) 86 [kR 1, kI v] (kg L) μ Q := by
  refine ke_start (tb := kt_X_gets) (ls := [some (kR 1), some (kI v)]) rfl rfl ?_
  obtain ⟨n1, n2, n3⟩ := TN_in N
  have e8 := T.1
  refine ks_aload_n rfl rfl ?_
  refine ks_getr (b := 30) rfl rfl rfl rfl (by decide) ?_
  refine ks_iload_n rfl rfl ?_
  refine ks_callv_2 rfl rfl rfl (Nat.le_of_ble_eq_true rfl) ?_
  -- at 5: call Town_hasHead st []
  refine r_hasHead (kg_T30 L) hv ⟨by omega, by omega⟩ (fun c => ?_) (fun c => ?_)
  · obtain ⟨W, Z⟩ := TN_W N (by omega)
    show kx_wx _ _ _ _ _ (_ :: _) _ _
    refine ks_if_eq_1 rfl ?_
    refine ks_aload_n rfl rfl ?_
    refine ks_getr (b := 44) rfl rfl rfl rfl (by decide) ?_
    refine ks_iload_n rfl rfl ?_
    refine ks_callv_2 rfl rfl rfl (Nat.le_of_ble_eq_true rfl) ?_
    -- at 16: call Fore_stepsUntilHolder st []
    refine r_stepsUntilHolder c.1 (by omega) W T (fun μ1 F1 => ?_)
    show kx_wx _ _ _ _ _ (_ :: _) _ _
    refine ks_goto rfl ?_
    refine ks_ireturn rfl ?_
    -- at 24: ret  st [None]
    exact t2 c.1 (by omega) _ (Fr_54 F1)
  · show kx_wx _ _ _ _ _ (_ :: _) _ _
    refine ks_if_eq_0 rfl ?_
    refine ks_ldc rfl ?_
    refine ks_ireturn rfl ?_
    -- at 24: ret  st ['-1000001']
    exact t1 (by omega)
theorem r_Xdone (hv : kx_in v) (T : TR μ 30 s) (N : TN s) (t1 : ¬ (0 ≤ v ∧ v < s 2) → Q (some (kI (-1000001))) (kg L) μ) (t2 : 0 ≤ v → v < s 2 → ∀ x μ', q_done s v x → F54 μ μ' → Q (some (kI x)) (kg L) μ') : kx_cx (ke (d + 6)) 89 [kR 1, kI v] (kg L) μ Q := by
  refine ke_start (tb := kt_X_done) (ls := [some (kR 1), some (kI v)]) rfl rfl ?_
  obtain ⟨n1, n2, n3⟩ := TN_in N
  have e9 := T.2.1
  refine ks_aload_n rfl rfl ?_
  refine ks_getr (b := 30) rfl rfl rfl rfl (by decide) ?_
  refine ks_iload_n rfl rfl ?_
  refine ks_callv_2 rfl rfl rfl (Nat.le_of_ble_eq_true rfl) ?_
  -- at 5: call Town_hasOrder st []
  refine r_hasOrder (kg_T30 L) hv ⟨by omega, by omega⟩ (fun c => ?_) (fun c => ?_)
  · obtain ⟨W, Z⟩ := TN_W N (by omega)
    show kx_wx _ _ _ _ _ (_ :: _) _ _
    refine ks_if_eq_1 rfl ?_
    refine ks_aload_n rfl rfl ?_
    refine ks_getr (b := 44) rfl rfl rfl rfl (by decide) ?_
    refine ks_iload_n rfl rfl ?_
    refine ks_callv_2 rfl rfl rfl (Nat.le_of_ble_eq_true rfl) ?_
    -- at 16: call Fore_stepOfDone st []
    refine r_stepOfDone c.1 (by omega) W T (fun x μ1 q F1 => ?_)
    show kx_wx _ _ _ _ _ (_ :: _) _ _
    refine ks_goto rfl ?_
    refine ks_ireturn rfl ?_
    -- at 24: ret  st [None]
    exact t2 c.1 (by omega) _ _ q (Fr_54 F1)
  · show kx_wx _ _ _ _ _ (_ :: _) _ _
    refine ks_if_eq_0 rfl ?_
    refine ks_ldc rfl ?_
    refine ks_ireturn rfl ?_
    -- at 24: ret  st ['-1000001']
    exact t1 (by omega)
theorem r_Xfirst (T : TR μ 30 s) (N : TN s) (t0 : s 1 = 0 → Q (some (kI (-1000002))) (kg L) μ) (t2 : 1 ≤ s 1 → ∀ x l μ', q_min (q_P s) (s 2) x l → F54 μ μ' → Q (some (kI x)) (kg L) μ') : kx_cx (ke (d + 6)) 90 [kR 1] (kg L) μ Q := by
  refine ke_start (tb := kt_X_first) (ls := [some (kR 1)]) rfl rfl ?_
  obtain ⟨n1, n2, n3⟩ := TN_in N
  have e8 := T.1
  refine ks_aload_n rfl rfl ?_
  refine ks_callv_1 rfl rfl rfl (Nat.le_of_ble_eq_true rfl) ?_
  -- at 1: call X_isNoTown st []
  refine r_isNoTown ⟨by omega, by omega⟩ (fun c => ?_) (fun c => ?_)
  · show kx_wx _ _ _ _ _ (_ :: _) _ _
    refine ks_if_eq_1 rfl ?_
    refine ks_ldc rfl ?_
    refine ks_goto rfl ?_
    refine ks_ireturn rfl ?_
    -- at 19: ret  st ['-1000002']
    exact t0 (by omega)
  · obtain ⟨W, Z⟩ := TN_W N (by omega)
    show kx_wx _ _ _ _ _ (_ :: _) _ _
    refine ks_if_eq_0 rfl ?_
    refine ks_aload_n rfl rfl ?_
    refine ks_getr (b := 44) rfl rfl rfl rfl (by decide) ?_
    refine ks_callv_1 rfl rfl rfl (Nat.le_of_ble_eq_true rfl) ?_
    -- at 16: call Fore_orderDoneFirst st []
    refine r_orderDoneFirst W T (fun x l μ1 q F1 => ?_)
    show kx_wx _ _ _ _ _ (_ :: _) _ _
    refine ks_ireturn rfl ?_
    -- at 19: ret  st [None]
    exact t2 (by omega) _ l _ q (Fr_54 F1)
theorem r_Xby (hh : kx_in h) (hv : kx_in v) (T : TR μ 30 s) (N : TN s) (t1 : ¬ ((0 ≤ h ∧ h < s 1) ∧ (0 ≤ v ∧ v ≤ 60)) → Q (some (kI (-1000001))) (kg L) μ) (t2 : 0 ≤ h → h < s 1 → 0 ≤ v → v ≤ 60 → ∀ μ', F54 μ μ' → Q (some (kI (tw_go s v.toNat (24 + h) - s (24 + h)))) (kg L) μ') : kx_cx (ke (d + 6)) 91 [kR 1, kI h, kI v] (kg L) μ Q := by
  refine ke_start (tb := kt_X_by) (ls := [some (kR 1), some (kI h), some (kI v)]) rfl rfl ?_
  obtain ⟨n1, n2, n3⟩ := TN_in N
  have e8 := T.1
  refine ks_aload_n rfl rfl ?_
  refine ks_getr (b := 30) rfl rfl rfl rfl (by decide) ?_
  refine ks_iload_n rfl rfl ?_
  refine ks_callv_2 rfl rfl rfl (Nat.le_of_ble_eq_true rfl) ?_
  -- at 5: call Town_hasHead st []
  refine r_hasHead (kg_T30 L) hh ⟨by omega, by omega⟩ (fun c => ?_) (fun c => ?_)
  · show kx_wx _ _ _ _ _ (_ :: _) _ _
    refine ks_if_eq_1 rfl ?_
    refine ks_iload_n rfl rfl ?_
    refine ks_calls_1 rfl (Nat.le_of_ble_eq_true rfl) ?_
    -- at 12: call X_isSpan st []
    refine r_isSpan hv (fun c2 => ?_) (fun c2 => ?_)
    · obtain ⟨W, Z⟩ := TN_W N (by omega)
      have ev : v = (v.toNat : Int) := by omega
      generalize v.toNat = n at *
      subst ev
      show kx_wx _ _ _ _ _ (_ :: _) _ _
      refine ks_if_ne_1 rfl ?_
      refine ks_aload_n rfl rfl ?_
      refine ks_getr (b := 44) rfl rfl rfl rfl (by decide) ?_
      refine ks_iload_n rfl rfl ?_
      refine ks_iload_n rfl rfl ?_
      refine ks_callv_3 rfl rfl rfl (Nat.le_of_ble_eq_true rfl) ?_
      -- at 27: call Fore_workWithin st []
      refine r_workWithin (by omega) c.1 (by omega) W T (fun μ1 F1 => ?_)
      show kx_wx _ _ _ _ _ (_ :: _) _ _
      refine ks_ireturn rfl ?_
      -- at 30: ret  st [None]
      exact t2 c.1 (by omega) (by omega) (by omega) _ (Fr_54 F1)
    · show kx_wx _ _ _ _ _ (_ :: _) _ _
      refine ks_if_ne_0 rfl ?_
      refine ks_ldc rfl ?_
      refine ks_ireturn rfl ?_
      -- at 20: ret  st ['-1000001']
      exact t1 (fun q => c2 q.2)
  · show kx_wx _ _ _ _ _ (_ :: _) _ _
    refine ks_if_eq_0 rfl ?_
    refine ks_ldc rfl ?_
    refine ks_ireturn rfl ?_
    -- at 20: ret  st ['-1000001']
    exact t1 (fun q => c (by omega))
theorem r_XtoGive (hv : kx_in v) (hw : kx_in w) (T : TR μ 30 s) (N : TN s) (t1 : ¬ ((0 ≤ v ∧ v < s 2) ∧ (0 ≤ w ∧ w ≤ 1)) → Q (some (kI (-1000001))) (kg L) μ) (t3 : 0 ≤ v → v < s 2 → 0 ≤ w → w ≤ 1 → ¬ s (38 + v) = 0 → Q (some (kI (-1000002))) (kg L) μ) (t2 : 0 ≤ v → v < s 2 → 0 ≤ w → w ≤ 1 → s (38 + v) = 0 → ∀ x μ', q_tg s v w x → F54 μ μ' → Q (some (kI x)) (kg L) μ') : kx_cx (ke (d + 6)) 92 [kR 1, kI v, kI w] (kg L) μ Q := by
  refine ke_start (tb := kt_X_toGive) (ls := [some (kR 1), some (kI v), some (kI w)]) rfl rfl ?_
  obtain ⟨n1, n2, n3⟩ := TN_in N
  have e9 := T.2.1
  refine ks_aload_n rfl rfl ?_
  refine ks_getr (b := 30) rfl rfl rfl rfl (by decide) ?_
  refine ks_iload_n rfl rfl ?_
  refine ks_callv_2 rfl rfl rfl (Nat.le_of_ble_eq_true rfl) ?_
  -- at 5: call Town_hasOrder st []
  refine r_hasOrder (kg_T30 L) hv ⟨by omega, by omega⟩ (fun c => ?_) (fun c => ?_)
  · show kx_wx _ _ _ _ _ (_ :: _) _ _
    refine ks_if_eq_1 rfl ?_
    refine ks_iload_n rfl rfl ?_
    refine ks_iconst rfl ?_
    refine ks_iconst rfl ?_
    refine ks_calls_3 rfl (Nat.le_of_ble_eq_true rfl) ?_
    -- at 14: call X_isBetween st []
    refine r_isBetween hw ⟨by omega, by omega⟩ ⟨by omega, by omega⟩ (fun c2 => ?_) (fun c2 => ?_)
    · obtain ⟨W, Z⟩ := TN_W N (by omega)
      have w8 := W.2.2.2.2.2.2.2 v c.1 (by omega)
      have k := (T.2.2.2.2.2.2.2 v c.1 (by omega)).2.2.1
      show kx_wx _ _ _ _ _ (_ :: _) _ _
      refine ks_if_ne_1 rfl ?_
      refine ks_aload_n rfl rfl ?_
      refine ks_getr (b := 30) rfl rfl rfl rfl (by decide) ?_
      refine ks_getr (b := 37) rfl rfl rfl rfl (by decide) ?_
      refine ks_iload_n rfl rfl ?_
      refine ks_iaload rfl rfl (by omega) (by omega) (by (try simp only [kx_up_at, kx_row_at, up1_at, Nat.reduceEqDiff, Int.reduceEq, Int.reduceNeg, and_true, true_and, and_false, false_and, and_self, reduceIte, Nat.add_left_cancel_iff, Nat.add_eq_left, Nat.left_eq_add, Nat.reduceAdd, Int.add_left_inj, Int.add_right_inj, k]); rfl) ?_
      -- at 32: if eq -> 38 else 35 st [None]
      refine ks_if_eq rfl ⟨by omega, by omega⟩ (fun c3 => ?_) (fun c3 => ?_)
      · refine ks_aload_n rfl rfl ?_
        refine ks_getr (b := 44) rfl rfl rfl rfl (by decide) ?_
        refine ks_iload_n rfl rfl ?_
        refine ks_iload_n rfl rfl ?_
        refine ks_callv_3 rfl rfl rfl (Nat.le_of_ble_eq_true rfl) ?_
        -- at 44: call Fore_bestGift st []
        refine r_bestGift c.1 (by omega) hw c3 W T (fun x μ1 q F1 => ?_)
        show kx_wx _ _ _ _ _ (_ :: _) _ _
        refine ks_ireturn rfl ?_
        -- at 47: ret  st [None]
        exact t2 c.1 (by omega) c2.1 c2.2 c3 _ _ q (Fr_54 F1)
      · refine ks_ldc rfl ?_
        refine ks_ireturn rfl ?_
        -- at 37: ret  st ['-1000002']
        exact t3 c.1 (by omega) c2.1 c2.2 c3
    · show kx_wx _ _ _ _ _ (_ :: _) _ _
      refine ks_if_ne_0 rfl ?_
      refine ks_ldc rfl ?_
      refine ks_ireturn rfl ?_
      -- at 22: ret  st ['-1000001']
      exact t1 (fun q => c2 q.2)
  · show kx_wx _ _ _ _ _ (_ :: _) _ _
    refine ks_if_eq_0 rfl ?_
    refine ks_ldc rfl ?_
    refine ks_ireturn rfl ?_
    -- at 22: ret  st ['-1000001']
    exact t1 (fun q => c (by omega))
theorem r_Xwinds (hh : kx_in h) (hv : kx_in v) (T : TR μ 30 s) (N : TN s) (t1 : ¬ ((0 ≤ h ∧ h < s 1) ∧ (0 ≤ v ∧ v ≤ 60)) → Q (some (kI (-1000001))) (kg L) μ) (t2 : 0 ≤ h → h < s 1 → 0 ≤ v → v ≤ 60 → ∀ μ', F54 μ μ' → Q (some (kI (q_wi s h v.toNat 6 0 0))) (kg L) μ') : kx_cx (ke (d + 6)) 93 [kR 1, kI h, kI v] (kg L) μ Q := by
  refine ke_start (tb := kt_X_winds) (ls := [some (kR 1), some (kI h), some (kI v)]) rfl rfl ?_
  obtain ⟨n1, n2, n3⟩ := TN_in N
  have e8 := T.1
  refine ks_aload_n rfl rfl ?_
  refine ks_getr (b := 30) rfl rfl rfl rfl (by decide) ?_
  refine ks_iload_n rfl rfl ?_
  refine ks_callv_2 rfl rfl rfl (Nat.le_of_ble_eq_true rfl) ?_
  -- at 5: call Town_hasHead st []
  refine r_hasHead (kg_T30 L) hh ⟨by omega, by omega⟩ (fun c => ?_) (fun c => ?_)
  · show kx_wx _ _ _ _ _ (_ :: _) _ _
    refine ks_if_eq_1 rfl ?_
    refine ks_iload_n rfl rfl ?_
    refine ks_calls_1 rfl (Nat.le_of_ble_eq_true rfl) ?_
    -- at 12: call X_isSpan st []
    refine r_isSpan hv (fun c2 => ?_) (fun c2 => ?_)
    · obtain ⟨W, Z⟩ := TN_W N (by omega)
      have ev : v = (v.toNat : Int) := by omega
      generalize v.toNat = n at *
      subst ev
      show kx_wx _ _ _ _ _ (_ :: _) _ _
      refine ks_if_ne_1 rfl ?_
      refine ks_aload_n rfl rfl ?_
      refine ks_getr (b := 44) rfl rfl rfl rfl (by decide) ?_
      refine ks_iload_n rfl rfl ?_
      refine ks_iload_n rfl rfl ?_
      refine ks_callv_3 rfl rfl rfl (Nat.le_of_ble_eq_true rfl) ?_
      -- at 27: call Fore_windsThatBring st []
      refine r_windsThatBring (by omega) hh W T (fun μ1 F1 => ?_)
      show kx_wx _ _ _ _ _ (_ :: _) _ _
      refine ks_ireturn rfl ?_
      -- at 30: ret  st [None]
      exact t2 c.1 (by omega) (by omega) (by omega) _ (Fr_54 F1)
    · show kx_wx _ _ _ _ _ (_ :: _) _ _
      refine ks_if_ne_0 rfl ?_
      refine ks_ldc rfl ?_
      refine ks_ireturn rfl ?_
      -- at 20: ret  st ['-1000001']
      exact t1 (fun q => c2 q.2)
  · show kx_wx _ _ _ _ _ (_ :: _) _ _
    refine ks_if_eq_0 rfl ?_
    refine ks_ldc rfl ?_
    refine ks_ireturn rfl ?_
    -- at 20: ret  st ['-1000001']
    exact t1 (fun q => c (by omega))
theorem r_Xlot (hh : kx_in h) (hv : kx_in v) (hw : kx_in w) (T : TR μ 30 s) (N : TN s) (t1 : ¬ ((0 ≤ h ∧ h < s 1) ∧ (0 ≤ v ∧ v ≤ 60) ∧ (0 ≤ w ∧ w ≤ 1)) → Q (some (kI (-1000001))) (kg L) μ) (t2 : 0 ≤ h → h < s 1 → 0 ≤ v → v ≤ 60 → 0 ≤ w → w ≤ 1 → ∀ μ', F54 μ μ' → Q (some (kI (if w = 0 then (q_pc (q_wi s h v.toNat 6 0 0)).tdiv (q_g (q_pc (q_wi s h v.toNat 6 0 0))) else (6 : Int).tdiv (q_g (q_pc (q_wi s h v.toNat 6 0 0)))))) (kg L) μ') : kx_cx (ke (d + 6)) 94 [kR 1, kI h, kI v, kI w] (kg L) μ Q := by
  refine ke_start (tb := kt_X_lot) (ls := [some (kR 1), some (kI h), some (kI v), some (kI w), none, none]) rfl rfl ?_
  obtain ⟨n1, n2, n3⟩ := TN_in N
  have e8 := T.1
  refine ks_aload_n rfl rfl ?_
  refine ks_getr (b := 30) rfl rfl rfl rfl (by decide) ?_
  refine ks_iload_n rfl rfl ?_
  refine ks_callv_2 rfl rfl rfl (Nat.le_of_ble_eq_true rfl) ?_
  -- at 5: call Town_hasHead st []
  refine r_hasHead (kg_T30 L) hh ⟨by omega, by omega⟩ (fun c => ?_) (fun c => ?_)
  · show kx_wx _ _ _ _ _ (_ :: _) _ _
    refine ks_if_eq_1 rfl ?_
    refine ks_iload_n rfl rfl ?_
    refine ks_calls_1 rfl (Nat.le_of_ble_eq_true rfl) ?_
    -- at 12: call X_isSpan st []
    refine r_isSpan hv (fun c2 => ?_) (fun c2 => ?_)
    · show kx_wx _ _ _ _ _ (_ :: _) _ _
      refine ks_if_eq_1 rfl ?_
      refine ks_iload_n rfl rfl ?_
      refine ks_iconst rfl ?_
      refine ks_iconst rfl ?_
      refine ks_calls_3 rfl (Nat.le_of_ble_eq_true rfl) ?_
      -- at 21: call X_isBetween st []
      refine r_isBetween hw ⟨by omega, by omega⟩ ⟨by omega, by omega⟩ (fun c3 => ?_) (fun c3 => ?_)
      · obtain ⟨W, Z⟩ := TN_W N (by omega)
        have ev : v = (v.toNat : Int) := by omega
        generalize v.toNat = n at *
        subst ev
        show kx_wx _ _ _ _ _ (_ :: _) _ _
        refine ks_if_ne_1 rfl ?_
        refine ks_aload_n rfl rfl ?_
        refine ks_getr (b := 44) rfl rfl rfl rfl (by decide) ?_
        refine ks_iload_n rfl rfl ?_
        refine ks_iload_n rfl rfl ?_
        refine ks_callv_3 rfl rfl rfl (Nat.le_of_ble_eq_true rfl) ?_
        -- at 36: call Fore_windsThatBring st []
        refine r_windsThatBring (by omega) hh W T (fun μ1 F1 => ?_)
        show kx_wx _ _ _ _ _ (_ :: _) _ _
        refine ks_calls_1 rfl (Nat.le_of_ble_eq_true rfl) ?_
        -- at 39: call Integer_bitCount st []
        have t3 := t2 c.1 (by omega) (by omega) (by omega) c3.1 c3.2 μ1 (Fr_54 F1)
        have hx := q_wi_in (s := s) (h := h) (n := n) 6 0 0 (by omega) (by omega) (by omega) (by omega)
        generalize q_wi s h n 6 0 0 = x at *
        have hp := q_pc_in hx.1 hx.2
        refine r_bitCount hx.1 hx.2 ?_
        show kx_wx _ _ _ _ _ (_ :: _) _ _
        refine ks_istore_4 rfl rfl ?_
        refine ks_bipush rfl ?_
        refine ks_istore_5 rfl rfl ?_
        refine ks_iload_n rfl rfl ?_
        -- at 49: if ne -> 64 else 52 st [None]
        generalize q_pc x = y at *
        refine ks_if_ne rfl ⟨by omega, by omega⟩ (fun c4 => ?_) (fun c4 => ?_)
        · refine ks_iload rfl rfl ?_
          refine ks_iload rfl rfl ?_
          refine ks_iload rfl rfl ?_
          refine ks_calls_3 rfl (Nat.le_of_ble_eq_true rfl) ?_
          -- at 58: call X_inLowestTerms st []
          rw [if_pos c4] at t3
          refine r_low ⟨by omega, by omega⟩ hp.1 hp.2 ?_
          show kx_wx _ _ _ _ _ (_ :: _) _ _
          refine ks_goto rfl ?_
          refine ks_ireturn rfl ?_
          -- at 73: ret  st [None]
          exact t3
        · refine ks_iload rfl rfl ?_
          refine ks_iload rfl rfl ?_
          refine ks_iload rfl rfl ?_
          refine ks_calls_3 rfl (Nat.le_of_ble_eq_true rfl) ?_
          -- at 70: call X_inLowestTerms st []
          rw [if_neg c4] at t3
          refine r_low ⟨by omega, by omega⟩ hp.1 hp.2 ?_
          show kx_wx _ _ _ _ _ (_ :: _) _ _
          refine ks_ireturn rfl ?_
          -- at 73: ret  st [None]
          exact t3
      · show kx_wx _ _ _ _ _ (_ :: _) _ _
        refine ks_if_ne_0 rfl ?_
        refine ks_ldc rfl ?_
        refine ks_ireturn rfl ?_
        -- at 29: ret  st ['-1000001']
        exact t1 (fun q => c3 q.2.2)
    · show kx_wx _ _ _ _ _ (_ :: _) _ _
      refine ks_if_eq_0 rfl ?_
      refine ks_ldc rfl ?_
      refine ks_ireturn rfl ?_
      -- at 29: ret  st ['-1000001']
      exact t1 (fun q => c2 q.2.1)
  · show kx_wx _ _ _ _ _ (_ :: _) _ _
    refine ks_if_eq_0 rfl ?_
    refine ks_ldc rfl ?_
    refine ks_ireturn rfl ?_
    -- at 29: ret  st ['-1000001']
    exact t1 (fun q => c (by omega))
end XQ
end
