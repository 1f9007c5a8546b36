/-! A small machine of our own over numbers: its values are whole numbers (an int stands for its class modulo 2^32) and cell numbers; its steps are those of the bytecode. Proved once against the kit's rows (parts sx), then the methods are proved over this machine alone. -/
abbrev kx_V : Type := Int ⊕ (Int ⊕ Nat)
abbrev kI (x : Int) : kx_V := Sum.inl x
abbrev kL (x : Int) : kx_V := Sum.inr (Sum.inl x)
abbrev kR (a : Nat) : kx_V := Sum.inr (Sum.inr a)
/-- the shape of each cell (kind, class or length), the next cell's number, the references that cells hold -/
abbrev kx_G : Type := (Nat → Nat × Nat) × Nat × (Nat → Int → Nat)
/-- the numbers that cells hold -/
abbrev kx_M : Type := Nat → Int → Int
abbrev kx_L : Type := List (Option kx_V)
/-- an instruction with what is found for it: the place behind it, two numbers, a constant, targets -/
abbrev kx_E : Type := Instr × Nat × Nat × Nat × Int × List Nat
abbrev kx_in (a : Int) : Prop := -2147483648 ≤ a ∧ a ≤ 2147483647
abbrev kx_inL (a : Int) : Prop := -9223372036854775808 ≤ a ∧ a ≤ 9223372036854775807
def kx_cat (v : kx_V) : Nat := match v with
  | .inr (.inl _) => 2
  | _ => 1
def kx_cats : List kx_V → Nat
  | [] => 0
  | v :: l => kx_cat v + kx_cats l
def kx_up (μ : kx_M) (a : Nat) (i v : Int) : kx_M := fun b j => if b = a ∧ j = i then v else μ b j
theorem kx_up_at (μ : kx_M) (a : Nat) (i v : Int) (b : Nat) (j : Int) : kx_up μ a i v b j = if b = a ∧ j = i then v else μ b j := rfl
def kx_zero (μ : kx_M) (a : Nat) : kx_M := fun b j => if b = a then 0 else μ b j
def kx_upr (rf : Nat → Int → Nat) (a : Nat) (i : Int) (v : Nat) : Nat → Int → Nat := fun b j => if b = a ∧ j = i then v else rf b j
def kx_zeror (rf : Nat → Int → Nat) (a : Nat) : Nat → Int → Nat := fun b j => if b = a then 0 else rf b j
def kx_shp (sh : Nat → Nat × Nat) (a : Nat) (q : Nat × Nat) : Nat → Nat × Nat := fun b => if b = a then q else sh b
def kx_cpy (μ : kx_M) (src : Nat) (sp : Int) (dst : Nat) (dp n : Int) : kx_M := fun b j => if b = dst ∧ dp ≤ j ∧ j < dp + n then μ src (sp + (j - dp)) else μ b j
def kx_new (G : kx_G) (q : Nat × Nat) : kx_G := (kx_shp G.1 G.2.1 q, G.2.1 + 1, kx_zeror G.2.2 G.2.1)
def kx_and (a b : Int) : Int := (Int32.ofInt a &&& Int32.ofInt b).toInt
def kx_or (a b : Int) : Int := (Int32.ofInt a ||| Int32.ofInt b).toInt
def kx_xor (a b : Int) : Int := (Int32.ofInt a ^^^ Int32.ofInt b).toInt
def kx_lor (a b : Int) : Int := (Int64.ofInt a ||| Int64.ofInt b).toInt
def kx_br {α : Type} (c : Jvm.ClassFile.Cond) (a b : Int) (t f : α) : α := match c with
  | .eq => if a = b then t else f
  | .ne => if a = b then f else t
  | .lt => if a < b then t else f
  | .ge => if a < b then f else t
  | .gt => if b < a then t else f
  | .le => if b < a then f else t
def kx_sw {α : Type} (x lo : Int) (f : Nat → α) (d : Nat) : List Nat → α
  | [] => f d
  | t :: ts => if x = lo then f t else kx_sw x (lo + 1) f d ts
def kx_ent : List kx_V → kx_L
  | [] => []
  | v :: l => if kx_cat v = 2 then some v :: none :: kx_ent l else some v :: kx_ent l
/-- the locals at a method's start -/
def kx_pad (l : kx_L) (n : Nat) : kx_L := l ++ List.replicate (n - l.length) none
def kx_get : kx_L → Nat → Option kx_V
  | [], _ => none
  | x :: _, 0 => x
  | _ :: l, n + 1 => kx_get l n
def kx_put : kx_L → Nat → Option kx_V → kx_L
  | [], _, _ => []
  | _ :: l, 0, v => v :: l
  | x :: l, n + 1, v => x :: kx_put l n v
/-- a long ahead of the place is gone -/
def kx_clr (ls : kx_L) (i : Nat) : kx_L := match i with
  | 0 => ls
  | j + 1 => match kx_get ls j with
    | some (.inr (.inl _)) => kx_put ls j none
    | _ => ls
def kx_set1 (ls : kx_L) (i : Nat) (v : kx_V) : kx_L := kx_put (kx_clr ls i) i (some v)
def kx_set2 (ls : kx_L) (i : Nat) (v : kx_V) : kx_L := kx_put (kx_put (kx_clr ls i) i (some v)) (i + 1) none
section KX
variable {α : Type}
def kx_load (w : Nat) (dead : α) (k : kx_V → α) (ls : kx_L) (i : Nat) : α := match kx_get ls i with
  | some (.inl x) => if w = 0 then k (kI x) else dead
  | some (.inr (.inl x)) => if w = 1 then k (kL x) else dead
  | some (.inr (.inr a)) => if w = 2 then k (kR a) else dead
  | none => dead
/-- one instruction: where it goes, by 'k'; what it returns, by 'ret'; what it calls, by 'call'; else 'dead' -/
def kx_do (i : Instr) (nx r1 r2 : Nat) (r3 : Int) (tg : List Nat) (dead : α) (k : Nat → kx_L → List kx_V → kx_G → kx_M → α) (ret : Option kx_V → kx_G → kx_M → α) (call : Nat → List kx_V → kx_G → kx_M → Nat → kx_L → List kx_V → α) (ls : kx_L) (st : List kx_V) (G : kx_G) (μ : kx_M) : α :=
  match i with
  | .iload_n _ => kx_load 0 dead (fun v => k nx ls (v :: st) G μ) ls r1
  | .iload _ => kx_load 0 dead (fun v => k nx ls (v :: st) G μ) ls r1
  | .lload_n _ => kx_load 1 dead (fun v => k nx ls (v :: st) G μ) ls r1
  | .lload _ => kx_load 1 dead (fun v => k nx ls (v :: st) G μ) ls r1
  | .aload_n _ => kx_load 2 dead (fun v => k nx ls (v :: st) G μ) ls r1
  | .aload _ => kx_load 2 dead (fun v => k nx ls (v :: st) G μ) ls r1
  | .istore_n _ => match st with
    | .inl x :: st => k nx (kx_set1 ls r1 (kI x)) st G μ
    | _ => dead
  | .istore _ => match st with
    | .inl x :: st => k nx (kx_set1 ls r1 (kI x)) st G μ
    | _ => dead
  | .lstore_n _ => match st with
    | .inr (.inl x) :: st => k nx (kx_set2 ls r1 (kL x)) st G μ
    | _ => dead
  | .astore_n _ => match st with
    | .inr (.inr x) :: st => k nx (kx_set1 ls r1 (kR x)) st G μ
    | _ => dead
  | .astore _ => match st with
    | .inr (.inr x) :: st => k nx (kx_set1 ls r1 (kR x)) st G μ
    | _ => dead
  | .iinc _ _ => match kx_get ls r1 with
    | some (.inl x) => k nx (kx_set1 ls r1 (kI (x + r3))) st G μ
    | _ => dead
  | .iconst _ => k nx ls (kI r3 :: st) G μ
  | .bipush _ => k nx ls (kI r3 :: st) G μ
  | .sipush _ => k nx ls (kI r3 :: st) G μ
  | .lconst _ => k nx ls (kL r3 :: st) G μ
  | .ldc _ => if r1 = 0 then k nx ls (kI r3 :: st) G μ else k nx ls (kR r2 :: st) G μ
  | .ldc_w _ => k nx ls (kI r3 :: st) G μ
  | .ldc2_w _ => k nx ls (kL r3 :: st) G μ
  | .getstatic _ => if r1 = 0 then k nx ls (kR r2 :: st) G μ else k nx ls (kI r3 :: st) G μ
  | .getfield _ => match st with
    | .inr (.inr a) :: st => if r1 = 8 then (if a = 105 then (if r2 = 1 then k nx ls (kR 106 :: st) G μ else k nx ls (kI 0 :: st) G μ) else dead) else if G.1 a = (1, r1) then (if r2 = 1 then (if G.2.2 a r3 = 0 then dead else k nx ls (kR (G.2.2 a r3) :: st) G μ) else k nx ls (kI (μ a r3) :: st) G μ) else dead
    | _ => dead
  | .putfield _ => match st with
    | .inl v :: .inr (.inr a) :: st => if G.1 a = (1, r1) ∧ (r2 = 0 ∨ r2 = 2 ∧ (v = 0 ∨ v = 1)) then k nx ls st G (kx_up μ a r3 v) else dead
    | .inr (.inr v) :: .inr (.inr a) :: st => if G.1 a = (1, r1) ∧ r2 = 1 ∧ v ≠ 0 then k nx ls st (G.1, G.2.1, kx_upr G.2.2 a r3 v) μ else dead
    | _ => dead
  | .iaload => match st with
    | .inl i :: .inr (.inr a) :: st => if ((G.1 a).1 = 2 ∨ (G.1 a).1 = 7) ∧ 0 ≤ i ∧ i < (G.1 a).2 then k nx ls (kI (μ a i) :: st) G μ else dead
    | _ => dead
  | .laload => match st with
    | .inl i :: .inr (.inr a) :: st => if (G.1 a).1 = 3 ∧ 0 ≤ i ∧ i < (G.1 a).2 then k nx ls (kL (μ a i) :: st) G μ else dead
    | _ => dead
  | .baload => match st with
    | .inl i :: .inr (.inr a) :: st => if (G.1 a).1 = 4 ∧ 0 ≤ i ∧ i < (G.1 a).2 then k nx ls (kI (μ a i) :: st) G μ else if a = 106 ∧ 0 ≤ i ∧ i < 5 then k nx ls (kI (μ 106 i) :: st) G μ else dead
    | _ => dead
  | .aaload => match st with
    | .inl i :: .inr (.inr a) :: st => if ((G.1 a).1 = 5 ∨ (G.1 a).1 = 6) ∧ 0 ≤ i ∧ i < (G.1 a).2 ∧ G.2.2 a i ≠ 0 then k nx ls (kR (G.2.2 a i) :: st) G μ else dead
    | _ => dead
  | .iastore => match st with
    | .inl v :: .inl i :: .inr (.inr a) :: st => if (G.1 a).1 = 2 ∧ 0 ≤ i ∧ i < (G.1 a).2 then k nx ls st G (kx_up μ a i v) else dead
    | _ => dead
  | .lastore => match st with
    | .inr (.inl v) :: .inl i :: .inr (.inr a) :: st => if (G.1 a).1 = 3 ∧ 0 ≤ i ∧ i < (G.1 a).2 then k nx ls st G (kx_up μ a i v) else dead
    | _ => dead
  | .bastore => match st with
    | .inl v :: .inl i :: .inr (.inr a) :: st => if (G.1 a).1 = 4 ∧ 0 ≤ i ∧ i < (G.1 a).2 ∧ (v = 0 ∨ v = 1) then k nx ls st G (kx_up μ a i v) else dead
    | _ => dead
  | .aastore => match st with
    | .inr (.inr v) :: .inl i :: .inr (.inr a) :: st => if ((G.1 a).1 = 5 ∧ G.1 v = (1, 3) ∨ (G.1 a).1 = 6 ∧ G.1 v = (1, 5)) ∧ 0 ≤ i ∧ i < (G.1 a).2 ∧ v ≠ 0 then k nx ls st (G.1, G.2.1, kx_upr G.2.2 a i v) μ else dead
    | _ => dead
  | .newarray _ => match st with
    | .inl n :: st => if 0 ≤ n ∧ n ≤ 5000 then k nx ls (kR G.2.1 :: st) (kx_new G (r1, n.toNat)) (kx_zero μ G.2.1) else dead
    | _ => dead
  | .anewarray _ => match st with
    | .inl n :: st => if 0 ≤ n ∧ n ≤ 5000 then k nx ls (kR G.2.1 :: st) (kx_new G (r1, n.toNat)) (kx_zero μ G.2.1) else dead
    | _ => dead
  | .new _ => k nx ls (kR G.2.1 :: st) (kx_new G (1, r1)) (kx_zero μ G.2.1)
  | .arraylength => match st with
    | .inr (.inr a) :: st => if (G.1 a).1 = 2 ∨ (G.1 a).1 = 7 ∧ a = 104 then k nx ls (kI (G.1 a).2 :: st) G μ else if a = 106 then k nx ls (kI 5 :: st) G μ else dead
    | _ => dead
  | .dup => match st with
    | .inl x :: st => k nx ls (kI x :: kI x :: st) G μ
    | .inr (.inr x) :: st => k nx ls (kR x :: kR x :: st) G μ
    | _ => dead
  | .dup2 => match st with
    | .inl y :: .inr (.inr x) :: st => k nx ls (kI y :: kR x :: kI y :: kR x :: st) G μ
    | _ => dead
  | .pop => match st with
    | .inl _ :: st => k nx ls st G μ
    | _ => dead
  | .iadd => match st with
    | .inl b :: .inl a :: st => k nx ls (kI (a + b) :: st) G μ
    | _ => dead
  | .isub => match st with
    | .inl b :: .inl a :: st => k nx ls (kI (a - b) :: st) G μ
    | _ => dead
  | .imul => match st with
    | .inl b :: .inl a :: st => k nx ls (kI (a * b) :: st) G μ
    | _ => dead
  | .idiv => match st with
    | .inl b :: .inl a :: st => if kx_in a ∧ kx_in b ∧ b ≠ 0 then k nx ls (kI (a.tdiv b) :: st) G μ else dead
    | _ => dead
  | .irem => match st with
    | .inl b :: .inl a :: st => if kx_in a ∧ kx_in b ∧ b ≠ 0 then k nx ls (kI (a.tmod b) :: st) G μ else dead
    | _ => dead
  | .ineg => match st with
    | .inl a :: st => k nx ls (kI (-a) :: st) G μ
    | _ => dead
  | .iand => match st with
    | .inl b :: .inl a :: st => k nx ls (kI (kx_and a b) :: st) G μ
    | _ => dead
  | .ior => match st with
    | .inl b :: .inl a :: st => k nx ls (kI (kx_or a b) :: st) G μ
    | _ => dead
  | .ixor => match st with
    | .inl b :: .inl a :: st => k nx ls (kI (kx_xor a b) :: st) G μ
    | _ => dead
  | .ishl => match st with
    | .inl b :: .inl a :: st => if 0 ≤ b ∧ b < 32 then k nx ls (kI (a * 2 ^ b.toNat) :: st) G μ else dead
    | _ => dead
  | .ishr => match st with
    | .inl b :: .inl a :: st => if 0 ≤ b ∧ b < 32 then k nx ls (kI (a.bmod 4294967296 / 2 ^ b.toNat) :: st) G μ else dead
    | _ => dead
  | .iushr => match st with
    | .inl b :: .inl a :: st => if 0 ≤ b ∧ b < 32 ∧ 0 ≤ a ∧ a ≤ 2147483647 then k nx ls (kI (a / 2 ^ b.toNat) :: st) G μ else dead
    | _ => dead
  | .ladd => match st with
    | .inr (.inl b) :: .inr (.inl a) :: st => k nx ls (kL (a + b) :: st) G μ
    | _ => dead
  | .lsub => match st with
    | .inr (.inl b) :: .inr (.inl a) :: st => k nx ls (kL (a - b) :: st) G μ
    | _ => dead
  | .lor => match st with
    | .inr (.inl b) :: .inr (.inl a) :: st => k nx ls (kL (kx_lor a b) :: st) G μ
    | _ => dead
  | .lshl => match st with
    | .inl b :: .inr (.inl a) :: st => if 0 ≤ b ∧ b < 64 then k nx ls (kL (a * 2 ^ b.toNat) :: st) G μ else dead
    | _ => dead
  | .lcmp => match st with
    | .inr (.inl b) :: .inr (.inl a) :: st => if kx_inL a ∧ kx_inL b then (if a < b then k nx ls (kI (-1) :: st) G μ else if a = b then k nx ls (kI 0 :: st) G μ else k nx ls (kI 1 :: st) G μ) else dead
    | _ => dead
  | .i2l => match st with
    | .inl a :: st => if kx_in a then k nx ls (kL a :: st) G μ else dead
    | _ => dead
  | .i2b => match st with
    | .inl a :: st => k nx ls (kI (a.bmod 256) :: st) G μ
    | _ => dead
  | .i2s => match st with
    | .inl a :: st => k nx ls (kI (a.bmod 65536) :: st) G μ
    | _ => dead
  | .i2c => match st with
    | .inl a :: st => k nx ls (kI (a % 65536) :: st) G μ
    | _ => dead
  | .ifCond c _ => match st with
    | .inl a :: st => if kx_in a then kx_br c a 0 (k r1 ls st G μ) (k nx ls st G μ) else dead
    | _ => dead
  | .if_icmp c _ => match st with
    | .inl b :: .inl a :: st => if kx_in a ∧ kx_in b then kx_br c a b (k r1 ls st G μ) (k nx ls st G μ) else dead
    | _ => dead
  | .goto _ => k r1 ls st G μ
  | .tableswitch _ _ _ _ => match st with
    | .inl x :: st => if kx_in x then kx_sw x r3 (fun t => k t ls st G μ) r1 tg else dead
    | _ => dead
  | .lookupswitch _ _ => match st with
    | .inl x :: st => if kx_in x then kx_sw x r3 (fun t => k t ls st G μ) r1 tg else dead
    | _ => dead
  | .ireturn => match st with
    | [.inl x] => if r1 = 0 ∨ x = 0 ∨ x = 1 then ret (some (kI x)) G μ else dead
    | _ => dead
  | .lreturn => match st with
    | [.inr (.inl x)] => ret (some (kL x)) G μ
    | _ => dead
  | .return_ => match st with
    | [] => ret none G μ
    | _ => dead
  | .invokestatic _ => if r3 = 2 then (match st with
      | .inl n :: .inl dp :: .inr (.inr d) :: .inl sp :: .inr (.inr s) :: st => if 91 ≤ G.2.1 ∧ (G.1 s).1 = 2 ∧ (G.1 d).1 = 2 ∧ 0 ≤ sp ∧ 0 ≤ dp ∧ 0 ≤ n ∧ sp + n ≤ (G.1 s).2 ∧ dp + n ≤ (G.1 d).2 ∧ kx_cats st ≤ 8 then k nx ls st G (kx_cpy μ s sp d dp n) else dead
      | _ => dead) else if r2 ≤ st.length ∧ kx_cats (st.drop r2) ≤ 8 then call r1 (st.take r2).reverse G μ nx ls (st.drop r2) else dead
  | .invokespecial _ => if r3 = 1 then (match st with
      | .inr (.inr _) :: st => if kx_cats st ≤ 8 then k nx ls st G μ else dead
      | _ => dead) else match (st.take r2).reverse with
      | .inr (.inr o) :: as => if r2 ≤ st.length ∧ kx_cats (st.drop r2) ≤ 8 then call r1 (.inr (.inr o) :: as) G μ nx ls (st.drop r2) else dead
      | _ => dead
  | .invokevirtual _ => match (st.take r2).reverse with
      | .inr (.inr o) :: as => if (if tg.headD 0 = 8 then o = 105 else G.1 o = (1, tg.headD 0)) ∧ r2 ≤ st.length ∧ kx_cats (st.drop r2) ≤ 8 then call r1 (.inr (.inr o) :: as) G μ nx ls (st.drop r2) else dead
      | _ => dead
  | _ => dead
def kx_st (tb : Nat → kx_E) (dead : α) (k : Nat → kx_L → List kx_V → kx_G → kx_M → α) (ret : Option kx_V → kx_G → kx_M → α) (call : Nat → List kx_V → kx_G → kx_M → Nat → kx_L → List kx_V → α) (pc : Nat) (ls : kx_L) (st : List kx_V) (G : kx_G) (μ : kx_M) : α :=
  match tb pc with
  | (i, nx, r1, r2, r3, tg) => kx_do i nx r1 r2 r3 tg dead k ret call ls st G μ
end KX
/-- what a run of a method's code from a place on comes to -/
def kx_run (E : Nat → List kx_V → kx_G → kx_M → Option kx_V → kx_G → kx_M → Prop) (tb : Nat → kx_E) (v : Option kx_V) (G' : kx_G) (μ' : kx_M) : Nat → Nat → kx_L → List kx_V → kx_G → kx_M → Prop
  | 0, _, _, _, _, _ => False
  | n + 1, pc, ls, st, G, μ => kx_st tb False (kx_run E tb v G' μ' n) (fun v1 G1 μ1 => v1 = v ∧ G1 = G' ∧ μ1 = μ')
      (fun m as G1 μ1 pc' ls' rest => ∃ (v1 : Option kx_V) (G2 : kx_G) (μ2 : kx_M), E m as G1 μ1 v1 G2 μ2 ∧ kx_run E tb v G' μ' n pc' ls' (v1.toList ++ rest) G2 μ2) pc ls st G μ
/-- method m of the table of methods, called with these, returns that: calls within calls at most d deep -/
def kx_ev (tbs : Nat → Nat → kx_E) (mls : Nat → Nat) : Nat → Nat → List kx_V → kx_G → kx_M → Option kx_V → kx_G → kx_M → Prop
  | 0 => fun _ _ _ _ _ _ _ => False
  | d + 1 => fun m as G μ v G' μ' => (kx_ent as).length ≤ mls m ∧ ∃ n, kx_run (kx_ev tbs mls d) (tbs m) v G' μ' n 0 (kx_pad (kx_ent as) (mls m)) [] G μ
