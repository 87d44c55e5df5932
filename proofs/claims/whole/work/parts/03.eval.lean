/-! ===== THE PURE MACHINE: the bytecode run over a picture of the heap ===== -/
-- a kind: an object of a class (by its number in vwCl), or an array (element type, length); .float stands for an int array outside the world
abbrev zK : Type := Nat ⊕ (FieldType × Nat)
abbrev zP : Type := zK × Nat
abbrev zV : Type := Int32 ⊕ (Int64 ⊕ Option zP)
-- layout, references laid, ints, longs
abbrev zS : Type := List zK × (Nat → Nat → Bool) × (Nat → Nat → Int32) × (Nat → Nat → Int64)
abbrev zR : Type := Option zV × zS
-- instruction, a, b, an int constant, a long constant, the place of its link word
abbrev zI : Type := Instr × Nat × Nat × Int32 × Int64 × Nat
abbrev zC : Type := List (Option zI)
abbrev zL : Type := List (Option zV)
def zat : zC → Nat → Option zI
  | [], _ => none
  | q :: _, 0 => q
  | _ :: r, n + 1 => zat r n
def zg : zL → Nat → Option zV
  | [], _ => none
  | q :: _, 0 => q
  | _ :: r, n + 1 => zg r n
/-- what stands ahead of a stored value: a long whose second half it overwrites is gone -/
def zah (i : Nat) (q : Option zV) : Option zV := match i, q with
  | 0, some (.inr (.inl _)) => none
  | _, q => q
def zs1 : zL → Nat → zV → zL
  | [], _, _ => []
  | _ :: r, 0, v => some v :: r
  | q :: r, i + 1, v => zah i q :: zs1 r i v
def zs0 : zL → zL
  | [] => []
  | _ :: r => none :: r
def zs2 : zL → Nat → zV → zL
  | [], _, _ => []
  | _ :: r, 0, v => some v :: zs0 r
  | q :: r, i + 1, v => zah i q :: zs2 r i v
def zup {α : Type} (M : Nat → Nat → α) (k i : Nat) (v : α) : Nat → Nat → α := fun a => if a = k then vf_upd (M a) i v else M a
def zur {α : Type} (M : Nat → Nat → α) (k : Nat) (f : Nat → α) : Nat → Nat → α := fun a => if a = k then f else M a
def zin (i : Int32) (n : Nat) : Bool := decide (0 ≤ i.toInt) && decide (i.toInt < (n : Int))
def pI (st : List zV) (f : Int32 → List zV → Option zR) : Option zR := match st with
  | .inl y :: r => f y r
  | _ => none
def pJ (st : List zV) (f : Int64 → List zV → Option zR) : Option zR := match st with
  | .inr (.inl y) :: r => f y r
  | _ => none
def pQ (st : List zV) (f : Option zP → List zV → Option zR) : Option zR := match st with
  | .inr (.inr q) :: r => f q r
  | _ => none
def pP (st : List zV) (f : zK → Nat → List zV → Option zR) : Option zR := match st with
  | .inr (.inr (some q)) :: r => f q.1 q.2 r
  | _ => none
def lI (v : Option zV) (f : Int32 → Option zR) : Option zR := match v with
  | some (.inl y) => f y
  | _ => none
def lJ (v : Option zV) (f : Int64 → Option zR) : Option zR := match v with
  | some (.inr (.inl y)) => f y
  | _ => none
def lQ (v : Option zV) (f : Option zP → Option zR) : Option zR := match v with
  | some (.inr (.inr q)) => f q
  | _ => none
/-- an object of the class ci -/
def kO (κ : zK) (ci : Nat) (f : Option zR) : Option zR := match κ with
  | .inl c => if c = ci then f else none
  | _ => none
def kI (κ : zK) (f : Nat → Option zR) (g : Nat → Option zR) : Option zR := match κ with
  | .inr (.int, n) => f n
  | .inr (.float, n) => g n
  | _ => none
def kZ (κ : zK) (f : Nat → Option zR) : Option zR := match κ with
  | .inr (.boolean, n) => f n
  | _ => none
def kA (κ : zK) (f : FieldType → Nat → Option zR) : Option zR := match κ with
  | .inr (.object c, n) => f (.object c) n
  | .inr (.array c, n) => f (.array c) n
  | _ => none
def kLen (κ : zK) (f : Nat → Option zR) : Option zR := match κ with
  | .inr q => f q.2
  | _ => none
/-- the answer of a call: none, an int, a long, a reference -/
def cV (o : Option zR) (f : zS → Option zR) : Option zR := match o with
  | some (none, σ) => f σ
  | _ => none
def cI (o : Option zR) (f : Int32 → zS → Option zR) : Option zR := match o with
  | some (some (.inl y), σ) => f y σ
  | _ => none
def cJ (o : Option zR) (f : Int64 → zS → Option zR) : Option zR := match o with
  | some (some (.inr (.inl y)), σ) => f y σ
  | _ => none
def cQ (o : Option zR) (f : Option zP → zS → Option zR) : Option zR := match o with
  | some (some (.inr (.inr y)), σ) => f y σ
  | _ => none
def zpop : Nat → List zV → List zV → (List zV → List zV → Option zR) → Option zR
  | 0, st, acc, f => f acc st
  | n + 1, v :: r, acc, f => zpop n r (v :: acc) f
  | _ + 1, [], _, _ => none
def ztsw (k : Nat → Option zR) (y : Int32) (d : Nat) : Int32 → List Nat → Option zR
  | _, [] => k d
  | lo, t :: ts => if y = lo then k t else ztsw k y d (lo + 1) ts
def zlsw (k : Nat → Option zR) (y : Int32) (d : Nat) : List (Int32 × Nat) → Option zR
  | [] => k d
  | (lo, t) :: ts => if y = lo then k t else zlsw k y d ts
def zcat (st : List zV) : Nat := match st with
  | [] => 0
  | .inr (.inl _) :: r => 2 + zcat r
  | _ :: r => 1 + zcat r
/-- does an answer fit the method's type? -/
def zrt (ret : Option FieldType) (r : Option zV) : Bool := match ret, r with
  | none, none => true
  | some .int, some (.inl _) => true
  | some .boolean, some (.inl y) => decide (y = 0) || decide (y = 1)
  | some .long, some (.inr (.inl _)) => true
  | some (.object _), some (.inr (.inr _)) => true
  | _, _ => false
-- the fields of each class: none an int, some none a long, some (some (kind, d)) a reference to the cell d places behind
abbrev zF : Type := Option (Option zP)
def zel (t : FieldType) (k i : Nat) : zP := match t with
  | .object _ => (.inl 1, k + 1 + 8 * i)
  | _ => (.inr (.int, 40), k + 1 + i)
/-- the fields of each class -/
def zft : Nat → List zF
  | 0 => [some (some (.inr (.int, 16), 1)), none, none, none, none, none]
  | 1 => [none, none, none, none, none, some (some (.inr (.int, 4), 1)), some (some (.inr (.int, 4), 2)), some (some (.inr (.int, 6), 3)), some (some (.inr (.int, 6), 4)), some (some (.inr (.int, 6), 5)), some (some (.inr (.int, 6), 6)), some (some (.inr (.int, 6), 7))]
  | 2 => [some (some (.inl 1, 1)), some (some (.inr (.int, 12), 9)), none, none, none, none, none]
  | 3 => [some (some (.inl 1, 1)), some none, some none]
  | 4 => [some (some (.inr (.object RX1, 24), 1)), none, none]
  | 5 => [some (some (.inl 1, 1)), some (some (.inl 1, 9)), some (some (.inr (.int, 256), 17)), some (some (.inr (.int, 6), 18)), some (some (.inr (.int, 6), 19)), none, none, none, none, none, none, none]
  | 6 => [some (some (.inr (.array .int, 8), 1)), some (some (.inr (.int, 8), 10)), some (some (.inr (.int, 8), 11))]
  | 7 => [some (some (.inr (.int, 120), 1)), some (some (.inl 1, 2)), none, none, none, none, none, none, none, none, none]
  | 8 => [some (some (.inl 6, 1)), some (some (.inl 1, 13)), some (some (.inl 7, 21)), some (some (.inl 4, 31)), some (some (.inl 3, 225)), some (some (.inl 5, 234)), some (some (.inl 2, 254)), some (some (.inl 0, 264)), some (some (.inr (.object RX1, 2), 266)), none]
  | 9 => [none, none, some (some (.inr (.int, 8), 1)), some (some (.inr (.int, 8), 2)), some (some (.inr (.int, 320), 3)), some (some (.inr (.int, 43), 4)), some (some (.inr (.int, 43), 5)), some (some (.inr (.int, 43), 6)), some (some (.inr (.int, 1032), 7)), none, some (some (.inr (.int, 120), 8)), none, none, none, none, none, none, none, none, some (some (.inr (.int, 6), 9)), some (some (.inr (.int, 6), 10)), some (some (.inr (.int, 4), 11)), some (some (.inr (.boolean, 2), 12)), some (some (.inr (.int, 86), 13)), some (some (.inr (.int, 16), 14)), none]
  | _ => []
def zfl (ci fi : Nat) : Option zF := match zft ci with
  | l => l[fi]?
/-- is the receiver of the class ci? -/
def zrc (ck : Bool) (ci : Nat) (args : List zV) : Bool := match ck, args with
  | false, _ => true
  | true, .inr (.inr (some (.inl c, _))) :: _ => Nat.beq c ci
  | true, _ => false
def zinv (C : Nat → List zV → zS → Option zR) (k : Nat → zL → List zV → zS → Option zR) (pc : Nat) (ls : zL) (st : List zV) (σ : zS) (y b : Nat) (ck : Bool) : Option zR :=
  zpop (b % 64 / 4) st [] fun args r => match Nat.ble (zcat r) 8 && zrc ck (b / 64) args with
    | false => none
    | true => match b % 4 with
      | 0 => cV (C y args σ) fun σ' => k (pc + 3) ls r σ'
      | 1 => cI (C y args σ) fun v σ' => k (pc + 3) ls (.inl v :: r) σ'
      | 2 => cJ (C y args σ) fun v σ' => k (pc + 3) ls (.inr (.inl v) :: r) σ'
      | _ => cQ (C y args σ) fun v σ' => k (pc + 3) ls (.inr (.inr v) :: r) σ'
/-- System.arraycopy over two int arrays of the world -/
def zcopy (k : Nat → zL → List zV → zS → Option zR) (pc : Nat) (ls : zL) (st : List zV) (σ : zS) : Option zR :=
  pI st fun n r => pI r fun dp r => pP r fun κ1 k1 r => pI r fun sp r => pP r fun κ0 k0 r => match Nat.ble (zcat r) 8 with
    | false => none
    | true => kI κ0 (fun n0 => kI κ1 (fun n1 => match decide (0 ≤ n.toInt) && (decide (0 ≤ sp.toInt) && (decide (0 ≤ dp.toInt) && (decide (sp.toInt + n.toInt ≤ (n0 : Int)) && decide (dp.toInt + n.toInt ≤ (n1 : Int))))) with
      | false => none
      | true => k (pc + 3) ls r (σ.1, σ.2.1, zur σ.2.2.1 k1 (va_cpy (σ.2.2.1 k0) (σ.2.2.1 k1) sp.toNatClampNeg dp.toNatClampNeg n.toNatClampNeg), σ.2.2.2)) (fun _ => none)) (fun _ => none)
def zdup (st : List zV) (f : List zV → Option zR) : Option zR := match st with
  | .inl y :: r => f (.inl y :: .inl y :: r)
  | .inr (.inr q) :: r => f (.inr (.inr q) :: .inr (.inr q) :: r)
  | _ => none
def zdup2 (st : List zV) (f : List zV → Option zR) : Option zR := match st with
  | .inl y :: .inr (.inr q) :: r => f (.inl y :: .inr (.inr q) :: .inl y :: .inr (.inr q) :: r)
  | _ => none
def zret (ret : Option FieldType) (r : Option zV) (σ : zS) : Option zR := match zrt ret r with
  | true => some (r, σ)
  | false => none
/-- a new cell at the end -/
def znew (σ : zS) (κ : zK) : zS := (σ.1 ++ [κ], zur σ.2.1 σ.1.length (fun _ => false), zur σ.2.2.1 σ.1.length (fun _ => 0), zur σ.2.2.2 σ.1.length (fun _ => 0))
/-- new int[n][40] -/
def znew2 (σ : zS) (n : Nat) : zS := (σ.1 ++ (.inr (.array .int, n) :: List.replicate n (.inr (.int, 40))), (fun a i => if a = σ.1.length then true else if σ.1.length < a then false else σ.2.1 a i), (fun a i => if σ.1.length ≤ a then 0 else σ.2.2.1 a i), (fun a i => if σ.1.length ≤ a then 0 else σ.2.2.2 a i))
def zgetf (k : Nat → zL → List zV → zS → Option zR) (pc : Nat) (ls : zL) (st : List zV) (σ : zS) (a b : Nat) : Option zR :=
  pP st fun κ o r => kO κ a (match zfl a b with
    | some none => k (pc + 3) ls (.inl (σ.2.2.1 o b) :: r) σ
    | some (some none) => k (pc + 3) ls (.inr (.inl (σ.2.2.2 o b)) :: r) σ
    | some (some (some q)) => match σ.2.1 o b with
      | true => k (pc + 3) ls (.inr (.inr (some (q.1, o + q.2))) :: r) σ
      | false => none
    | none => none)
def zputf (k : Nat → zL → List zV → zS → Option zR) (pc : Nat) (ls : zL) (st : List zV) (σ : zS) (a b : Nat) : Option zR :=
  match zfl a b with
    | some none => pI st fun y r => pP r fun κ o r => kO κ a (k (pc + 3) ls r (σ.1, σ.2.1, zup σ.2.2.1 o b y, σ.2.2.2))
    | some (some none) => pJ st fun y r => pP r fun κ o r => kO κ a (k (pc + 3) ls r (σ.1, σ.2.1, σ.2.2.1, zup σ.2.2.2 o b y))
    | some (some (some q)) => pP st fun κ1 o1 r => pP r fun κ o r => kO κ a (if κ1 = q.1 ∧ o1 = o + q.2 then k (pc + 3) ls r (σ.1, zup σ.2.1 o b true, σ.2.2) else none)
    | none => none
def zins (X : Nat → Nat → Int32) (C : Nat → List zV → zS → Option zR) (ret : Option FieldType) (k : Nat → zL → List zV → zS → Option zR) (pc : Nat) (ls : zL) (st : List zV) (σ : zS) (a b : Nat) (v : Int32) (w : Int64) : Instr → Option zR
  | .iconst _ => k (pc + 1) ls (.inl v :: st) σ
  | .bipush _ => k (pc + 2) ls (.inl v :: st) σ
  | .sipush _ => k (pc + 3) ls (.inl v :: st) σ
  | .ldc _ => k (pc + 2) ls (.inl v :: st) σ
  | .ldc_w _ => k (pc + 3) ls (.inl v :: st) σ
  | .lconst _ => k (pc + 1) ls (.inr (.inl w) :: st) σ
  | .ldc2_w _ => k (pc + 3) ls (.inr (.inl w) :: st) σ
  | .aconst_null => k (pc + 1) ls (.inr (.inr none) :: st) σ
  | .iload _ => lI (zg ls a) fun y => k (pc + 2) ls (.inl y :: st) σ
  | .iload_n _ => lI (zg ls a) fun y => k (pc + 1) ls (.inl y :: st) σ
  | .lload _ => lJ (zg ls a) fun y => k (pc + 2) ls (.inr (.inl y) :: st) σ
  | .lload_n _ => lJ (zg ls a) fun y => k (pc + 1) ls (.inr (.inl y) :: st) σ
  | .aload _ => lQ (zg ls a) fun y => k (pc + 2) ls (.inr (.inr y) :: st) σ
  | .aload_n _ => lQ (zg ls a) fun y => k (pc + 1) ls (.inr (.inr y) :: st) σ
  | .istore _ => pI st fun y r => k (pc + 2) (zs1 ls a (.inl y)) r σ
  | .istore_n _ => pI st fun y r => k (pc + 1) (zs1 ls a (.inl y)) r σ
  | .lstore _ => pJ st fun y r => k (pc + 2) (zs2 ls a (.inr (.inl y))) r σ
  | .lstore_n _ => pJ st fun y r => k (pc + 1) (zs2 ls a (.inr (.inl y))) r σ
  | .astore _ => pQ st fun y r => k (pc + 2) (zs1 ls a (.inr (.inr y))) r σ
  | .astore_n _ => pQ st fun y r => k (pc + 1) (zs1 ls a (.inr (.inr y))) r σ
  | .iinc _ _ => lI (zg ls a) fun y => k (pc + 3) (zs1 ls a (.inl (y + v))) st σ
  | .iadd => pI st fun y r => pI r fun z r => k (pc + 1) ls (.inl (z + y) :: r) σ
  | .isub => pI st fun y r => pI r fun z r => k (pc + 1) ls (.inl (z - y) :: r) σ
  | .imul => pI st fun y r => pI r fun z r => k (pc + 1) ls (.inl (z * y) :: r) σ
  | .iand => pI st fun y r => pI r fun z r => k (pc + 1) ls (.inl (z &&& y) :: r) σ
  | .ior => pI st fun y r => pI r fun z r => k (pc + 1) ls (.inl (z ||| y) :: r) σ
  | .ixor => pI st fun y r => pI r fun z r => k (pc + 1) ls (.inl (z ^^^ y) :: r) σ
  | .ishl => pI st fun y r => pI r fun z r => k (pc + 1) ls (.inl (z <<< (y &&& 31)) :: r) σ
  | .ishr => pI st fun y r => pI r fun z r => k (pc + 1) ls (.inl (z >>> (y &&& 31)) :: r) σ
  | .iushr => pI st fun y r => pI r fun z r => k (pc + 1) ls (.inl ((z.toUInt32 >>> (y.toUInt32 &&& Int32.toUInt32 31)).toInt32) :: r) σ
  | .idiv => pI st fun y r => pI r fun z r => if y = 0 then none else k (pc + 1) ls (.inl (z / y) :: r) σ
  | .irem => pI st fun y r => pI r fun z r => if y = 0 then none else k (pc + 1) ls (.inl (z - z / y * y) :: r) σ
  | .ineg => pI st fun y r => k (pc + 1) ls (.inl (-y) :: r) σ
  | .ladd => pJ st fun y r => pJ r fun z r => k (pc + 1) ls (.inr (.inl (z + y)) :: r) σ
  | .lsub => pJ st fun y r => pJ r fun z r => k (pc + 1) ls (.inr (.inl (z - y)) :: r) σ
  | .lmul => pJ st fun y r => pJ r fun z r => k (pc + 1) ls (.inr (.inl (z * y)) :: r) σ
  | .ldiv => pJ st fun y r => pJ r fun z r => if y = 0 then none else k (pc + 1) ls (.inr (.inl (z / y)) :: r) σ
  | .lrem => pJ st fun y r => pJ r fun z r => if y = 0 then none else k (pc + 1) ls (.inr (.inl (z - z / y * y)) :: r) σ
  | .lcmp => pJ st fun y r => pJ r fun z r => k (pc + 1) ls (.inl (lg_cmp z y) :: r) σ
  | .i2l => pI st fun y r => k (pc + 1) ls (.inr (.inl y.toInt64) :: r) σ
  | .l2i => pJ st fun y r => k (pc + 1) ls (.inl y.toInt32 :: r) σ
  | .i2b => pI st fun y r => k (pc + 1) ls (.inl y.toInt8.toInt32 :: r) σ
  | .i2s => pI st fun y r => k (pc + 1) ls (.inl y.toInt16.toInt32 :: r) σ
  | .dup => zdup st fun r => k (pc + 1) ls r σ
  | .dup2 => zdup2 st fun r => k (pc + 1) ls r σ
  | .goto _ => k a ls st σ
  | .ifCond .eq _ => pI st fun y r => if y = 0 then k a ls r σ else k (pc + 3) ls r σ
  | .ifCond .ne _ => pI st fun y r => if y = 0 then k (pc + 3) ls r σ else k a ls r σ
  | .ifCond .lt _ => pI st fun y r => if y < 0 then k a ls r σ else k (pc + 3) ls r σ
  | .ifCond .ge _ => pI st fun y r => if 0 ≤ y then k a ls r σ else k (pc + 3) ls r σ
  | .ifCond .gt _ => pI st fun y r => if 0 < y then k a ls r σ else k (pc + 3) ls r σ
  | .ifCond .le _ => pI st fun y r => if y ≤ 0 then k a ls r σ else k (pc + 3) ls r σ
  | .if_icmp .eq _ => pI st fun y r => pI r fun z r => if z = y then k a ls r σ else k (pc + 3) ls r σ
  | .if_icmp .ne _ => pI st fun y r => pI r fun z r => if z = y then k (pc + 3) ls r σ else k a ls r σ
  | .if_icmp .lt _ => pI st fun y r => pI r fun z r => if z < y then k a ls r σ else k (pc + 3) ls r σ
  | .if_icmp .ge _ => pI st fun y r => pI r fun z r => if y ≤ z then k a ls r σ else k (pc + 3) ls r σ
  | .if_icmp .gt _ => pI st fun y r => pI r fun z r => if y < z then k a ls r σ else k (pc + 3) ls r σ
  | .if_icmp .le _ => pI st fun y r => pI r fun z r => if z ≤ y then k a ls r σ else k (pc + 3) ls r σ
  | .ifnull _ => pQ st fun q r => match q with
    | none => k a ls r σ
    | some _ => k (pc + 3) ls r σ
  | .ifnonnull _ => pQ st fun q r => match q with
    | none => k (pc + 3) ls r σ
    | some _ => k a ls r σ
  | .tableswitch _ _ _ offs => pI st fun y r => ztsw (fun t => k t ls r σ) y a v (offs.toList.map fun o => ((pc : Int) + o).toNat)
  | .lookupswitch _ ps => pI st fun y r => zlsw (fun t => k t ls r σ) y a (ps.toList.map fun q => (Int32.ofInt q.1, ((pc : Int) + q.2).toNat))
  | .getfield _ => zgetf k pc ls st σ a b
  | .putfield _ => zputf k pc ls st σ a b
  | .getstatic _ => k (pc + 3) ls (.inr (.inr (some (.inr (.float, 6), a))) :: st) σ
  | .iaload => pI st fun i r => pP r fun κ o r => kI κ
      (fun n => match zin i n with
        | true => k (pc + 1) ls (.inl (σ.2.2.1 o i.toNatClampNeg) :: r) σ
        | false => none)
      (fun n => match zin i n with
        | true => k (pc + 1) ls (.inl (X o i.toNatClampNeg) :: r) σ
        | false => none)
  | .iastore => pI st fun y r => pI r fun i r => pP r fun κ o r => kI κ
      (fun n => match zin i n with
        | true => k (pc + 1) ls r (σ.1, σ.2.1, zup σ.2.2.1 o i.toNatClampNeg y, σ.2.2.2)
        | false => none)
      (fun _ => none)
  | .baload => pI st fun i r => pP r fun κ o r => kZ κ
      (fun n => match zin i n with
        | true => k (pc + 1) ls (.inl (σ.2.2.1 o i.toNatClampNeg) :: r) σ
        | false => none)
  | .bastore => pI st fun y r => pI r fun i r => pP r fun κ o r => kZ κ
      (fun n => match zin i n with
        | true => k (pc + 1) ls r (σ.1, σ.2.1, zup σ.2.2.1 o i.toNatClampNeg (vp_nar .boolean y), σ.2.2.2)
        | false => none)
  | .aaload => pI st fun i r => pP r fun κ o r => kA κ
      (fun t n => match zin i n with
        | true => match σ.2.1 o i.toNatClampNeg with
          | true => k (pc + 1) ls (.inr (.inr (some (zel t o i.toNatClampNeg))) :: r) σ
          | false => none
        | false => none)
  | .aastore => pP st fun κ1 o1 r => pI r fun i r => pP r fun κ o r => kA κ
      (fun t n => match zin i n, t with
        | true, .object _ => if (κ1, o1) = zel t o i.toNatClampNeg then k (pc + 1) ls r (σ.1, zup σ.2.1 o i.toNatClampNeg true, σ.2.2) else none
        | _, _ => none)
  | .arraylength => pP st fun κ _ r => kLen κ fun n => k (pc + 1) ls (.inl (Int32.ofNat n) :: r) σ
  | .new _ => k (pc + 3) ls (.inr (.inr (some (.inl a, σ.1.length))) :: st) (znew σ (.inl a))
  | .newarray .int => pI st fun n r => match zin n 2000 with
    | true => k (pc + 2) ls (.inr (.inr (some (.inr (.int, n.toNatClampNeg), σ.1.length))) :: r) (znew σ (.inr (.int, n.toNatClampNeg)))
    | false => none
  | .newarray .boolean => pI st fun n r => match zin n 2000 with
    | true => k (pc + 2) ls (.inr (.inr (some (.inr (.boolean, n.toNatClampNeg), σ.1.length))) :: r) (znew σ (.inr (.boolean, n.toNatClampNeg)))
    | false => none
  | .anewarray _ => pI st fun n r => match zin n 2000 with
    | true => k (pc + 3) ls (.inr (.inr (some (.inr (.object RX1, n.toNatClampNeg), σ.1.length))) :: r) (znew σ (.inr (.object RX1, n.toNatClampNeg)))
    | false => none
  | .multianewarray _ _ => pI st fun m r => pI r fun n r => match zin n 2000 && decide (m = 40) with
    | true => k (pc + 4) ls (.inr (.inr (some (.inr (.array .int, n.toNatClampNeg), σ.1.length))) :: r) (znew2 σ n.toNatClampNeg)
    | false => none
  | .invokevirtual _ => match a with
    | 0 => none
    | y + 1 => zinv C k pc ls st σ y b true
  | .invokestatic _ => match a with
    | 0 => zcopy k pc ls st σ
    | y + 1 => zinv C k pc ls st σ y b false
  | .invokespecial _ => match a with
    | 0 => pP st fun _ _ r => match Nat.ble (zcat r) 8 with
      | true => k (pc + 3) ls r σ
      | false => none
    | y + 1 => zinv C k pc ls st σ y b true
  | .ireturn => match st with
    | [.inl y] => zret ret (some (.inl y)) σ
    | _ => none
  | .lreturn => match st with
    | [.inr (.inl y)] => zret ret (some (.inr (.inl y))) σ
    | _ => none
  | .areturn => match st with
    | [.inr (.inr y)] => zret ret (some (.inr (.inr y))) σ
    | _ => none
  | .return_ => match st with
    | [] => zret ret none σ
    | _ => none
  | _ => none
def zone (X : Nat → Nat → Int32) (C : Nat → List zV → zS → Option zR) (ret : Option FieldType) (cd : zC) (k : Nat → zL → List zV → zS → Option zR) (pc : Nat) (ls : zL) (st : List zV) (σ : zS) : Option zR := match zat cd pc with
  | none => none
  | some q => zins X C ret k pc ls st σ q.2.1 q.2.2.1 q.2.2.2.1 q.2.2.2.2.1 q.1
def zden (X : Nat → Nat → Int32) (C : Nat → List zV → zS → Option zR) (ret : Option FieldType) (cd : zC) : Nat → Nat → zL → List zV → zS → Option zR
  | 0 => fun _ _ _ _ => none
  | n + 1 => zone X C ret cd (zden X C ret cd n)
