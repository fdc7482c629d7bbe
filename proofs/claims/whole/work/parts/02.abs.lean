/-! THE ABSTRACT MACHINE: the program's own instructions over cells that are numbered in the order in which they are made; ints stand in a store of their own, references and kinds in a shape. -/
/-- a cell's kind (below 100: an object of that class; 100: int row; 101 + c: row of references to objects of class c) and length -/
abbrev ab_Tg : Type := Nat × Nat
/-- the shape: references (0: null), tags, how many cells -/
abbrev ab_Sh : Type := (Nat → Nat → Nat) × (Nat → ab_Tg) × Nat
abbrev ab_I : Type := Nat → Nat → Int32
abbrev ab_L : Type := List (Option Value)
/-- an instruction, the next pc, three numbers, a constant, a switch's table, which locals live here ([]: all) -/
abbrev ab_E : Type := Instr × Nat × Nat × Nat × Nat × Int32 × List (Int32 × Nat) × List Bool
abbrev ab_T : Type := List (Nat × List (Nat × ab_E))
abbrev ab_C : Type := ab_T × Nat × ab_L × List Value × ab_I × ab_Sh
def ab_lk1 : List (Nat × ab_E) → Nat → Option ab_E
  | [], _ => none
  | (p, e) :: r, pc => bif Nat.beq p pc then some e else ab_lk1 r pc
def ab_lk : ab_T → Nat → Option ab_E
  | [], _ => none
  | (hi, b) :: r, pc => bif Nat.ble pc hi then ab_lk1 b pc else ab_lk r pc
def ab_mk {α : Type} : List Bool → ab_L → (ab_L → α) → α
  | [], l, k => k l
  | _ :: _, [], k => k []
  | true :: m, x :: l, k => ab_mk m l (fun l' => k (x :: l'))
  | false :: m, _ :: l, k => ab_mk m l (fun l' => k (none :: l'))
def ab_get : ab_L → Nat → Option Value
  | [], _ => none
  | x :: _, 0 => x
  | _ :: l, n + 1 => ab_get l n
/-- what stands ahead of a place that is written: a long is lost -/
def ab_no2 {α : Type} : Option Value → (Option Value → α) → α
  | none, k => k none
  | some (.long _), k => k none
  | some (.double _), k => k none
  | some v, k => k (some v)
def ab_set {α : Type} : ab_L → Nat → Value → (ab_L → α) → α
  | [], _, _, k => k []
  | _ :: l, 0, v, k => k (some v :: l)
  | x :: l, 1, v, k => ab_set l 0 v (fun l' => ab_no2 x (fun x' => k (x' :: l')))
  | x :: l, n + 2, v, k => ab_set l (n + 1) v (fun l' => k (x :: l'))
def ab_set2 {α : Type} : ab_L → Nat → Value → (ab_L → α) → α
  | [], _, _, k => k []
  | [x], _, _, k => k [x]
  | _ :: _ :: l, 0, v, k => k (some v :: none :: l)
  | x :: y :: l, 1, v, k => ab_set2 (y :: l) 0 v (fun l' => ab_no2 x (fun x' => k (x' :: l')))
  | x :: y :: l, n + 2, v, k => ab_set2 (y :: l) (n + 1) v (fun l' => k (x :: l'))
def ab_up (i : ab_I) (q k : Nat) (x : Int32) : ab_I := fun a b => if a = q ∧ b = k then x else i a b
def ab_row (i : ab_I) (q : Nat) (f : Nat → Int32) : ab_I := fun a b => if a = q then f b else i a b
def ab_gr (g : ab_Sh) (q k : Nat) : Nat := g.1 q k
def ab_gt (g : ab_Sh) (q : Nat) : ab_Tg := g.2.1 q
def ab_gn (g : ab_Sh) : Nat := g.2.2
def ab_setr (g : ab_Sh) (q k y : Nat) : ab_Sh := (fun a b => if a = q ∧ b = k then y else ab_gr g a b, g.2)
def ab_new (g : ab_Sh) (t : ab_Tg) : ab_Sh := (fun a b => if a = ab_gn g then 0 else ab_gr g a b, fun a => if a = ab_gn g then t else ab_gt g a, ab_gn g + 1)
/-- the texts' bytes -/
def ab_txt : List (List Nat) := [[], [108, 115, 114, 104, 119], [102, 100, 109], [124], [38], [60, 61, 62], [43, 45], [42, 47, 37]]
def ab_txL (k : Nat) : Nat := (ab_txt.getD k []).length
def ab_txB (k j : Nat) : Int32 := nI ((ab_txt.getD k []).getD j 0)
/-- an index that lies in a row of so many -/
def ab_in (x : Int32) (n : Nat) : Prop := 0 ≤ x.toInt ∧ x.toInt < n
def ab_ixI (g : ab_Sh) (q : Nat) (x : Int32) : Prop := ∃ n, ab_gt g q = (100, n) ∧ ab_in x n
def ab_nz (x : Int32) : Prop := ¬ x = 0
abbrev ab_O : Type := Option Prop
def ab_one : ab_O → Prop
  | none => True
  | some p => p
def ab_cat : List Value → Nat
  | [] => 0
  | .long _ :: r => 2 + ab_cat r
  | .double _ :: r => 2 + ab_cat r
  | _ :: r => 1 + ab_cat r
/-- Math.max, min, abs -/
def ab_mx (x y : Int32) : Int32 := if x < y then y else x
def ab_mn (x y : Int32) : Int32 := if y < x then y else x
def ab_as (x : Int32) : Int32 := if 0 ≤ x then x else 0 - x
def ab_mnL (x y : Int64) : Int64 := if y < x then y else x
def ab_asL (x : Int64) : Int64 := if 0 < x then x else -x
/-- one step that neither branches nor calls nor makes a cell nor writes a reference, and what must hold for it -/
def ab_ex (ins : Instr) (nx a b c : Nat) (v : Int32) (T : ab_T) (ls : ab_L) (st : List Value) (i : ab_I) (g : ab_Sh) : Option (ab_C × ab_O) :=
  match ins with
  | .iload_n _ => (match ab_get ls a with | some (.int x) => some ((T, nx, ls, .int x :: st, i, g), none) | _ => none)
  | .iload _ => (match ab_get ls a with | some (.int x) => some ((T, nx, ls, .int x :: st, i, g), none) | _ => none)
  | .lload_n _ => (match ab_get ls a with | some (.long x) => some ((T, nx, ls, .long x :: st, i, g), none) | _ => none)
  | .lload _ => (match ab_get ls a with | some (.long x) => some ((T, nx, ls, .long x :: st, i, g), none) | _ => none)
  | .aload_n _ => (match ab_get ls a with | some (.ref x) => some ((T, nx, ls, .ref x :: st, i, g), none) | _ => none)
  | .aload _ => (match ab_get ls a with | some (.ref x) => some ((T, nx, ls, .ref x :: st, i, g), none) | _ => none)
  | .istore_n _ => (match st with | .int x :: r => ab_set ls a (.int x) (fun ls' => some ((T, nx, ls', r, i, g), none)) | _ => none)
  | .istore _ => (match st with | .int x :: r => ab_set ls a (.int x) (fun ls' => some ((T, nx, ls', r, i, g), none)) | _ => none)
  | .lstore_n _ => (match st with | .long x :: r => ab_set2 ls a (.long x) (fun ls' => some ((T, nx, ls', r, i, g), none)) | _ => none)
  | .lstore _ => (match st with | .long x :: r => ab_set2 ls a (.long x) (fun ls' => some ((T, nx, ls', r, i, g), none)) | _ => none)
  | .astore_n _ => (match st with | .ref x :: r => ab_set ls a (.ref x) (fun ls' => some ((T, nx, ls', r, i, g), none)) | _ => none)
  | .astore _ => (match st with | .ref x :: r => ab_set ls a (.ref x) (fun ls' => some ((T, nx, ls', r, i, g), none)) | _ => none)
  | .iinc _ _ => (match ab_get ls a with | some (.int x) => ab_set ls a (.int (x + v)) (fun ls' => some ((T, nx, ls', st, i, g), none)) | _ => none)
  | .iconst _ => some ((T, nx, ls, .int v :: st, i, g), none)
  | .bipush _ => some ((T, nx, ls, .int v :: st, i, g), none)
  | .sipush _ => some ((T, nx, ls, .int v :: st, i, g), none)
  | .ldc _ => (bif Nat.beq c 0 then some ((T, nx, ls, .int v :: st, i, g), none) else some ((T, nx, ls, .ref a :: st, i, g), none))
  | .ldc_w _ => some ((T, nx, ls, .int v :: st, i, g), none)
  | .lconst _ => some ((T, nx, ls, .long (lN a) :: st, i, g), none)
  | .ldc2_w _ => some ((T, nx, ls, .long (lN a) :: st, i, g), none)
  | .iadd => (match st with | .int y :: .int x :: r => some ((T, nx, ls, .int (x + y) :: r, i, g), none) | _ => none)
  | .isub => (match st with | .int y :: .int x :: r => some ((T, nx, ls, .int (x - y) :: r, i, g), none) | _ => none)
  | .imul => (match st with | .int y :: .int x :: r => some ((T, nx, ls, .int (x * y) :: r, i, g), none) | _ => none)
  | .iand => (match st with | .int y :: .int x :: r => some ((T, nx, ls, .int (x &&& y) :: r, i, g), none) | _ => none)
  | .ior => (match st with | .int y :: .int x :: r => some ((T, nx, ls, .int (x ||| y) :: r, i, g), none) | _ => none)
  | .ixor => (match st with | .int y :: .int x :: r => some ((T, nx, ls, .int (x ^^^ y) :: r, i, g), none) | _ => none)
  | .ishl => (match st with | .int y :: .int x :: r => some ((T, nx, ls, .int (x <<< (y &&& 31)) :: r, i, g), none) | _ => none)
  | .ishr => (match st with | .int y :: .int x :: r => some ((T, nx, ls, .int (x >>> (y &&& 31)) :: r, i, g), none) | _ => none)
  | .iushr => (match st with | .int y :: .int x :: r => some ((T, nx, ls, .int (x.toUInt32 >>> (y.toUInt32 &&& Int32.toUInt32 31)).toInt32 :: r, i, g), none) | _ => none)
  | .idiv => (match st with | .int y :: .int x :: r => some ((T, nx, ls, .int (x / y) :: r, i, g), some (ab_nz y)) | _ => none)
  | .irem => (match st with | .int y :: .int x :: r => some ((T, nx, ls, .int (x - x / y * y) :: r, i, g), some (ab_nz y)) | _ => none)
  | .ineg => (match st with | .int x :: r => some ((T, nx, ls, .int (-x) :: r, i, g), none) | _ => none)
  | .lsub => (match st with | .long y :: .long x :: r => some ((T, nx, ls, .long (x - y) :: r, i, g), none) | _ => none)
  | .land => (match st with | .long y :: .long x :: r => some ((T, nx, ls, .long (x &&& y) :: r, i, g), none) | _ => none)
  | .lor => (match st with | .long y :: .long x :: r => some ((T, nx, ls, .long (x ||| y) :: r, i, g), none) | _ => none)
  | .lneg => (match st with | .long x :: r => some ((T, nx, ls, .long (-x) :: r, i, g), none) | _ => none)
  | .lshl => (match st with | .int y :: .long x :: r => some ((T, nx, ls, .long (x <<< (y.toInt64 &&& 63)) :: r, i, g), none) | _ => none)
  | .lshr => (match st with | .int y :: .long x :: r => some ((T, nx, ls, .long (x >>> (y.toInt64 &&& 63)) :: r, i, g), none) | _ => none)
  | .lushr => (match st with | .int y :: .long x :: r => some ((T, nx, ls, .long (x.toUInt64 >>> (y.toInt64.toUInt64 &&& Int64.toUInt64 63)).toInt64 :: r, i, g), none) | _ => none)
  | .lcmp => (match st with | .long y :: .long x :: r => some ((T, nx, ls, .int (lg_cmp x y) :: r, i, g), none) | _ => none)
  | .i2l => (match st with | .int x :: r => some ((T, nx, ls, .long x.toInt64 :: r, i, g), none) | _ => none)
  | .l2i => (match st with | .long x :: r => some ((T, nx, ls, .int x.toInt32 :: r, i, g), none) | _ => none)
  | .i2b => (match st with | .int x :: r => some ((T, nx, ls, .int x.toInt8.toInt32 :: r, i, g), none) | _ => none)
  | .i2s => (match st with | .int x :: r => some ((T, nx, ls, .int x.toInt16.toInt32 :: r, i, g), none) | _ => none)
  | .i2c => (match st with | .int x :: r => some ((T, nx, ls, .int (x.toUInt32 % 65536).toInt32 :: r, i, g), none) | _ => none)
  | .dup => (match st with | .int x :: r => some ((T, nx, ls, .int x :: .int x :: r, i, g), none) | .ref x :: r => some ((T, nx, ls, .ref x :: .ref x :: r, i, g), none) | _ => none)
  | .dup2 => (match st with | .int y :: .ref x :: r => some ((T, nx, ls, .int y :: .ref x :: .int y :: .ref x :: r, i, g), none) | .int y :: .int x :: r => some ((T, nx, ls, .int y :: .int x :: .int y :: .int x :: r, i, g), none) | _ => none)
  | .pop => (match st with | .int _ :: r => some ((T, nx, ls, r, i, g), none) | .ref _ :: r => some ((T, nx, ls, r, i, g), none) | _ => none)
  | .goto _ => some ((T, a, ls, st, i, g), none)
  | .getstatic _ => some ((T, nx, ls, .int v :: st, i, g), none)
  | .getfield _ => (match st with
    | .ref q :: r => (match c with
      | 0 => some ((T, nx, ls, .int (i q a) :: r, i, g), some (ab_gt g q = (b, 0)))
      | 1 => some ((T, nx, ls, .ref (ab_gr g q a) :: r, i, g), some (ab_gt g q = (b, 0) ∧ ¬ ab_gr g q a = 0))
      | 2 => some ((T, nx, ls, .ref (999 + (i q a).toNatClampNeg) :: r, i, g), some (ab_gt g q = (b, 0) ∧ 0 < (i q a).toInt))
      | 3 => some ((T, nx, ls, .ref (q + 100) :: r, i, g), some (1000 ≤ q ∧ q < 1008))
      | 4 => some ((T, nx, ls, .int 0 :: r, i, g), some (1000 ≤ q ∧ q < 1008))
      | _ => none)
    | _ => none)
  | .putfield _ => (match st with
    | .int x :: .ref q :: r => (match c with
      | 0 => some ((T, nx, ls, r, ab_up i q a x, g), some (ab_gt g q = (b, 0)))
      | 5 => some ((T, nx, ls, r, ab_up i q a x, g), some (ab_gt g q = (b, 0) ∧ (x = nI 0 ∨ x = nI 1)))
      | _ => none)
    | .ref y :: .ref q :: r => (match c with
      | 2 => some ((T, nx, ls, r, ab_up i q a (nI (y - 999)), g), some (ab_gt g q = (b, 0) ∧ 1000 ≤ y ∧ y < 1008))
      | _ => none)
    | _ => none)
  | .iaload => (match st with
    | .int x :: .ref q :: r => (match c with
      | 0 => some ((T, nx, ls, .int (i q x.toNatClampNeg) :: r, i, g), some (ab_ixI g q x))
      | _ => some ((T, nx, ls, .int (i q x.toNatClampNeg) :: r, i, g), some (q = 1200 ∧ ab_in x (i 1201 0).toNatClampNeg)))
    | _ => none)
  | .baload => (match st with
    | .int x :: .ref q :: r => some ((T, nx, ls, .int (ab_txB (q - 1100) x.toNatClampNeg) :: r, i, g), some (1100 ≤ q ∧ q < 1108 ∧ ab_in x (ab_txL (q - 1100))))
    | _ => none)
  | .iastore => (match st with
    | .int y :: .int x :: .ref q :: r => some ((T, nx, ls, r, ab_up i q x.toNatClampNeg y, g), some (ab_ixI g q x))
    | _ => none)
  | .aaload => (match st with
    | .int x :: .ref q :: r => some ((T, nx, ls, .ref (ab_gr g q x.toNatClampNeg) :: r, i, g), some ((∃ n, ab_gt g q = (101 + b, n) ∧ ab_in x n) ∧ ¬ ab_gr g q x.toNatClampNeg = 0))
    | _ => none)
  | .arraylength => (match st with
    | .ref q :: r => (match c with
      | 0 => some ((T, nx, ls, .int (nI (ab_gt g q).2) :: r, i, g), some ((ab_gt g q).1 = 100))
      | 1 => some ((T, nx, ls, .int (i 1201 0) :: r, i, g), some (q = 1200))
      | 2 => some ((T, nx, ls, .int (nI (ab_txL (q - 1100))) :: r, i, g), some (1100 ≤ q ∧ q < 1108))
      | _ => some ((T, nx, ls, .int (nI (ab_gt g q).2) :: r, i, g), some ((ab_gt g q).1 = 101 + b)))
    | _ => none)
  | .invokespecial _ => (match st with
    | .ref _ :: r => (bif Nat.beq a 9999 then (bif Nat.ble (ab_cat r) 8 then some ((T, nx, ls, r, i, g), none) else none) else none)
    | _ => none)
  | .invokestatic _ => (bif Nat.beq a 9998 then (match st with
    | .int n :: .int dp :: .ref q1 :: .int sp :: .ref q0 :: r => (bif Nat.ble (ab_cat r) 8 then some ((T, nx, ls, r, ab_row i q1 (va_cpy (i q0) (i q1) sp.toNatClampNeg dp.toNatClampNeg n.toNatClampNeg), g), some (∃ n0 n1, ab_gt g q0 = (100, n0) ∧ ab_gt g q1 = (100, n1) ∧ 0 ≤ sp.toInt ∧ 0 ≤ dp.toInt ∧ 0 ≤ n.toInt ∧ sp.toInt + n.toInt ≤ n0 ∧ dp.toInt + n.toInt ≤ n1)) else none)
    | _ => none)
    else bif Nat.beq a 9990 then (match st with | .int y :: .int x :: r => (bif Nat.ble (ab_cat r) 8 then some ((T, nx, ls, .int (ab_mx x y) :: r, i, g), none) else none) | _ => none)
    else bif Nat.beq a 9991 then (match st with | .int y :: .int x :: r => (bif Nat.ble (ab_cat r) 8 then some ((T, nx, ls, .int (ab_mn x y) :: r, i, g), none) else none) | _ => none)
    else bif Nat.beq a 9992 then (match st with | .int x :: r => (bif Nat.ble (ab_cat r) 8 then some ((T, nx, ls, .int (ab_as x) :: r, i, g), none) else none) | _ => none)
    else bif Nat.beq a 9993 then (match st with | .long y :: .long x :: r => (bif Nat.ble (ab_cat r) 8 then some ((T, nx, ls, .long (ab_mnL x y) :: r, i, g), none) else none) | _ => none)
    else bif Nat.beq a 9994 then (match st with | .long x :: r => (bif Nat.ble (ab_cat r) 8 then some ((T, nx, ls, .long (ab_asL x) :: r, i, g), none) else none) | _ => none)
    else none)
  | _ => none
def ab_stp : ab_C → Option (ab_C × ab_O)
  | (T, pc, ls0, st, i, g) => match ab_lk T pc with
    | none => none
    | some (ins, nx, a, b, c, v, _, lm) => ab_mk lm ls0 (fun ls => ab_ex ins nx a b c v T ls st i g)
/-- steps that make cells or write references: what it becomes, what must hold, cells and slots made -/
def ab_alc : ab_C → Option (ab_C × Prop × Nat × Nat)
  | (T, pc, ls0, st, i, g) => match ab_lk T pc with
    | none => none
    | some (ins, nx, a, b, c, _, _, lm) => ab_mk lm ls0 (fun ls => match ins with
      | .new _ => some ((T, nx, ls, .ref (ab_gn g) :: st, ab_row i (ab_gn g) (fun _ => 0), ab_new g (b, 0)), ab_gn g < 900, 1, a)
      | .newarray _ => (match st with
        | .int n :: r => some ((T, nx, ls, .ref (ab_gn g) :: r, ab_row i (ab_gn g) (fun _ => 0), ab_new g (100, n.toNatClampNeg)), ab_gn g < 900 ∧ 0 ≤ n.toInt ∧ n.toInt ≤ 1000, 1, n.toNatClampNeg)
        | _ => none)
      | .anewarray _ => (match st with
        | .int n :: r => some ((T, nx, ls, .ref (ab_gn g) :: r, ab_row i (ab_gn g) (fun _ => 0), ab_new g (101 + b, n.toNatClampNeg)), ab_gn g < 900 ∧ 0 ≤ n.toInt ∧ n.toInt ≤ 1000, 1, n.toNatClampNeg)
        | _ => none)
      | .putfield _ => (match st with
        | .ref y :: .ref q :: r => (match c with
          | 1 => some ((T, nx, ls, r, i, ab_setr g q a y), ab_gt g q = (b, 0) ∧ ¬ y = 0, 0, 0)
          | _ => none)
        | _ => none)
      | .aastore => (match st with
        | .ref y :: .int x :: .ref q :: r => some ((T, nx, ls, r, i, ab_setr g q x.toNatClampNeg y), (∃ n, ab_gt g q = (101 + b, n) ∧ ab_in x n) ∧ ab_gt g y = (b, 0) ∧ ¬ y = 0 ∧ y < ab_gn g, 0, 0)
        | _ => none)
      | _ => none)
def ab_sw : List (Int32 × Nat) → Nat → Int32 → Nat
  | [], d, _ => d
  | (k, t) :: r, d, x => if x = k then t else ab_sw r d x
/-- a branch: when it is taken, where it goes, where else -/
def ab_brn : ab_C → Option (Prop × ab_C × ab_C)
  | (T, pc, ls0, st, i, g) => match ab_lk T pc with
    | none => none
    | some (ins, nx, a, _, _, _, _, lm) => ab_mk lm ls0 (fun ls => match ins with
      | .ifCond cd _ => (match st with
        | .int x :: r => (match cd with
          | .eq => some (x = nI 0, (T, a, ls, r, i, g), (T, nx, ls, r, i, g))
          | .ne => some (¬ x = nI 0, (T, a, ls, r, i, g), (T, nx, ls, r, i, g))
          | .lt => some (x < nI 0, (T, a, ls, r, i, g), (T, nx, ls, r, i, g))
          | .ge => some (nI 0 ≤ x, (T, a, ls, r, i, g), (T, nx, ls, r, i, g))
          | .gt => some (nI 0 < x, (T, a, ls, r, i, g), (T, nx, ls, r, i, g))
          | .le => some (x ≤ nI 0, (T, a, ls, r, i, g), (T, nx, ls, r, i, g)))
        | _ => none)
      | .if_icmp cd _ => (match st with
        | .int y :: .int x :: r => (match cd with
          | .eq => some (x = y, (T, a, ls, r, i, g), (T, nx, ls, r, i, g))
          | .ne => some (¬ x = y, (T, a, ls, r, i, g), (T, nx, ls, r, i, g))
          | .lt => some (x < y, (T, a, ls, r, i, g), (T, nx, ls, r, i, g))
          | .ge => some (y ≤ x, (T, a, ls, r, i, g), (T, nx, ls, r, i, g))
          | .gt => some (y < x, (T, a, ls, r, i, g), (T, nx, ls, r, i, g))
          | .le => some (x ≤ y, (T, a, ls, r, i, g), (T, nx, ls, r, i, g)))
        | _ => none)
      | _ => none)
def ab_swi : ab_C → Option ab_C
  | (T, pc, ls0, st, i, g) => match ab_lk T pc with
    | none => none
    | some (ins, _, a, _, _, _, sw, lm) => ab_mk lm ls0 (fun ls => match ins with
      | .tableswitch _ _ _ _ => (match st with | .int x :: r => some (T, ab_sw sw a x, ls, r, i, g) | _ => none)
      | .lookupswitch _ _ => (match st with | .int x :: r => some (T, ab_sw sw a x, ls, r, i, g) | _ => none)
      | _ => none)
/-- a return: its value, what must hold -/
def ab_rtn : ab_C → Option (Option Value × Prop)
  | (T, pc, _, st, _, _) => match ab_lk T pc with
    | none => none
    | some (ins, _, _, _, c, _, _, _) => (match ins with
      | .return_ => (match st with | [] => some (none, True) | _ => none)
      | .ireturn => (match st with
        | [.int x] => (match c with
          | 0 => some (some (.int x), True)
          | 5 => some (some (.int x), x = nI 0 ∨ x = nI 1)
          | 6 => some (some (.int x), (x.toUInt32 % 65536).toInt32 = x)
          | _ => some (some (.int x), x.toInt8.toInt32 = x))
        | _ => none)
      | .lreturn => (match st with | [.long x] => some (some (.long x), True) | _ => none)
      | .areturn => (match st with | [.ref x] => some (some (.ref x), True) | _ => none)
      | _ => none)
/-- the n topmost values, the topmost last -/
def ab_pop {α : Type} : Nat → List Value → List Value → (List Value → List Value → Option α) → Option α
  | 0, st, as, k => k as st
  | n + 1, v :: st, as, k => ab_pop n st (v :: as) k
  | _ + 1, [], _, _ => none
/-- a call: which method, its arguments, what must hold; and where it goes on -/
def ab_cal : ab_C → Option (Nat × List Value × Prop × ab_T × Nat × ab_L × List Value)
  | (T, pc, ls0, st, _, g) => match ab_lk T pc with
    | none => none
    | some (ins, nx, a, b, c, _, _, lm) => ab_mk lm ls0 (fun ls => match ins with
      | .invokestatic _ => (bif Nat.ble 9000 a then none else ab_pop b st [] (fun as r => bif Nat.ble (ab_cat r) 8 then some (a, as, True, T, nx, ls, r) else none))
      | .invokespecial _ => (bif Nat.ble 9000 a then none else ab_pop b st [] (fun as r => match r with | .ref q :: r' => (bif Nat.ble (ab_cat r') 8 then some (a, .ref q :: as, True, T, nx, ls, r') else none) | _ => none))
      | .invokevirtual _ => ab_pop b st [] (fun as r => match r with
        | .ref q :: r' => (bif Nat.ble (ab_cat r') 8 then some (a, .ref q :: as, (bif Nat.beq c 100 then 1000 ≤ q ∧ q < 1008 else ab_gt g q = (c, 0)), T, nx, ls, r') else none)
        | _ => none)
      | _ => none)
def ab_arg : List Value → ab_L
  | [] => []
  | .long x :: r => some (.long x) :: none :: ab_arg r
  | .double x :: r => some (.double x) :: none :: ab_arg r
  | v :: r => some v :: ab_arg r
def ab_pad : Nat → ab_L → ab_L
  | 0, l => l
  | n + 1, [] => none :: ab_pad n []
  | n + 1, x :: l => x :: ab_pad n l
/-! what a run says: the least relation that is closed under the steps -/
abbrev ab_Q : Type := Option Value → ab_I → ab_Sh → Prop
abbrev ab_J : Type := Nat → Nat → Nat → ab_C → ab_Q → Prop
def ab_i (c : ab_C) : ab_I := c.2.2.2.2.1
def ab_g (c : ab_C) : ab_Sh := c.2.2.2.2.2
/-- a method: its name, code, how many locals, what it returns, its table -/
abbrev ab_M : Type := MethodName × ByteArray × Nat × Option FieldType × ab_T
def ab_ent (P : List ab_M) (mi : Nat) (as : List Value) (i : ab_I) (g : ab_Sh) : Option ab_C := match P[mi]? with
  | some (_, _, ml, _, T) => (bif Nat.ble (ab_arg as).length ml then some (T, 0, ab_pad ml (ab_arg as), [], i, g) else none)
  | none => none
def ab_St (P : List ab_M) (R : ab_J) (d kc ks : Nat) (c : ab_C) (Q : ab_Q) : Prop :=
  (∃ c' O, ab_stp c = some (c', O) ∧ ab_one O ∧ R d kc ks c' Q) ∨
  (∃ c' O u w kc' ks', ab_alc c = some (c', O, u, w) ∧ O ∧ kc = u + kc' ∧ ks = w + ks' ∧ R d kc' ks' c' Q) ∨
  (∃ p c1 c2, ab_brn c = some (p, c1, c2) ∧ (p → R d kc ks c1 Q) ∧ (¬ p → R d kc ks c2 Q)) ∨
  (∃ c', ab_swi c = some c' ∧ R d kc ks c' Q) ∨
  (∃ v O, ab_rtn c = some (v, O) ∧ O ∧ kc = 0 ∧ ks = 0 ∧ Q v (ab_i c) (ab_g c)) ∨
  (∃ mi as O T pc ls r d' k1 s1 k2 s2 e Q1, ab_cal c = some (mi, as, O, T, pc, ls, r) ∧ O ∧ d' < d ∧ kc = k1 + k2 ∧ ks = s1 + s2 ∧ ab_ent P mi as (ab_i c) (ab_g c) = some e ∧ R d' k1 s1 e Q1 ∧
    ∀ v i' g', Q1 v i' g' → R d k2 s2 (T, pc, ls, v.toList ++ r, i', g') Q)
def ab_Cl (P : List ab_M) (R : ab_J) : Prop := ∀ d kc ks c Q, ab_St P R d kc ks c Q → R d kc ks c Q
def ab_Ok (P : List ab_M) (d kc ks : Nat) (c : ab_C) (Q : ab_Q) : Prop := ∀ R : ab_J, ab_Cl P R → R d kc ks c Q
theorem ab_Ok_cl {P : List ab_M} : ab_Cl P (ab_Ok P) := by
  intro d kc ks c Q h R hR
  refine hR d kc ks c Q ?_
  rcases h with ⟨c', O, h1, h2, h3⟩ | ⟨c', O, u, w, kc', ks', h1, h2, h3, h4, h5⟩ | ⟨p, c1, c2, h1, h2, h3⟩ | ⟨c', h1, h2⟩ | ⟨v, O, h1, h2, hz1, hz2, h3⟩ | ⟨mi, as, O, T, pc, ls, r, d', k1, s1, k2, s2, e, Q1, h1, h2, h3, h4, h5, h6, h7, h8⟩
  · exact Or.inl ⟨c', O, h1, h2, h3 R hR⟩
  · exact Or.inr (Or.inl ⟨c', O, u, w, kc', ks', h1, h2, h3, h4, h5 R hR⟩)
  · exact Or.inr (Or.inr (Or.inl ⟨p, c1, c2, h1, fun q => h2 q R hR, fun q => h3 q R hR⟩))
  · exact Or.inr (Or.inr (Or.inr (Or.inl ⟨c', h1, h2 R hR⟩)))
  · exact Or.inr (Or.inr (Or.inr (Or.inr (Or.inl ⟨v, O, h1, h2, hz1, hz2, h3⟩))))
  · exact Or.inr (Or.inr (Or.inr (Or.inr (Or.inr ⟨mi, as, O, T, pc, ls, r, d', k1, s1, k2, s2, e, Q1, h1, h2, h3, h4, h5, h6, h7 R hR, fun v i' g' q => h8 v i' g' q R hR⟩))))
theorem ab_Ok_mono {P : List ab_M} {d kc ks : Nat} {c : ab_C} {Q : ab_Q} (h : ab_Ok P d kc ks c Q) {Q' : ab_Q} (hq : ∀ v i g, Q v i g → Q' v i g) : ab_Ok P d kc ks c Q' := by
  refine h (fun d kc ks c Q => ∀ Q' : ab_Q, (∀ v i g, Q v i g → Q' v i g) → ab_Ok P d kc ks c Q') ?_ Q' hq
  intro d kc ks c Q h Q' hq
  refine ab_Ok_cl d kc ks c Q' ?_
  rcases h with ⟨c', O, h1, h2, h3⟩ | ⟨c', O, u, w, kc', ks', h1, h2, h3, h4, h5⟩ | ⟨p, c1, c2, h1, h2, h3⟩ | ⟨c', h1, h2⟩ | ⟨v, O, h1, h2, hz1, hz2, h3⟩ | ⟨mi, as, O, T, pc, ls, r, d', k1, s1, k2, s2, e, Q1, h1, h2, h3, h4, h5, h6, h7, h8⟩
  · exact Or.inl ⟨c', O, h1, h2, h3 Q' hq⟩
  · exact Or.inr (Or.inl ⟨c', O, u, w, kc', ks', h1, h2, h3, h4, h5 Q' hq⟩)
  · exact Or.inr (Or.inr (Or.inl ⟨p, c1, c2, h1, fun q => h2 q Q' hq, fun q => h3 q Q' hq⟩))
  · exact Or.inr (Or.inr (Or.inr (Or.inl ⟨c', h1, h2 Q' hq⟩)))
  · exact Or.inr (Or.inr (Or.inr (Or.inr (Or.inl ⟨v, O, h1, h2, hz1, hz2, hq _ _ _ h3⟩))))
  · exact Or.inr (Or.inr (Or.inr (Or.inr (Or.inr ⟨mi, as, O, T, pc, ls, r, d', k1, s1, k2, s2, e, Q1, h1, h2, h3, h4, h5, h6, h7 Q1 (fun _ _ _ q => q), fun v i' g' q => h8 v i' g' q Q' hq⟩))))
theorem ab_Ok_deep {P : List ab_M} {d d2 kc ks : Nat} {c : ab_C} {Q : ab_Q} (h : ab_Ok P d kc ks c Q) (hd : d ≤ d2) : ab_Ok P d2 kc ks c Q := by
  refine h (fun d kc ks c Q => ∀ d2, d ≤ d2 → ab_Ok P d2 kc ks c Q) ?_ d2 hd
  intro d kc ks c Q h d2 hd
  refine ab_Ok_cl d2 kc ks c Q ?_
  rcases h with ⟨c', O, h1, h2, h3⟩ | ⟨c', O, u, w, kc', ks', h1, h2, h3, h4, h5⟩ | ⟨p, c1, c2, h1, h2, h3⟩ | ⟨c', h1, h2⟩ | ⟨v, O, h1, h2, hz1, hz2, h3⟩ | ⟨mi, as, O, T, pc, ls, r, d', k1, s1, k2, s2, e, Q1, h1, h2, h3, h4, h5, h6, h7, h8⟩
  · exact Or.inl ⟨c', O, h1, h2, h3 d2 hd⟩
  · exact Or.inr (Or.inl ⟨c', O, u, w, kc', ks', h1, h2, h3, h4, h5 d2 hd⟩)
  · exact Or.inr (Or.inr (Or.inl ⟨p, c1, c2, h1, fun q => h2 q d2 hd, fun q => h3 q d2 hd⟩))
  · exact Or.inr (Or.inr (Or.inr (Or.inl ⟨c', h1, h2 d2 hd⟩)))
  · exact Or.inr (Or.inr (Or.inr (Or.inr (Or.inl ⟨v, O, h1, h2, hz1, hz2, h3⟩))))
  · exact Or.inr (Or.inr (Or.inr (Or.inr (Or.inr ⟨mi, as, O, T, pc, ls, r, d', k1, s1, k2, s2, e, Q1, h1, h2, Nat.lt_of_lt_of_le h3 hd, h4, h5, h6, h7 d' (Nat.le_refl _), fun v i' g' q => h8 v i' g' q d2 hd⟩))))
/-- many plain steps at once -/
def ab_go : Nat → ab_C → List Prop → ab_C × List Prop
  | 0, c, P => (c, P)
  | n + 1, c, P => match ab_stp c with
    | none => (c, P)
    | some (c', none) => ab_go n c' P
    | some (c', some p) => ab_go n c' (p :: P)
def ab_all : List Prop → Prop
  | [] => True
  | [p] => p
  | p :: q :: l => p ∧ ab_all (q :: l)
theorem ab_all_cons {p : Prop} {l : List Prop} (h : ab_all (p :: l)) : p ∧ ab_all l := by
  cases l with
  | nil => exact ⟨h, trivial⟩
  | cons q l => exact h
theorem ab_go_all {n : Nat} : ∀ {c c' : ab_C} {P P' : List Prop}, ab_go n c P = (c', P') → ab_all P' → ab_all P := by
  induction n with
  | zero => intro c c' P P' h hp; cases h; exact hp
  | succ n ih =>
    intro c c' P P' h hp
    unfold ab_go at h
    split at h
    · cases h; exact hp
    · exact ih h hp
    · exact (ab_all_cons (ih h hp)).2
theorem ab_go_ok {Pg : List ab_M} {n : Nat} : ∀ {d kc ks : Nat} {c c' : ab_C} {P P' : List Prop} {Q : ab_Q}, ab_go n c P = (c', P') → ab_all P' → ab_Ok Pg d kc ks c' Q → ab_Ok Pg d kc ks c Q := by
  induction n with
  | zero => intro d kc ks c c' P P' Q h hp k; cases h; exact k
  | succ n ih =>
    intro d kc ks c c' P P' Q h hp k
    unfold ab_go at h
    split at h
    · cases h; exact k
    · rename_i e; exact ab_Ok_cl _ _ _ _ _ (Or.inl ⟨_, _, e, trivial, ih h hp k⟩)
    · rename_i e; exact ab_Ok_cl _ _ _ _ _ (Or.inl ⟨_, _, e, (ab_all_cons (ab_go_all h hp)).1, ih h hp k⟩)
