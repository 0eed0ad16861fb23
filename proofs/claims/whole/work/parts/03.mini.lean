/-! THE SMALL MACHINE: what the methods' code does, as a function: cells by their number, ints, longs and references apart. 'mm_run n d y M pc lv st': at most n steps, d calls deep -/
abbrev mm_M : Type := (Nat → Nat → Int32) × (Nat → Nat → Int64) × (Nat → Nat → Option Nat) × Nat × Nat × Nat
abbrev mm_L : Type := List (Nat × Value)
abbrev mm_R : Type := Option Value × mm_M
def mm_up {α : Type} (f : Nat → Nat → α) (a k : Nat) (v : α) : Nat → Nat → α := fun i j => if i = a ∧ j = k then v else f i j
def mm_ur {α : Type} (f : Nat → Nat → α) (a : Nat) (v : α) : Nat → Nat → α := fun i j => if i = a then v else f i j
def mm_nth {α : Type} : List α → Nat → Option α
  | [], _ => none
  | x :: _, 0 => some x
  | _ :: l, n + 1 => mm_nth l n
def mm_lg : mm_L → Nat → Option Value
  | [], _ => none
  | (j, v) :: l, i => bif Nat.beq j i then some v else mm_lg l i
def mm_s1 (i : Nat) (v : Value) (l : mm_L) : mm_L := (i, v) :: l.filter (fun q => !(q.1 == i) && !(q.1 + 1 == i && q.2.category == 2))
def mm_s2 (i : Nat) (v : Value) (l : mm_L) : mm_L := (i, v) :: l.filter (fun q => !(q.1 == i) && (!(q.1 == i + 1) && !(q.1 + 1 == i && q.2.category == 2)))
def mm_tg (pc : Nat) (off : Int) : Nat := ((pc : Int) + off).toNat
/-- the arrays that stand before the law's start: the script, and the four tables of Land -/
def mm_xb : Nat := 1000000
def mm_xf (L : Nat) (xs : Nat → Int32) (e : Nat) : Nat × (Nat → Int32) :=
  bif Nat.beq e 0 then (L, xs) else
  bif Nat.beq e 1 then (10, fun j => bif Nat.beq j 0 then 119 else bif Nat.beq j 1 then 104 else bif Nat.beq j 2 then 121 else bif Nat.beq j 3 then 102 else bif Nat.beq j 4 then 107 else bif Nat.beq j 5 then 100 else bif Nat.beq j 6 then 118 else bif Nat.beq j 7 then 115 else bif Nat.beq j 8 then 112 else 109) else
  bif Nat.beq e 2 then (10, fun j => bif Nat.blt j 5 then 115 else bif Nat.beq j 5 then 114 else 116) else
  bif Nat.beq e 3 then (10, fun j => bif Nat.beq j 0 then 1 else bif Nat.beq j 1 then 1 else bif Nat.beq j 2 then 1 else bif Nat.beq j 6 then 1 else 0) else
  (10, fun j => bif Nat.beq j 0 then 6 else bif Nat.beq j 1 then 4 else bif Nat.beq j 2 then 24 else bif Nat.beq j 3 then 9 else bif Nat.beq j 4 then 99 else bif Nat.beq j 5 then 9 else bif Nat.beq j 6 then 99 else bif Nat.beq j 7 then 5 else bif Nat.beq j 8 then 23 else 99)
section MM
variable (XL : Nat) (xs : Nat → Int32)
/-- what a field or a place of an array holds -/
def mm_gf (M : mm_M) (ty : FieldType) (a k : Nat) : Value := match ty with
  | .long => .long (M.2.1 a k)
  | .int => .int (M.1 a k)
  | .boolean => .int (M.1 a k)
  | _ => va_rf (M.2.2.1 a k)
def mm_pi (M : mm_M) (a k : Nat) (v : Int32) : mm_M := (mm_up M.1 a k v, M.2)
def mm_pl (M : mm_M) (a k : Nat) (v : Int64) : mm_M := (M.1, mm_up M.2.1 a k v, M.2.2)
def mm_pr (M : mm_M) (a k : Nat) (v : Option Nat) : mm_M := (M.1, M.2.1, mm_up M.2.2.1 a k v, M.2.2.2)
/-- one instruction that is no call -/
def mm_ex (y : Nat) (en : mm_En) (M : mm_M) (pc : Nat) (lv : mm_L) (st : List Value) (k : mm_M → Nat → mm_L → List Value → Option mm_R) (cal : Nat → List Value → (Option Value → mm_M → Option mm_R) → Option mm_R) : Option mm_R :=
  match en.1 with
  | .aconst_null => k M (pc + 1) lv (.null :: st)
  | .iconst n => k M (pc + 1) lv (.int (Int32.ofInt n) :: st)
  | .bipush n => k M (pc + 2) lv (.int (Int8.ofInt n).toInt32 :: st)
  | .sipush n => k M (pc + 3) lv (.int (Int16.ofInt n).toInt32 :: st)
  | .lconst n => k M (pc + 1) lv (.long (Int64.ofNat (n : Nat)) :: st)
  | .ldc _ => k M (pc + 2) lv (.int (Int32.ofInt en.2.2.2.2) :: st)
  | .ldc_w _ => k M (pc + 3) lv (.int (Int32.ofInt en.2.2.2.2) :: st)
  | .ldc2_w _ => k M (pc + 3) lv (.long (Int64.ofInt en.2.2.2.2) :: st)
  | .iload_n n => match mm_lg lv n with | some (.int x) => k M (pc + 1) lv (.int x :: st) | _ => none
  | .iload n => match mm_lg lv n with | some (.int x) => k M (pc + 2) lv (.int x :: st) | _ => none
  | .lload_n n => match mm_lg lv n with | some (.long x) => k M (pc + 1) lv (.long x :: st) | _ => none
  | .lload n => match mm_lg lv n with | some (.long x) => k M (pc + 2) lv (.long x :: st) | _ => none
  | .aload_n n => match mm_lg lv n with | some (.ref x) => k M (pc + 1) lv (.ref x :: st) | some .null => k M (pc + 1) lv (.null :: st) | _ => none
  | .aload n => match mm_lg lv n with | some (.ref x) => k M (pc + 2) lv (.ref x :: st) | some .null => k M (pc + 2) lv (.null :: st) | _ => none
  | .istore_n n => match st with | .int x :: st => bif Nat.blt n (mm_nl y) then k M (pc + 1) (mm_s1 n (.int x) lv) st else none | _ => none
  | .istore n => match st with | .int x :: st => bif Nat.blt n (mm_nl y) then k M (pc + 2) (mm_s1 n (.int x) lv) st else none | _ => none
  | .lstore_n n => match st with | .long x :: st => bif Nat.blt (n + 1) (mm_nl y) then k M (pc + 1) (mm_s2 n (.long x) lv) st else none | _ => none
  | .lstore n => match st with | .long x :: st => bif Nat.blt (n + 1) (mm_nl y) then k M (pc + 2) (mm_s2 n (.long x) lv) st else none | _ => none
  | .astore_n n => match st with
    | .ref x :: st => bif Nat.blt n (mm_nl y) then k M (pc + 1) (mm_s1 n (.ref x) lv) st else none
    | .null :: st => bif Nat.blt n (mm_nl y) then k M (pc + 1) (mm_s1 n .null lv) st else none
    | _ => none
  | .astore n => match st with
    | .ref x :: st => bif Nat.blt n (mm_nl y) then k M (pc + 2) (mm_s1 n (.ref x) lv) st else none
    | .null :: st => bif Nat.blt n (mm_nl y) then k M (pc + 2) (mm_s1 n .null lv) st else none
    | _ => none
  | .iinc n c => match mm_lg lv n with | some (.int x) => bif Nat.blt n (mm_nl y) then k M (pc + 3) (mm_s1 n (.int (x + Int32.ofInt c)) lv) st else none | _ => none
  | .pop => match st with | .int _ :: st => k M (pc + 1) lv st | _ => none
  | .dup => match st with
    | .int x :: st => k M (pc + 1) lv (.int x :: .int x :: st)
    | .ref x :: st => k M (pc + 1) lv (.ref x :: .ref x :: st)
    | _ => none
  | .dup2 => match st with
    | .int x :: .ref a :: st => k M (pc + 1) lv (.int x :: .ref a :: .int x :: .ref a :: st)
    | _ => none
  | .iadd => match st with | .int y :: .int x :: st => k M (pc + 1) lv (.int (x + y) :: st) | _ => none
  | .isub => match st with | .int y :: .int x :: st => k M (pc + 1) lv (.int (x - y) :: st) | _ => none
  | .imul => match st with | .int y :: .int x :: st => k M (pc + 1) lv (.int (x * y) :: st) | _ => none
  | .iand => match st with | .int y :: .int x :: st => k M (pc + 1) lv (.int (x &&& y) :: st) | _ => none
  | .ior => match st with | .int y :: .int x :: st => k M (pc + 1) lv (.int (x ||| y) :: st) | _ => none
  | .ixor => match st with | .int y :: .int x :: st => k M (pc + 1) lv (.int (x ^^^ y) :: st) | _ => none
  | .ishl => match st with | .int y :: .int x :: st => k M (pc + 1) lv (.int (x <<< (y &&& 31)) :: st) | _ => none
  | .ishr => match st with | .int y :: .int x :: st => k M (pc + 1) lv (.int (x >>> (y &&& 31)) :: st) | _ => none
  | .iushr => match st with | .int y :: .int x :: st => k M (pc + 1) lv (.int (x.toUInt32 >>> (y.toUInt32 &&& Int32.toUInt32 31)).toInt32 :: st) | _ => none
  | .idiv => match st with | .int y :: .int x :: st => if y = 0 then none else k M (pc + 1) lv (.int (x / y) :: st) | _ => none
  | .irem => match st with | .int y :: .int x :: st => if y = 0 then none else k M (pc + 1) lv (.int (x - x / y * y) :: st) | _ => none
  | .ineg => match st with | .int x :: st => k M (pc + 1) lv (.int (-x) :: st) | _ => none
  | .ladd => match st with | .long y :: .long x :: st => k M (pc + 1) lv (.long (x + y) :: st) | _ => none
  | .lsub => match st with | .long y :: .long x :: st => k M (pc + 1) lv (.long (x - y) :: st) | _ => none
  | .lmul => match st with | .long y :: .long x :: st => k M (pc + 1) lv (.long (x * y) :: st) | _ => none
  | .land => match st with | .long y :: .long x :: st => k M (pc + 1) lv (.long (x &&& y) :: st) | _ => none
  | .lor => match st with | .long y :: .long x :: st => k M (pc + 1) lv (.long (x ||| y) :: st) | _ => none
  | .lxor => match st with | .long y :: .long x :: st => k M (pc + 1) lv (.long (x ^^^ y) :: st) | _ => none
  | .ldiv => match st with | .long y :: .long x :: st => if y = 0 then none else k M (pc + 1) lv (.long (x / y) :: st) | _ => none
  | .lrem => match st with | .long y :: .long x :: st => if y = 0 then none else k M (pc + 1) lv (.long (x - x / y * y) :: st) | _ => none
  | .lshl => match st with | .int y :: .long x :: st => k M (pc + 1) lv (.long (x <<< (y.toInt64 &&& 63)) :: st) | _ => none
  | .lushr => match st with | .int y :: .long x :: st => k M (pc + 1) lv (.long (x.toUInt64 >>> (y.toInt64.toUInt64 &&& Int64.toUInt64 63)).toInt64 :: st) | _ => none
  | .lcmp => match st with | .long y :: .long x :: st => k M (pc + 1) lv (.int (lg_cmp x y) :: st) | _ => none
  | .i2l => match st with | .int x :: st => k M (pc + 1) lv (.long x.toInt64 :: st) | _ => none
  | .l2i => match st with | .long x :: st => k M (pc + 1) lv (.int x.toInt32 :: st) | _ => none
  | .goto off => k M (mm_tg pc off) lv st
  | .ifCond .eq off => match st with | .int x :: st => if x = 0 then k M (mm_tg pc off) lv st else k M (pc + 3) lv st | _ => none
  | .ifCond .ne off => match st with | .int x :: st => if x = 0 then k M (pc + 3) lv st else k M (mm_tg pc off) lv st | _ => none
  | .ifCond .lt off => match st with | .int x :: st => if x < 0 then k M (mm_tg pc off) lv st else k M (pc + 3) lv st | _ => none
  | .ifCond .ge off => match st with | .int x :: st => if x < 0 then k M (pc + 3) lv st else k M (mm_tg pc off) lv st | _ => none
  | .ifCond .gt off => match st with | .int x :: st => if x ≤ 0 then k M (pc + 3) lv st else k M (mm_tg pc off) lv st | _ => none
  | .ifCond .le off => match st with | .int x :: st => if x ≤ 0 then k M (mm_tg pc off) lv st else k M (pc + 3) lv st | _ => none
  | .if_icmp .eq off => match st with | .int y :: .int x :: st => if x = y then k M (mm_tg pc off) lv st else k M (pc + 3) lv st | _ => none
  | .if_icmp .ne off => match st with | .int y :: .int x :: st => if x = y then k M (pc + 3) lv st else k M (mm_tg pc off) lv st | _ => none
  | .if_icmp .lt off => match st with | .int y :: .int x :: st => if x < y then k M (mm_tg pc off) lv st else k M (pc + 3) lv st | _ => none
  | .if_icmp .ge off => match st with | .int y :: .int x :: st => if x < y then k M (pc + 3) lv st else k M (mm_tg pc off) lv st | _ => none
  | .if_icmp .gt off => match st with | .int y :: .int x :: st => if x ≤ y then k M (pc + 3) lv st else k M (mm_tg pc off) lv st | _ => none
  | .if_icmp .le off => match st with | .int y :: .int x :: st => if x ≤ y then k M (mm_tg pc off) lv st else k M (pc + 3) lv st | _ => none
  | .ifnull off => match st with | .null :: st => k M (mm_tg pc off) lv st | .ref _ :: st => k M (pc + 3) lv st | _ => none
  | .ifnonnull off => match st with | .null :: st => k M (pc + 3) lv st | .ref _ :: st => k M (mm_tg pc off) lv st | _ => none
  | .tableswitch dflt lo hi offs => match st with
    | .int x :: st => if x.toInt < lo ∨ hi < x.toInt then k M (mm_tg pc dflt) lv st else match offs[(x.toInt - lo).toNat]? with | some off => k M (mm_tg pc off) lv st | none => none
    | _ => none
  | .lookupswitch dflt ps => match st with
    | .int x :: st => k M (mm_tg pc (Op.lookupswitch.offset ps.toList dflt x.toInt)) lv st
    | _ => none
  | .getfield _ => match st with
    | .ref a :: st => bif Nat.beq (mm_kd a).1 en.2.2.1 then (bif Nat.blt en.2.2.2.1 (mm_N en.2.2.1) then (bif Nat.blt a M.2.2.2.1 then k M (pc + 3) lv (mm_gf M (mm_ty en.2.2.1 en.2.2.2.1) a en.2.2.2.1 :: st) else none) else none) else none
    | _ => none
  | .putfield _ => match st with
    | v :: .ref a :: st => bif Nat.beq (mm_kd a).1 en.2.2.1 then (bif Nat.blt en.2.2.2.1 (mm_N en.2.2.1) then (bif Nat.blt a M.2.2.2.1 then (bif !(mm_T en.2.2.1 en.2.2.2.1).2.2.2 || (mm_in y && Nat.beq (mm_oc y) en.2.2.1) then (match mm_ty en.2.2.1 en.2.2.2.1, v with
      | .int, .int x => k (mm_pi M a en.2.2.2.1 x) (pc + 3) lv st
      | .boolean, .int x => if x = 0 ∨ x = 1 then k (mm_pi M a en.2.2.2.1 x) (pc + 3) lv st else none
      | .long, .long x => k (mm_pl M a en.2.2.2.1 x) (pc + 3) lv st
      | .object _, .ref b => k (mm_pr M a en.2.2.2.1 (some b)) (pc + 3) lv st
      | .array _, .ref b => k (mm_pr M a en.2.2.2.1 (some b)) (pc + 3) lv st
      | _, _ => none) else none) else none) else none) else none
    | _ => none
  | .getstatic _ => k M (pc + 3) lv (.ref (mm_xb + en.2.2.1) :: st)
  | .arraylength => match st with
    | .ref a :: st => bif Nat.blt a mm_xb then (bif Nat.blt (mm_kd a).1 20 then none else bif Nat.blt (mm_kd a).1 60 then (bif Nat.blt a M.2.2.2.1 then k M (pc + 1) lv (.int (Int32.ofNat (mm_kd a).2) :: st) else none) else none) else k M (pc + 1) lv (.int (Int32.ofNat (mm_xf XL xs (a - mm_xb)).1) :: st)
    | _ => none
  | .iaload => match st with
    | .int i :: .ref a :: st => bif Nat.blt a mm_xb then (bif Nat.beq (mm_kd a).1 20 then (bif Nat.blt a M.2.2.2.1 then (if i < 0 ∨ (mm_kd a).2 ≤ i.toNatClampNeg then none else k M (pc + 1) lv (.int (M.1 a i.toNatClampNeg) :: st)) else none) else none)
      else if i < 0 ∨ (mm_xf XL xs (a - mm_xb)).1 ≤ i.toNatClampNeg then none else k M (pc + 1) lv (.int ((mm_xf XL xs (a - mm_xb)).2 i.toNatClampNeg) :: st)
    | _ => none
  | .baload => match st with
    | .int i :: .ref a :: st => bif Nat.beq (mm_kd a).1 22 then (bif Nat.blt a M.2.2.2.1 then (if i < 0 ∨ (mm_kd a).2 ≤ i.toNatClampNeg then none else k M (pc + 1) lv (.int (M.1 a i.toNatClampNeg) :: st)) else none) else none
    | _ => none
  | .laload => match st with
    | .int i :: .ref a :: st => bif Nat.beq (mm_kd a).1 21 then (bif Nat.blt a M.2.2.2.1 then (if i < 0 ∨ (mm_kd a).2 ≤ i.toNatClampNeg then none else k M (pc + 1) lv (.long (M.2.1 a i.toNatClampNeg) :: st)) else none) else none
    | _ => none
  | .aaload => match st with
    | .int i :: .ref a :: st => bif Nat.blt (mm_kd a).1 30 then none else bif Nat.blt (mm_kd a).1 60 then (bif Nat.blt a M.2.2.2.1 then (if i < 0 ∨ (mm_kd a).2 ≤ i.toNatClampNeg then none else k M (pc + 1) lv (va_rf (M.2.2.1 a i.toNatClampNeg) :: st)) else none) else none
    | _ => none
  | .iastore => match st with
    | .int x :: .int i :: .ref a :: st => bif Nat.beq (mm_kd a).1 20 then (bif Nat.blt a M.2.2.2.1 then (if i < 0 ∨ (mm_kd a).2 ≤ i.toNatClampNeg then none else k (mm_pi M a i.toNatClampNeg x) (pc + 1) lv st) else none) else none
    | _ => none
  | .bastore => match st with
    | .int x :: .int i :: .ref a :: st => bif Nat.beq (mm_kd a).1 22 then (bif Nat.blt a M.2.2.2.1 then (if i < 0 ∨ (mm_kd a).2 ≤ i.toNatClampNeg then none else if x = 0 ∨ x = 1 then k (mm_pi M a i.toNatClampNeg x) (pc + 1) lv st else none) else none) else none
    | _ => none
  | .lastore => match st with
    | .long x :: .int i :: .ref a :: st => bif Nat.beq (mm_kd a).1 21 then (bif Nat.blt a M.2.2.2.1 then (if i < 0 ∨ (mm_kd a).2 ≤ i.toNatClampNeg then none else k (mm_pl M a i.toNatClampNeg x) (pc + 1) lv st) else none) else none
    | _ => none
  | .aastore => match st with
    | .ref v :: .int i :: .ref a :: st => bif Nat.beq (mm_kd a).1 (30 + (mm_kd v).1) then (bif Nat.blt (mm_kd v).1 12 then (bif Nat.blt a M.2.2.2.1 then (bif Nat.blt v M.2.2.2.1 then (if i < 0 ∨ (mm_kd a).2 ≤ i.toNatClampNeg then none else k (mm_pr M a i.toNatClampNeg (some v)) (pc + 1) lv st) else none) else none) else none) else none
    | _ => none
  | .new _ => bif Nat.beq M.2.2.2.1 M.2.2.2.2.1 then (bif Nat.beq (mm_kd M.2.2.2.1).1 en.2.2.1 then (bif Nat.blt en.2.2.1 12 then k (mm_ur M.1 M.2.2.2.1 0, mm_ur M.2.1 M.2.2.2.1 0, mm_ur M.2.2.1 M.2.2.2.1 none, M.2.2.2.1 + 1, M.2.2.2.2.1 + 1, M.2.2.2.2.2 + mm_N en.2.2.1) (pc + 3) lv (.ref M.2.2.2.1 :: st) else none) else none) else none
  | .newarray aty => match st with
    | .int n :: st => bif Nat.beq M.2.2.2.1 M.2.2.2.2.1 then (bif Nat.beq (mm_kd M.2.2.2.1).1 (match aty with | .int => 20 | .long => 21 | .boolean => 22 | _ => 98) then (bif Nat.beq (mm_kd M.2.2.2.1).2 n.toNatClampNeg then (if n < 0 then none else k (mm_ur M.1 M.2.2.2.1 0, mm_ur M.2.1 M.2.2.2.1 0, mm_ur M.2.2.1 M.2.2.2.1 none, M.2.2.2.1 + 1, M.2.2.2.2.1 + 1, M.2.2.2.2.2 + n.toNatClampNeg) (pc + 2) lv (.ref M.2.2.2.1 :: st)) else none) else none) else none
    | _ => none
  | .anewarray _ => match st with
    | .int n :: st => bif Nat.beq M.2.2.2.1 M.2.2.2.2.1 then (bif Nat.beq (mm_kd M.2.2.2.1).1 (30 + en.2.2.1) then (bif Nat.beq (mm_kd M.2.2.2.1).2 n.toNatClampNeg then (if n < 0 then none else k (mm_ur M.1 M.2.2.2.1 0, mm_ur M.2.1 M.2.2.2.1 0, mm_ur M.2.2.1 M.2.2.2.1 none, M.2.2.2.1 + 1, M.2.2.2.2.1 + 1, M.2.2.2.2.2 + n.toNatClampNeg) (pc + 3) lv (.ref M.2.2.2.1 :: st)) else none) else none) else none
    | _ => none
  | .invokespecial _ => bif Nat.beq en.2.2.1 9999 then (match st with | .ref _ :: st => bif Nat.ble (st.map fun v => v.category).sum 8 then k M (pc + 3) lv st else none | _ => none) else
    match st.drop en.2.2.2.1 with
    | .ref a :: rest => bif Nat.ble (rest.map fun v => v.category).sum 8 then cal en.2.2.1 (.ref a :: (st.take en.2.2.2.1).reverse) (fun r M => k M (pc + 3) lv (r.toList ++ rest)) else none
    | _ => none
  | .invokevirtual _ =>
    match st.drop en.2.2.2.1 with
    | .ref a :: rest => bif Nat.beq (mm_kd a).1 (mm_oc en.2.2.1) then (bif Nat.blt a M.2.2.2.1 then (bif Nat.ble (rest.map fun v => v.category).sum 8 then cal en.2.2.1 (.ref a :: (st.take en.2.2.2.1).reverse) (fun r M => k M (pc + 3) lv (r.toList ++ rest)) else none) else none) else none
    | _ => none
  | .invokestatic _ => bif Nat.ble en.2.2.2.1 st.length then (bif Nat.ble ((st.drop en.2.2.2.1).map fun v => v.category).sum 8 then cal en.2.2.1 (st.take en.2.2.2.1).reverse (fun r M => k M (pc + 3) lv (r.toList ++ st.drop en.2.2.2.1)) else none) else none
  | .ireturn => match st with
    | [.int v] => (match mm_rt y with | some .int => some (some (.int v), M) | some .boolean => if v = 0 ∨ v = 1 then some (some (.int v), M) else none | _ => none)
    | _ => none
  | .lreturn => match st with | [.long v] => (match mm_rt y with | some .long => some (some (.long v), M) | _ => none) | _ => none
  | .areturn => match st with
    | [.ref v] => (match mm_rt y with | some (.object _) => some (some (.ref v), M) | _ => none)
    | [.null] => (match mm_rt y with | some (.object _) => some (some .null, M) | _ => none)
    | _ => none
  | .return_ => match st with | [] => (match mm_rt y with | none => some (none, M) | _ => none) | _ => none
  | _ => none
/-- the law's own 'thing': BuriedGoods.thing, its exception caught. rc: what 'find' answers -/
def mm_th (rc : mm_M → List Value → Option mm_R) (M : mm_M) (args : List Value) : Option mm_R := match args with
  | [.ref x, .int p0, .int p1, .ref o] => bif Nat.beq (mm_kd x).1 10 && Nat.blt x M.2.2.2.1 && Nat.beq (mm_kd o).1 21 && Nat.blt 0 (mm_kd o).2 && Nat.blt o M.2.2.2.1 then
      (match M.2.2.1 x 5 with
      | some now => bif Nat.beq (mm_kd now).1 7 && Nat.blt now M.2.2.2.1 then (rc M [.ref now, .int p0]).bind fun r => match r.1 with
        | some .null => some (some (.int 1), (r.2.1, r.2.2.1, r.2.2.2.1, r.2.2.2.2.1, r.2.2.2.2.2.1 + 1, r.2.2.2.2.2.2 + 6))
        | some (.ref t) => bif Nat.beq (mm_kd t).1 9 && Nat.blt t r.2.2.2.2.1 && Nat.blt o r.2.2.2.2.1 then (if p1 < 0 ∨ 4 < p1 then some (some (.int 1), (r.2.1, r.2.2.1, r.2.2.2.1, r.2.2.2.2.1, r.2.2.2.2.2.1 + 1, r.2.2.2.2.2.2 + 6))
            else some (some (.int 0), mm_pl r.2 o 0 (if p1 = 0 then r.2.1 t 1 else if p1 = 1 then r.2.1 t 2 else if p1 = 2 then r.2.1 t 3 else if p1 = 3 then r.2.1 t 4 else if r.2.1 t 3 = -1 then 0 else if r.2.1 t 5 = 0 then 0 else 1).toInt64)) else none
        | _ => none
        else none
      | none => none) else none
  | _ => none
def mm_run : Nat → Nat → Nat → mm_M → Nat → mm_L → List Value → Option mm_R
  | 0, _, _, _, _, _, _ => none
  | n + 1, d, y, M, pc, lv, st => match mm_nth (mm_cd y) pc with
    | some (some en) => mm_ex XL xs y en M pc lv st (fun M pc lv st => mm_run n d y M pc lv st)
        (fun y' args k => match d with
          | 0 => none
          | d' + 1 => (bif Nat.ble (args.map fun v => v.category).sum (mm_nl y') then bif Nat.beq y' 310 then (bif Nat.blt 8 d' then mm_th (fun M as => mm_run n 1 69 M 0 (lv_args 0 as) []) M args else none) else mm_run n d' y' M 0 (lv_args 0 args) [] else none).bind fun r => k r.1 r.2)
    | _ => none
end MM
