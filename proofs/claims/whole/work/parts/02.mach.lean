/-! ===== the small machine: values, locals, cells by abstract addresses ===== -/
abbrev MI : Type := MethodName × ByteArray × Nat × Option FieldType × Nat × Nat × Nat
abbrev AH : Type := Nat × Nat × (Nat → va_E)
abbrev LX : Type := List (Option Value)
abbrev Cf : Type := MI × Nat × Nat × LX × List Value
def isL : Option Value → Bool
  | some (.long _) => true
  | some (.double _) => true
  | _ => false
def lget : LX → Nat → Option Value
  | [], _ => none
  | a :: _, 0 => a
  | _ :: t, n + 1 => lget t n
def ls1 : LX → Nat → Value → LX
  | [], 0, v => [some v]
  | [], n + 1, v => none :: ls1 [] n v
  | _ :: t, 0, v => some v :: t
  | a :: t, n + 1, v => (if n = 0 ∧ isL a = true then none else a) :: ls1 t n v
def ls2 : LX → Nat → Value → LX
  | [], 0, v => [some v]
  | [], n + 1, v => none :: ls2 [] n v
  | [_], 0, v => [some v]
  | _ :: _ :: t, 0, v => some v :: none :: t
  | a :: t, n + 1, v => (if n = 0 ∧ isL a = true then none else a) :: ls2 t n v
def ent : List Value → LX
  | [] => []
  | v :: t => if isL (some v) = true then some v :: none :: ent t else some v :: ent t
def pushR : Option Value → List Value → List Value
  | none, st => st
  | some v, st => v :: st
def stOK (st : List Value) : Bool := decide ((st.map fun v => v.category).sum ≤ 8)
def spl : Nat → List Value → List Value → Option (List Value × List Value)
  | 0, acc, st => some (acc, st)
  | n + 1, acc, v :: st => spl n (v :: acc) st
  | _ + 1, _, [] => none
def ob {α β : Type} : Option α → (α → Option β) → Option β
  | none, _ => none
  | some a, f => f a
theorem ob_some {α β : Type} (a : α) (f : α → Option β) : ob (some a) f = f a := rfl
theorem ob_none {α β : Type} (f : α → Option β) : ob none f = none := rfl
def hg (w : AH) (a : Nat) : va_E := w.2.2 a
def hs (w : AH) (a : Nat) (e : va_E) : AH := (w.1, w.2.1, fun j => if j = a then e else w.2.2 j)
def hn (w : AH) (e : va_E) (n : Nat) : AH := (w.1 + 1, w.2.1 + n, fun j => if j = w.1 then e else w.2.2 j)
theorem hg_hs (w : AH) (a b : Nat) (e : va_E) : hg (hs w a e) b = if b = a then e else hg w b := rfl
theorem hg_hn (w : AH) (b n : Nat) (e : va_E) : hg (hn w e n) b = if b = w.1 then e else hg w b := rfl
def pI1 (f : Int32 → Value) : List Value → Option (List Value)
  | .int x :: r => some (f x :: r)
  | _ => none
def pI2 (f : Int32 → Int32 → Option Value) : List Value → Option (List Value)
  | .int y :: .int x :: r => (f x y).map (· :: r)
  | _ => none
def pJ1 (f : Int64 → Value) : List Value → Option (List Value)
  | .long x :: r => some (f x :: r)
  | _ => none
def pJ2 (f : Int64 → Int64 → Value) : List Value → Option (List Value)
  | .long y :: .long x :: r => some (f x y :: r)
  | _ => none
def pJI (f : Int64 → Int32 → Value) : List Value → Option (List Value)
  | .int y :: .long x :: r => some (f x y :: r)
  | _ => none
/-- constants, arithmetic, the stack: length and new stack -/
def sA (i : Instr) (st : List Value) : Option (Nat × List Value) := match i with
  | .iconst n => some (1, .int (Int32.ofInt n) :: st)
  | .bipush n => some (2, .int (Int8.ofInt n).toInt32 :: st)
  | .sipush n => some (3, .int (Int16.ofInt n).toInt32 :: st)
  | .lconst n => some (1, .long (Int64.ofNat (n : Nat)) :: st)
  | .aconst_null => some (1, .null :: st)
  | .iadd => (pI2 (fun x y => some (.int (x + y))) st).map (fun s => (1, s))
  | .isub => (pI2 (fun x y => some (.int (x - y))) st).map (fun s => (1, s))
  | .imul => (pI2 (fun x y => some (.int (x * y))) st).map (fun s => (1, s))
  | .iand => (pI2 (fun x y => some (.int (x &&& y))) st).map (fun s => (1, s))
  | .ior => (pI2 (fun x y => some (.int (x ||| y))) st).map (fun s => (1, s))
  | .ixor => (pI2 (fun x y => some (.int (x ^^^ y))) st).map (fun s => (1, s))
  | .idiv => (pI2 (fun x y => if y = 0 then none else some (.int (x / y))) st).map (fun s => (1, s))
  | .irem => (pI2 (fun x y => if y = 0 then none else some (.int (x - x / y * y))) st).map (fun s => (1, s))
  | .ishl => (pI2 (fun x y => some (.int (x <<< (y &&& 31)))) st).map (fun s => (1, s))
  | .ishr => (pI2 (fun x y => some (.int (x >>> (y &&& 31)))) st).map (fun s => (1, s))
  | .iushr => (pI2 (fun x y => some (.int (x.toUInt32 >>> (y.toUInt32 &&& Int32.toUInt32 31)).toInt32)) st).map (fun s => (1, s))
  | .ineg => (pI1 (fun x => .int (-x)) st).map (fun s => (1, s))
  | .i2l => (pI1 (fun x => .long x.toInt64) st).map (fun s => (1, s))
  | .i2b => (pI1 (fun x => .int x.toInt8.toInt32) st).map (fun s => (1, s))
  | .i2s => (pI1 (fun x => .int x.toInt16.toInt32) st).map (fun s => (1, s))
  | .i2c => (pI1 (fun x => .int (x.toUInt32 % 65536).toInt32) st).map (fun s => (1, s))
  | .l2i => (pJ1 (fun x => .int x.toInt32) st).map (fun s => (1, s))
  | .lneg => (pJ1 (fun x => .long (-x)) st).map (fun s => (1, s))
  | .ladd => (pJ2 (fun x y => .long (x + y)) st).map (fun s => (1, s))
  | .lsub => (pJ2 (fun x y => .long (x - y)) st).map (fun s => (1, s))
  | .land => (pJ2 (fun x y => .long (x &&& y)) st).map (fun s => (1, s))
  | .lor => (pJ2 (fun x y => .long (x ||| y)) st).map (fun s => (1, s))
  | .lxor => (pJ2 (fun x y => .long (x ^^^ y)) st).map (fun s => (1, s))
  | .lcmp => (pJ2 (fun x y => .int (lg_cmp x y)) st).map (fun s => (1, s))
  | .lshl => (pJI (fun x y => .long (x <<< (y.toInt64 &&& 63))) st).map (fun s => (1, s))
  | .lshr => (pJI (fun x y => .long (x >>> (y.toInt64 &&& 63))) st).map (fun s => (1, s))
  | .lushr => (pJI (fun x y => .long (x.toUInt64 >>> (y.toInt64.toUInt64 &&& Int64.toUInt64 63)).toInt64) st).map (fun s => (1, s))
  | .dup => match st with
    | v :: r => if v.category = 1 then some (1, v :: v :: r) else none
    | [] => none
  | .dup2 => match st with
    | v :: u :: r => if v.category = 1 ∧ u.category = 1 then some (1, v :: u :: v :: u :: r) else none
    | _ => none
  | .pop => match st with
    | v :: r => if v.category = 1 then some (1, r) else none
    | [] => none
  | _ => none
def ldI (l : LX) (i n : Nat) (st : List Value) : Option (Nat × LX × List Value) := match lget l i with
  | some (.int x) => some (n, l, .int x :: st)
  | _ => none
def ldJ (l : LX) (i n : Nat) (st : List Value) : Option (Nat × LX × List Value) := match lget l i with
  | some (.long x) => some (n, l, .long x :: st)
  | _ => none
def ldA (l : LX) (i n : Nat) (st : List Value) : Option (Nat × LX × List Value) := match lget l i with
  | some (.ref x) => some (n, l, .ref x :: st)
  | some .null => some (n, l, .null :: st)
  | _ => none
def stI (l : LX) (i n mL : Nat) : List Value → Option (Nat × LX × List Value)
  | .int x :: r => if i < mL then some (n, ls1 l i (.int x), r) else none
  | _ => none
def stJ (l : LX) (i n mL : Nat) : List Value → Option (Nat × LX × List Value)
  | .long x :: r => if i + 1 < mL then some (n, ls2 l i (.long x), r) else none
  | _ => none
def stA (l : LX) (i n mL : Nat) : List Value → Option (Nat × LX × List Value)
  | .ref x :: r => if i < mL then some (n, ls1 l i (.ref x), r) else none
  | .null :: r => if i < mL then some (n, ls1 l i .null, r) else none
  | _ => none
/-- locals -/
def sM (i : Instr) (mL : Nat) (l : LX) (st : List Value) : Option (Nat × LX × List Value) := match i with
  | .iload_n k => ldI l k 1 st
  | .iload k => ldI l k 2 st
  | .lload_n k => ldJ l k 1 st
  | .lload k => ldJ l k 2 st
  | .aload_n k => ldA l k 1 st
  | .aload k => ldA l k 2 st
  | .istore_n k => stI l k 1 mL st
  | .istore k => stI l k 2 mL st
  | .lstore_n k => stJ l k 1 mL st
  | .lstore k => stJ l k 2 mL st
  | .astore_n k => stA l k 1 mL st
  | .astore k => stA l k 2 mL st
  | .iinc k n => match lget l k with
    | some (.int x) => if k < mL then some (3, ls1 l k (.int (x + Int32.ofInt n)), st) else none
    | _ => none
  | _ => none
def tg (pc : Nat) (off : Int) (st : List Value) : Option (Nat × List Value) := if 0 ≤ (pc : Int) + off then some (((pc : Int) + off).toNat, st) else none
def br (b : Bool) (pc n : Nat) (off : Int) (st : List Value) : Option (Nat × List Value) := if b = true then tg pc off st else some (pc + n, st)
/-- branches: the next place -/
def sB (i : Instr) (n pc : Nat) (st : List Value) : Option (Nat × List Value) := match i with
  | .goto off => if n = 3 then tg pc off st else none
  | .ifCond c off => match st with
    | .int x :: r => if n = 3 then (match c with
      | .eq => br (decide (x = 0)) pc 3 off r
      | .ne => br (decide (¬ x = 0)) pc 3 off r
      | .lt => br (decide (x < 0)) pc 3 off r
      | .ge => br (decide (0 ≤ x)) pc 3 off r
      | .gt => br (decide (0 < x)) pc 3 off r
      | .le => br (decide (x ≤ 0)) pc 3 off r) else none
    | _ => none
  | .if_icmp c off => match st with
    | .int y :: .int x :: r => if n = 3 then (match c with
      | .eq => br (decide (x = y)) pc 3 off r
      | .ne => br (decide (¬ x = y)) pc 3 off r
      | .lt => br (decide (x < y)) pc 3 off r
      | .ge => br (decide (y ≤ x)) pc 3 off r
      | .gt => br (decide (y < x)) pc 3 off r
      | .le => br (decide (x ≤ y)) pc 3 off r) else none
    | _ => none
  | .ifnull off => match st with
    | .ref _ :: r => if n = 3 then some (pc + 3, r) else none
    | .null :: r => if n = 3 then tg pc off r else none
    | _ => none
  | .ifnonnull off => match st with
    | .ref _ :: r => if n = 3 then tg pc off r else none
    | .null :: r => if n = 3 then some (pc + 3, r) else none
    | _ => none
  | .tableswitch dflt lo hi offs => match st with
    | .int x :: r => if x.toInt < lo ∨ hi < x.toInt then tg pc dflt r else (match offs[(x.toInt - lo).toNat]? with
      | some off => tg pc off r
      | none => none)
    | _ => none
  | .lookupswitch dflt ps => match st with
    | .int x :: r => if (ps.toList.zip (ps.toList.drop 1)).all (fun q => decide (q.1.1 < q.2.1)) = true then tg pc (Op.lookupswitch.offset ps.toList dflt x.toInt) r else none
    | _ => none
  | _ => none
