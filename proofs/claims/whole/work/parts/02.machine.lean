def zup (I : Nat → Nat → Int32) (t : Nat) (f : Nat → Int32) : Nat → Nat → Int32 := fun j => if j = t then f else I j
def zin (i : Int32) (n : Nat) : Bool := decide (¬ i < 0) && decide (i.toNatClampNeg < n)
def zgo (pc : Nat) (ls st : List Value) (m : zM) : zRes := some (.inl (pc, ls, st, m))
def zi2 (pc : Nat) (ls : List Value) (m : zM) (f : Int32 → Int32 → Int32) (st : List Value) : zRes := match st with
  | .int y :: .int x :: st => zgo (pc + 1) ls (.int (f x y) :: st) m
  | _ => none
def zl2 (pc : Nat) (ls : List Value) (m : zM) (f : Int64 → Int64 → Value) (st : List Value) : zRes := match st with
  | .long y :: .long x :: st => zgo (pc + 1) ls (f x y :: st) m
  | _ => none
def zl1 (pc : Nat) (ls : List Value) (m : zM) (f : Int64 → Int32 → Int64) (st : List Value) : zRes := match st with
  | .int y :: .long x :: st => zgo (pc + 1) ls (.long (f x y) :: st) m
  | _ => none
def zbr (pc : Nat) (ls : List Value) (m : zM) (off : Int) (c : Bool) (st : List Value) : zRes :=
  if 0 ≤ (pc : Int) + off then zgo (cond c ((pc : Int) + off).toNat (pc + 3)) ls st m else none
def zcmp (c : ClassFile.Cond) (x y : Int32) : Bool := match c with
  | .eq => decide (x = y)
  | .ne => decide (¬ x = y)
  | .lt => decide (x < y)
  | .ge => decide (y ≤ x)
  | .gt => decide (y < x)
  | .le => decide (x ≤ y)
def zld (k pc n : Nat) (ls st : List Value) (m : zM) : zRes := match ls[k]? with
  | some (.int x) => zgo (pc + n) ls (.int x :: st) m
  | _ => none
def zldl (k pc n : Nat) (ls st : List Value) (m : zM) : zRes := match ls[k]? with
  | some (.long x) => zgo (pc + n) ls (.long x :: st) m
  | _ => none
def zlda (k pc n : Nat) (ls st : List Value) (m : zM) : zRes := match ls[k]? with
  | some (.ref x) => zgo (pc + n) ls (.ref x :: st) m
  | _ => none
/-- no long begins one place ahead -/
def zfree (ls : List Value) (k : Nat) : Bool := match k with
  | 0 => true
  | k + 1 => match ls[k]? with
    | some v => decide (v.category = 1)
    | none => true
def zst (k pc n : Nat) (ls st : List Value) (m : zM) : zRes := match st with
  | .int x :: st => if k < ls.length ∧ zfree ls k = true then zgo (pc + n) (ls.set k (.int x)) st m else none
  | _ => none
def zsta (k pc n : Nat) (ls st : List Value) (m : zM) : zRes := match st with
  | .ref x :: st => if k < ls.length ∧ zfree ls k = true then zgo (pc + n) (ls.set k (.ref x)) st m else none
  | _ => none
def zstl (k pc n : Nat) (ls st : List Value) (m : zM) : zRes := match st with
  | .long x :: st => if k + 1 < ls.length ∧ zfree ls k = true then zgo (pc + n) ((ls.set k (.long x)).set (k + 1) .null) st m else none
  | _ => none
def zinc (k : Nat) (d : Int) (pc : Nat) (ls st : List Value) (m : zM) : zRes := match ls[k]? with
  | some (.int x) => if zfree ls k = true then zgo (pc + 3) (ls.set k (.int (x + Int32.ofInt d))) st m else none
  | _ => none
def zKi (m : zM) (t : Nat) : Nat := m.2.1.getD t 50
def zLe (m : zM) (t : Nat) : Nat := m.2.2.1.getD t 0
def zRf (m : zM) (t k : Nat) : Nat := (m.2.2.2.1.getD t []).getD k 0
def zI (m : zM) : Nat → Nat → Int32 := m.2.2.2.2
def zsI (m : zM) (t : Nat) (f : Nat → Int32) : zM := (m.1, m.2.1, m.2.2.1, m.2.2.2.1, zup m.2.2.2.2 t f)
def zsR (m : zM) (t k u : Nat) : zM := (m.1, m.2.1, m.2.2.1, m.2.2.2.1.set t ((m.2.2.2.1.getD t []).set k u), m.2.2.2.2)
def zalloc (m : zM) (kd n : Nat) : zM := (m.1 + n, m.2.1 ++ [kd], m.2.2.1 ++ [n], m.2.2.2.1 ++ [List.replicate n 0], zup m.2.2.2.2 m.2.1.length (fun _ => 0))
/-- the three lists speak of the same cells -/
def zwf (m : zM) : Bool := decide (m.2.2.1.length = m.2.1.length) && decide (m.2.2.2.1.length = m.2.1.length) && decide (0 < m.2.1.length)
/-- a field: ci its kind of object, k its place -/
def zget (ci k pc : Nat) (ls st : List Value) (m : zM) : zRes := match st with
  | .ref t :: st => if t ≠ 0 ∧ zKi m t = ci + 3 ∧ k < zLe m t then
      (match zFk ci k with
        | 2 => if zRf m t k = 0 then none else zgo (pc + 3) ls (.ref (zRf m t k) :: st) m
        | _ => zgo (pc + 3) ls (.int (zI m t k) :: st) m)
      else none
  | _ => none
def zput (ci k pc : Nat) (ls st : List Value) (m : zM) : zRes := match st with
  | .int x :: .ref t :: st => if t ≠ 0 ∧ zKi m t = ci + 3 ∧ k < zLe m t ∧ (zFk ci k = 0 ∨ zFk ci k = 1 ∧ (x = 0 ∨ x = 1)) then
      zgo (pc + 3) ls st (zsI m t (upd (zI m t) k x)) else none
  | .ref u :: .ref t :: st => if t ≠ 0 ∧ zKi m t = ci + 3 ∧ k < zLe m t ∧ zFk ci k = 2 ∧ u ≠ 0 ∧ k < (m.2.2.2.1.getD t []).length ∧ t < m.2.2.2.1.length then
      zgo (pc + 3) ls st (zsR m t k u) else none
  | _ => none
def ziald (X : Nat × (Nat → Int32)) (pc : Nat) (ls st : List Value) (m : zM) : zRes := match st with
  | .int i :: .ref t :: st => if t = 0 then (if zKi m 0 = 99 ∧ zin i X.1 = true then zgo (pc + 1) ls (.int (X.2 i.toNatClampNeg) :: st) m else none)
      else if zKi m t = 0 ∧ zin i (zLe m t) = true then zgo (pc + 1) ls (.int (zI m t i.toNatClampNeg) :: st) m else none
  | _ => none
def zbald (pc : Nat) (ls st : List Value) (m : zM) : zRes := match st with
  | .int i :: .ref t :: st => if t ≠ 0 ∧ zKi m t = 1 ∧ zin i (zLe m t) = true then zgo (pc + 1) ls (.int (zI m t i.toNatClampNeg) :: st) m else none
  | _ => none
def zaald (pc : Nat) (ls st : List Value) (m : zM) : zRes := match st with
  | .int i :: .ref t :: st => if t ≠ 0 ∧ zKi m t = 2 ∧ zin i (zLe m t) = true ∧ zRf m t i.toNatClampNeg ≠ 0 then zgo (pc + 1) ls (.ref (zRf m t i.toNatClampNeg) :: st) m else none
  | _ => none
def ziast (pc : Nat) (ls st : List Value) (m : zM) : zRes := match st with
  | .int x :: .int i :: .ref t :: st => if t ≠ 0 ∧ zKi m t = 0 ∧ zin i (zLe m t) = true then zgo (pc + 1) ls st (zsI m t (upd (zI m t) i.toNatClampNeg x)) else none
  | _ => none
def zbast (pc : Nat) (ls st : List Value) (m : zM) : zRes := match st with
  | .int x :: .int i :: .ref t :: st => if t ≠ 0 ∧ zKi m t = 1 ∧ zin i (zLe m t) = true ∧ (x = 0 ∨ x = 1) then zgo (pc + 1) ls st (zsI m t (upd (zI m t) i.toNatClampNeg x)) else none
  | _ => none
def zaast (pc : Nat) (ls st : List Value) (m : zM) : zRes := match st with
  | .ref u :: .int i :: .ref t :: st => if t ≠ 0 ∧ zKi m t = 2 ∧ zin i (zLe m t) = true ∧ u ≠ 0 ∧ zKi m u = 4 + 3 ∧ i.toNatClampNeg < (m.2.2.2.1.getD t []).length ∧ t < m.2.2.2.1.length then zgo (pc + 1) ls st (zsR m t i.toNatClampNeg u) else none
  | _ => none
def zalen (X : Nat × (Nat → Int32)) (pc : Nat) (ls st : List Value) (m : zM) : zRes := match st with
  | .ref t :: st => if t = 0 then (if zKi m 0 = 99 then zgo (pc + 1) ls (.int (Int32.ofNat X.1) :: st) m else none)
      else if zKi m t < 3 then zgo (pc + 1) ls (.int (Int32.ofNat (zLe m t)) :: st) m else none
  | _ => none
def znewa (kd pc n : Nat) (ls st : List Value) (m : zM) : zRes := match st with
  | .int x :: st => if ¬ x < 0 ∧ x.toNatClampNeg ≤ 100000 ∧ zwf m = true then zgo (pc + n) ls (.ref m.2.1.length :: st) (zalloc m kd x.toNatClampNeg) else none
  | _ => none
def znew (ci pc : Nat) (ls st : List Value) (m : zM) : zRes := if zwf m = true then zgo (pc + 3) ls (.ref m.2.1.length :: st) (zalloc m (ci + 3) (zNf ci)) else none
def zacopy (pc : Nat) (ls st : List Value) (m : zM) : zRes := match st with
  | .int n :: .int dp :: .ref d :: .int sp :: .ref t :: st => if t ≠ 0 ∧ d ≠ 0 ∧ zKi m t = 0 ∧ zKi m d = 0 ∧ ¬ sp < 0 ∧ ¬ dp < 0 ∧ ¬ n < 0 ∧ sp.toNatClampNeg + n.toNatClampNeg ≤ zLe m t ∧ dp.toNatClampNeg + n.toNatClampNeg ≤ zLe m d ∧ st = [] then
      zgo (pc + 3) ls st (zsI m d (va_cpy (zI m t) (zI m d) sp.toNatClampNeg dp.toNatClampNeg n.toNatClampNeg)) else none
  | _ => none
def zmin (pc : Nat) (ls st : List Value) (m : zM) : zRes := match st with
  | .int y :: .int x :: st => if (st.map fun v => v.category).sum ≤ 8 then zgo (pc + 3) ls (.int (if y < x then y else x) :: st) m else none
  | _ => none
def zoinit (pc : Nat) (ls st : List Value) (m : zM) : zRes := match st with
  | .ref _ :: st => if (st.map fun v => v.category).sum ≤ 8 then zgo (pc + 3) ls st m else none
  | _ => none
def zEn (k : Nat) (args : List Value) : List Value := (args.flatMap fun v => if v.category = 2 then [v, .null] else [v]) ++ List.replicate (zL k - (args.flatMap fun v => if v.category = 2 then [v, Value.null] else [v]).length) .null
def zrcv (k : Nat) (st : List Value) (m : zM) : Bool := match (st.take (zA k)).getLast? with
  | some (.ref t) => decide (t ≠ 0) && decide (zKi m t = zCn k + 3)
  | _ => false
/-- a call of the method k: its arguments (the receiver first), what is left of the stack -/
def zcall (k : Nat) (st : List Value) (m : zM) : zRes :=
  if zA k ≤ st.length ∧ ((st.drop (zA k)).map fun v => v.category).sum ≤ 8 ∧ k < 187 ∧ 0 < m.2.1.length ∧ (zEn k (st.take (zA k)).reverse).length = zL k ∧
    (zSt k = true ∨ zrcv k st m = true) then some (.inr (.inr (k, (st.take (zA k)).reverse, st.drop (zA k)))) else none
def zret (y : Nat) (st : List Value) (m : zM) : zRes := match st with
  | [.int v] => (match zRt y with
    | some .int => some (.inr (.inl (some (.int v), m)))
    | some .boolean => if v = 0 ∨ v = 1 then some (.inr (.inl (some (.int v), m))) else none
    | _ => none)
  | _ => none
def zins (X : Nat × (Nat → Int32)) (y : Nat) (r : zRow) (pc : Nat) (ls st : List Value) (m : zM) : zRes := match r.1 with
  | .aload_n k => zlda k pc 1 ls st m
  | .aload k => zlda k pc 2 ls st m
  | .iload_n k => zld k pc 1 ls st m
  | .iload k => zld k pc 2 ls st m
  | .lload_n k => zldl k pc 1 ls st m
  | .lload k => zldl k pc 2 ls st m
  | .istore_n k => zst k pc 1 ls st m
  | .istore k => zst k pc 2 ls st m
  | .astore_n k => zsta k pc 1 ls st m
  | .astore k => zsta k pc 2 ls st m
  | .lstore_n k => zstl k pc 1 ls st m
  | .lstore k => zstl k pc 2 ls st m
  | .iconst n => zgo (pc + 1) ls (.int (Int32.ofInt n) :: st) m
  | .bipush n => zgo (pc + 2) ls (.int (Int8.ofInt n).toInt32 :: st) m
  | .sipush n => zgo (pc + 3) ls (.int (Int16.ofInt n).toInt32 :: st) m
  | .lconst n => zgo (pc + 1) ls (.long (Int64.ofNat (n : Nat)) :: st) m
  | .ldc2_w _ => zgo (pc + 3) ls (.long (Int64.ofNat r.2.2.1) :: st) m
  | .getfield _ => zget r.2.2.1 r.2.2.2.1 pc ls st m
  | .putfield _ => zput r.2.2.1 r.2.2.2.1 pc ls st m
  | .iaload => ziald X pc ls st m
  | .baload => zbald pc ls st m
  | .aaload => zaald pc ls st m
  | .iastore => ziast pc ls st m
  | .bastore => zbast pc ls st m
  | .aastore => zaast pc ls st m
  | .arraylength => zalen X pc ls st m
  | .newarray .int => znewa 0 pc 2 ls st m
  | .newarray .boolean => znewa 1 pc 2 ls st m
  | .anewarray _ => znewa 2 pc 3 ls st m
  | .new _ => znew r.2.2.1 pc ls st m
  | .iadd => zi2 pc ls m (fun x y => x + y) st
  | .isub => zi2 pc ls m (fun x y => x - y) st
  | .imul => zi2 pc ls m (fun x y => x * y) st
  | .iand => zi2 pc ls m (fun x y => x &&& y) st
  | .ixor => zi2 pc ls m (fun x y => x ^^^ y) st
  | .idiv => (match st with
    | .int y :: .int x :: st => if y = 0 then none else zgo (pc + 1) ls (.int (x / y) :: st) m
    | _ => none)
  | .irem => (match st with
    | .int y :: .int x :: st => if y = 0 then none else zgo (pc + 1) ls (.int (x - x / y * y) :: st) m
    | _ => none)
  | .iinc k d => zinc k d pc ls st m
  | .i2l => (match st with
    | .int x :: st => zgo (pc + 1) ls (.long x.toInt64 :: st) m
    | _ => none)
  | .l2i => (match st with
    | .long x :: st => zgo (pc + 1) ls (.int x.toInt32 :: st) m
    | _ => none)
  | .land => zl2 pc ls m (fun x y => .long (x &&& y)) st
  | .lor => zl2 pc ls m (fun x y => .long (x ||| y)) st
  | .lcmp => zl2 pc ls m (fun x y => .int (lg_cmp x y)) st
  | .lshl => zl1 pc ls m (fun x y => x <<< (y.toInt64 &&& 63)) st
  | .lushr => zl1 pc ls m (fun x y => (x.toUInt64 >>> (y.toInt64.toUInt64 &&& Int64.toUInt64 63)).toInt64) st
  | .dup => (match st with
    | v :: st => if v.category = 1 then zgo (pc + 1) ls (v :: v :: st) m else none
    | _ => none)
  | .dup2 => (match st with
    | v :: w :: st => if v.category = 1 ∧ w.category = 1 then zgo (pc + 1) ls (v :: w :: v :: w :: st) m else none
    | _ => none)
  | .pop => (match st with
    | v :: st => if v.category = 1 then zgo (pc + 1) ls st m else none
    | _ => none)
  | .goto off => if 0 ≤ (pc : Int) + off then zgo ((pc : Int) + off).toNat ls st m else none
  | .ifCond c off => (match st with
    | .int x :: st => zbr pc ls m off (zcmp c x 0) st
    | _ => none)
  | .if_icmp c off => (match st with
    | .int y :: .int x :: st => zbr pc ls m off (zcmp c x y) st
    | _ => none)
  | .tableswitch d lo hi offs => (match st with
    | .int x :: st => (match (if x.toInt < lo ∨ hi < x.toInt then some d else offs[(x.toInt - lo).toNat]?) with
      | some off => if 0 ≤ (pc : Int) + off then zgo ((pc : Int) + off).toNat ls st m else none
      | none => none)
    | _ => none)
  | .lookupswitch d ps => (match st with
    | .int x :: st => if 0 ≤ (pc : Int) + Op.lookupswitch.offset ps.toList d x.toInt ∧ (ps.toList.zip (ps.toList.drop 1)).all (fun (a, next) => a.1 < next.1) = true then zgo ((pc : Int) + Op.lookupswitch.offset ps.toList d x.toInt).toNat ls st m else none
    | _ => none)
  | .ireturn => zret y st m
  | .return_ => if st = [] ∧ zRt y = none then some (.inr (.inl (none, m))) else none
  | .invokevirtual _ => zcall r.2.2.1 st m
  | .invokespecial _ => if r.2.2.1 = 1000 then zoinit pc ls st m else zcall r.2.2.1 st m
  | .invokestatic _ => if r.2.2.1 = 1001 then zacopy pc ls st m else if r.2.2.1 = 1002 then zmin pc ls st m else zcall r.2.2.1 st m
  | _ => none
def zact (X : Nat × (Nat → Int32)) (y pc : Nat) (ls st : List Value) (m : zM) : zRes := match zT y pc with
  | some r => zins X y r pc ls st m
  | none => none
def zrun (X : Nat × (Nat → Int32)) : Nat → Nat → Nat → List Value → List Value → zM → Option (Option Value × zM)
  | 0, _, _, _, _, _ => none
  | n + 1, y, pc, ls, st, m => match zact X y pc ls st m with
    | some (.inl q) => zrun X n y q.1 q.2.1 q.2.2.1 q.2.2.2
    | some (.inr (.inl q)) => some q
    | some (.inr (.inr q)) => match zrun X n q.1 0 (zEn q.1 q.2.1) [] m with
      | some v => zrun X n y (pc + 3) ls (v.1.toList ++ q.2.2) v.2
      | none => none
    | none => none
