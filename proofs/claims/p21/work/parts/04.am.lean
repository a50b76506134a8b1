/-! A SMALL MACHINE: what a run of the code does, over cells with numbers of their own (0, 1, 2 .. in the order in which they are made; am_EXT and on: the things that are there at the start). Its runs are computed; part 06 shows that the machine itself does what a run of the small one tells. -/
abbrev AmL : Type := List (Nat × Value)
/-- info (tag, size) of each cell; contents; next cell; cells made; slots made -/
abbrev AmS : Type := (Nat → Nat × Nat) × (Nat → Nat → Value) × Nat × Nat × Nat
/-- op, a, b, c, table -/
abbrev AmIns : Type := Nat × Nat × Nat × Int × List (Int × Nat)
abbrev AmR : Type := Option (Nat × AmL × List Value × AmS)
def am_EXT : Nat := 1000000
def am_upI (f : Nat → Nat × Nat) (k : Nat) (v : Nat × Nat) : Nat → Nat × Nat := fun j => cond (Nat.beq j k) v (f j)
def am_upM (f : Nat → Nat → Value) (a k : Nat) (v : Value) : Nat → Nat → Value := fun b j => cond (Nat.beq b a) (cond (Nat.beq j k) v (f b j)) (f b j)
def am_newM (f : Nat → Nat → Value) (a : Nat) (d : Nat → Value) : Nat → Nat → Value := fun b j => cond (Nat.beq b a) (d j) (f b j)
def am_kd : Value → Nat
  | .int _ => 0
  | .long _ => 1
  | .double _ => 2
  | .ref _ => 3
  | .null => 3
  | _ => 9
def am_lk : AmL → Nat → Option Value
  | [], _ => none
  | q :: l, i => cond (Nat.beq q.1 i) (some q.2) (am_lk l i)
def am_ib (b : Nat) (x y : Int32) : Option Int32 :=
  match b with
  | 0 => some (x + y)
  | 1 => some (x - y)
  | 2 => some (x * y)
  | 3 => cond (decide (y = 0)) none (some (x / y))
  | 4 => cond (decide (y = 0)) none (some (x - x / y * y))
  | 5 => some (x &&& y)
  | 6 => some (x ||| y)
  | 7 => some (x <<< (y &&& 31))
  | 8 => some (x >>> (y &&& 31))
  | 9 => some (x.toUInt32 >>> (y.toUInt32 &&& Int32.toUInt32 31)).toInt32
  | _ => none
def am_lb (b : Nat) (x y : Int64) : Option Int64 :=
  match b with
  | 0 => some (x + y)
  | 1 => some (x - y)
  | 2 => some (x * y)
  | 3 => cond (decide (y = 0)) none (some (x / y))
  | 4 => cond (decide (y = 0)) none (some (x - x / y * y))
  | 5 => some (x &&& y)
  | 6 => some (x ||| y)
  | _ => none
def am_cv (b : Nat) (v : Value) : Option Value :=
  match b, v with
  | 0, .int x => some (.long x.toInt64)
  | 1, .long x => some (.int x.toInt32)
  | 2, .int x => some (.int x.toInt8.toInt32)
  | 3, .int x => some (.int (x.toUInt32 % 65536).toInt32)
  | 4, .int x => some (.double (FP.i2d x))
  | 5, .int x => some (.int (-x))
  | 6, .long x => some (.long (-x))
  | _, _ => none
def am_cn (b : Nat) (x y : Int32) : Bool :=
  match b with
  | 0 => decide (x = y)
  | 1 => !decide (x = y)
  | 2 => decide (x < y)
  | 3 => decide (y ≤ x)
  | 4 => decide (y < x)
  | _ => decide (x ≤ y)
def am_sw : List (Int × Nat) → Int → Nat → Nat
  | [], _, d => d
  | q :: l, x, d => cond (decide (q.1 = x)) q.2 (am_sw l x d)
/-- kinds of fields and answers: 0 int, 1 long, 2 double, 3 reference, 10 boolean, 11 byte, 12 char -/
def am_fit (k : Nat) (v : Value) : Bool :=
  match k, v with
  | 0, .int _ => true
  | 1, .long _ => true
  | 2, .double _ => true
  | 3, .ref _ => true
  | 3, .null => true
  | 10, .int x => decide (x = 0) || decide (x = 1)
  | 11, .int x => decide (x.toInt8.toInt32 = x)
  | 12, .int x => decide ((x.toUInt32 % 65536).toInt32 = x)
  | _, _ => false
def am_dv (k : Nat) : Value :=
  match k with
  | 1 => .long 0
  | 2 => .double 0
  | 3 => .null
  | _ => .int 0
/-- kind of the elements by the tag of an array: 61 int, 62 long, 63 boolean, 64 byte, 65 references; of the start: 71 int, 74 byte, 76 references -/
def am_ek (t : Nat) : Nat :=
  match t with
  | 61 => 0
  | 62 => 1
  | 63 => 10
  | 64 => 11
  | 65 => 3
  | 71 => 0
  | 74 => 11
  | 76 => 3
  | _ => 99
def am_in (i : Int32) (n : Nat) : Bool := !(decide (i < 0)) && Nat.blt i.toNatClampNeg n
def am_o0 (o : AmIns) (n : Nat) (ls : AmL) (st : List Value) (S : AmS) : AmR := match am_lk ls o.2.1 with
  | some v => cond (Nat.beq (am_kd v) o.2.2.1) (some (n + 1, ls, v :: st, S)) none
  | none => none
def am_o1 (o : AmIns) (n : Nat) (ls : AmL) (st : List Value) (S : AmS) : AmR := match st with
  | v :: r => cond (Nat.beq (am_kd v) o.2.2.1 && Nat.blt o.2.2.1 9) (cond (Nat.beq v.category 1)
      (some (n + 1, (o.2.1, v) :: ls.filter (fun q => !(q.1 == o.2.1) && !(q.1 + 1 == o.2.1 && q.2.category == 2)), r, S))
      (some (n + 1, (o.2.1, v) :: ls.filter (fun q => !(q.1 == o.2.1) && (!(q.1 == o.2.1 + 1) && !(q.1 + 1 == o.2.1 && q.2.category == 2))), r, S))) none
  | [] => none
def am_o2 (o : AmIns) (n : Nat) (ls : AmL) (st : List Value) (S : AmS) : AmR := some (n + 1, ls, .int (Int32.ofInt o.2.2.2.1) :: st, S)
def am_o3 (o : AmIns) (n : Nat) (ls : AmL) (st : List Value) (S : AmS) : AmR := some (n + 1, ls, .long (Int64.ofInt o.2.2.2.1) :: st, S)
def am_o4 (o : AmIns) (n : Nat) (ls : AmL) (st : List Value) (S : AmS) : AmR := some (n + 1, ls, .double 0 :: st, S)
def am_o5 (o : AmIns) (n : Nat) (ls : AmL) (st : List Value) (S : AmS) : AmR := some (n + 1, ls, .null :: st, S)
def am_o6 (o : AmIns) (n : Nat) (ls : AmL) (st : List Value) (S : AmS) : AmR := cond (Nat.beq o.2.2.1 1) (some (n + 1, ls, S.2.1 (am_EXT + 1) 0 :: st, S)) (some (n + 1, ls, .ref (am_EXT + o.2.1) :: st, S))
def am_o8 (o : AmIns) (n : Nat) (ls : AmL) (st : List Value) (S : AmS) : AmR := match st with
  | .int y :: .int x :: r => match am_ib o.2.2.1 x y with
    | some z => some (n + 1, ls, .int z :: r, S)
    | none => none
  | _ => none
def am_o10 (o : AmIns) (n : Nat) (ls : AmL) (st : List Value) (S : AmS) : AmR := match st with
  | .long y :: .long x :: r => match am_lb o.2.2.1 x y with
    | some z => some (n + 1, ls, .long z :: r, S)
    | none => none
  | _ => none
def am_o11 (o : AmIns) (n : Nat) (ls : AmL) (st : List Value) (S : AmS) : AmR := match st with
  | .int y :: .long x :: r => cond (Nat.beq o.2.2.1 0) (some (n + 1, ls, .long (x <<< (y.toInt64 &&& 63)) :: r, S)) (some (n + 1, ls, .long (x >>> (y.toInt64 &&& 63)) :: r, S))
  | _ => none
def am_o13 (o : AmIns) (n : Nat) (ls : AmL) (st : List Value) (S : AmS) : AmR := match st with
  | .long y :: .long x :: r => some (n + 1, ls, .int (lg_cmp x y) :: r, S)
  | _ => none
def am_o14 (o : AmIns) (n : Nat) (ls : AmL) (st : List Value) (S : AmS) : AmR := match st with
  | v :: r => match am_cv o.2.2.1 v with
    | some w => some (n + 1, ls, w :: r, S)
    | none => none
  | _ => none
def am_o15 (o : AmIns) (n : Nat) (ls : AmL) (st : List Value) (S : AmS) : AmR := match st with
  | .double y :: .double x :: r => cond (decide (FP.ddiv x y &&& 0x7fffffffffffffff ≤ 0x7ff0000000000000)) (some (n + 1, ls, .double (FP.ddiv x y) :: r, S)) none
  | _ => none
def am_o16 (o : AmIns) (n : Nat) (ls : AmL) (st : List Value) (S : AmS) : AmR := match st with
  | .double y :: .double x :: r => some (n + 1, ls, .int (Op.cmpValue (FP.dcmp x y) (cond (Nat.beq o.2.2.1 0) .l .g)) :: r, S)
  | _ => none
def am_o17 (o : AmIns) (n : Nat) (ls : AmL) (st : List Value) (S : AmS) : AmR := match am_lk ls o.2.1 with
  | some (.int x) => some (n + 1, (o.2.1, .int (x + Int32.ofInt o.2.2.2.1)) :: ls.filter (fun q => !(q.1 == o.2.1) && !(q.1 + 1 == o.2.1 && q.2.category == 2)), st, S)
  | _ => none
def am_o18 (o : AmIns) (n : Nat) (ls : AmL) (st : List Value) (S : AmS) : AmR := match st with
  | .int x :: r => some (cond (am_cn o.2.2.1 x 0) o.2.1 (n + 1), ls, r, S)
  | _ => none
def am_o19 (o : AmIns) (n : Nat) (ls : AmL) (st : List Value) (S : AmS) : AmR := match st with
  | .int y :: .int x :: r => some (cond (am_cn o.2.2.1 x y) o.2.1 (n + 1), ls, r, S)
  | _ => none
def am_o20 (o : AmIns) (n : Nat) (ls : AmL) (st : List Value) (S : AmS) : AmR := match st with
  | .null :: r => some (cond (Nat.beq o.2.2.1 0) o.2.1 (n + 1), ls, r, S)
  | .ref _ :: r => some (cond (Nat.beq o.2.2.1 0) (n + 1) o.2.1, ls, r, S)
  | _ => none
def am_o22 (o : AmIns) (n : Nat) (ls : AmL) (st : List Value) (S : AmS) : AmR := some (o.2.1, ls, st, S)
def am_o23 (o : AmIns) (n : Nat) (ls : AmL) (st : List Value) (S : AmS) : AmR := match st with
  | .int x :: r => some (am_sw o.2.2.2.2 x.toInt o.2.1, ls, r, S)
  | _ => none
/-- getfield: class a, field b -/
def am_o24 (o : AmIns) (n : Nat) (ls : AmL) (st : List Value) (S : AmS) : AmR := match st with
  | .ref k :: r => cond (Nat.beq (S.1 k).1 (o.2.1 + 1)) (some (n + 1, ls, S.2.1 k o.2.2.1 :: r, S)) none
  | _ => none
/-- putfield: class a, field b, kind c -/
def am_o25 (o : AmIns) (n : Nat) (ls : AmL) (st : List Value) (S : AmS) : AmR := match st with
  | v :: .ref k :: r => cond (Nat.beq (S.1 k).1 (o.2.1 + 1) && (Nat.blt k S.2.2.1 && am_fit o.2.2.2.1.toNat v)) (some (n + 1, ls, r, (S.1, am_upM S.2.1 k o.2.2.1 v, S.2.2))) none
  | _ => none
def am_o26 (o : AmIns) (n : Nat) (ls : AmL) (st : List Value) (S : AmS) : AmR := match st with
  | v :: r => cond (Nat.beq v.category 1) (some (n + 1, ls, v :: v :: r, S)) none
  | _ => none
/-- pop (b = 0), pop2 of a long or double (b = 1) -/
def am_o27 (o : AmIns) (n : Nat) (ls : AmL) (st : List Value) (S : AmS) : AmR := match st with
  | v :: r => cond (Nat.beq v.category (o.2.2.1 + 1)) (some (n + 1, ls, r, S)) none
  | _ => none
/-- new: class a with b fields, their kinds -/
def am_o28 (o : AmIns) (n : Nat) (ls : AmL) (st : List Value) (S : AmS) (fk : Nat → Nat → Nat) : AmR := cond (Nat.blt S.2.2.1 am_EXT)
  (some (n + 1, ls, .ref S.2.2.1 :: st, (am_upI S.1 S.2.2.1 (o.2.1 + 1, o.2.2.1), am_newM S.2.1 S.2.2.1 (fun j => am_dv (fk o.2.1 j)), S.2.2.1 + 1, S.2.2.2.1 + 1, S.2.2.2.2 + o.2.2.1))) none
/-- newarray, anewarray: tag a -/
def am_o29 (o : AmIns) (n : Nat) (ls : AmL) (st : List Value) (S : AmS) : AmR := match st with
  | .int x :: r => cond (!(decide (x < 0)) && (Nat.ble x.toNatClampNeg 1000000 && Nat.blt S.2.2.1 am_EXT))
      (some (n + 1, ls, .ref S.2.2.1 :: r, (am_upI S.1 S.2.2.1 (o.2.1, x.toNatClampNeg), am_newM S.2.1 S.2.2.1 (fun _ => am_dv (am_ek o.2.1)), S.2.2.1 + 1, S.2.2.2.1 + 1, S.2.2.2.2 + x.toNatClampNeg))) none
  | _ => none
def am_o31 (o : AmIns) (n : Nat) (ls : AmL) (st : List Value) (S : AmS) : AmR := match st with
  | .ref k :: r => cond (Nat.blt 60 (S.1 k).1 && Nat.blt (S.1 k).1 77) (some (n + 1, ls, .int (Int32.ofNat (S.1 k).2) :: r, S)) none
  | _ => none
/-- a load of an element: kind b -/
def am_o32 (o : AmIns) (n : Nat) (ls : AmL) (st : List Value) (S : AmS) : AmR := match st with
  | .int i :: .ref k :: r => cond ((Nat.beq (am_ek (S.1 k).1) o.2.2.1 || (Nat.beq o.2.2.1 11 && Nat.beq (am_ek (S.1 k).1) 10)) && am_in i (S.1 k).2) (some (n + 1, ls, S.2.1 k i.toNatClampNeg :: r, S)) none
  | _ => none
def am_nar (t : Nat) (v : Value) : Value :=
  match t, v with
  | 63, .int x => .int (x &&& 1)
  | 64, .int x => .int x.toInt8.toInt32
  | _, v => v
/-- a store: the array's tag a (63 or 64 at a bastore), class of what is stored b -/
def am_o33 (o : AmIns) (n : Nat) (ls : AmL) (st : List Value) (S : AmS) : AmR := match st with
  | v :: .int i :: .ref k :: r => cond ((Nat.beq (S.1 k).1 o.2.1 || (Nat.beq o.2.1 64 && Nat.beq (S.1 k).1 63)) && (am_in i (S.1 k).2 && (Nat.blt k S.2.2.1 && cond (Nat.beq o.2.1 65) (match v with
      | .ref q => Nat.beq (S.1 q).1 (o.2.2.1 + 1)
      | _ => false) (Nat.beq (am_kd v) (cond (Nat.beq o.2.1 62) 1 0)))))
      (some (n + 1, ls, r, (S.1, am_upM S.2.1 k i.toNatClampNeg (am_nar (S.1 k).1 v), S.2.2))) none
  | _ => none
/-- checkcast of an array of int to its own class -/
def am_o34 (o : AmIns) (n : Nat) (ls : AmL) (st : List Value) (S : AmS) : AmR := match st with
  | .ref k :: r => cond (Nat.beq (S.1 k).1 61) (some (n + 1, ls, .ref k :: r, S)) none
  | _ => none
def am_o35 (o : AmIns) (n : Nat) (ls : AmL) (st : List Value) (S : AmS) : AmR := match st with
  | .ref _ :: r => cond (Nat.ble (r.map fun v => v.category).sum 100) (some (n + 1, ls, r, S)) none
  | _ => none
def am_o36 (_ : AmIns) (_ : Nat) (_ : AmL) (_ : List Value) (_ : AmS) : AmR := none
def am_o37 (_ : AmIns) (_ : Nat) (_ : AmL) (_ : List Value) (_ : AmS) : AmR := none
def am_o39 (_ : AmIns) (n : Nat) (ls : AmL) (st : List Value) (S : AmS) : AmR := match st with
  | v :: w :: r => cond (Nat.beq v.category 1 && Nat.beq w.category 1) (some (n + 1, ls, v :: w :: v :: w :: r, S)) none
  | _ => none
/-- Math: 0 max, 1 min, 2 abs of a long -/
def am_o38 (o : AmIns) (n : Nat) (ls : AmL) (st : List Value) (S : AmS) : AmR := match o.2.2.1, st with
  | 0, .int y :: .int x :: r => cond (Nat.ble (r.map fun v => v.category).sum 8) (some (n + 1, ls, .int (cond (decide (x < y)) y x) :: r, S)) none
  | 1, .int y :: .int x :: r => cond (Nat.ble (r.map fun v => v.category).sum 8) (some (n + 1, ls, .int (cond (decide (y < x)) y x) :: r, S)) none
  | _, _ => none
/-- one instruction that is no call, no return and no throw -/
def am_nxt (o : AmIns) (n : Nat) (ls : AmL) (st : List Value) (S : AmS) (fk : Nat → Nat → Nat) : AmR :=
  cond (Nat.beq o.1 0) (am_o0 o n ls st S) <| cond (Nat.beq o.1 24) (am_o24 o n ls st S) <| cond (Nat.beq o.1 2) (am_o2 o n ls st S) <| cond (Nat.beq o.1 19) (am_o19 o n ls st S) <|
  cond (Nat.beq o.1 18) (am_o18 o n ls st S) <| cond (Nat.beq o.1 32) (am_o32 o n ls st S) <| cond (Nat.beq o.1 25) (am_o25 o n ls st S) <| cond (Nat.beq o.1 22) (am_o22 o n ls st S) <|
  cond (Nat.beq o.1 1) (am_o1 o n ls st S) <| cond (Nat.beq o.1 8) (am_o8 o n ls st S) <| cond (Nat.beq o.1 33) (am_o33 o n ls st S) <| cond (Nat.beq o.1 26) (am_o26 o n ls st S) <|
  cond (Nat.beq o.1 29) (am_o29 o n ls st S) <| cond (Nat.beq o.1 17) (am_o17 o n ls st S) <| cond (Nat.beq o.1 3) (am_o3 o n ls st S) <| cond (Nat.beq o.1 13) (am_o13 o n ls st S) <|
  cond (Nat.beq o.1 31) (am_o31 o n ls st S) <| cond (Nat.beq o.1 14) (am_o14 o n ls st S) <| cond (Nat.beq o.1 6) (am_o6 o n ls st S) <| cond (Nat.beq o.1 10) (am_o10 o n ls st S) <|
  cond (Nat.beq o.1 28) (am_o28 o n ls st S fk) <| cond (Nat.beq o.1 20) (am_o20 o n ls st S) <| cond (Nat.beq o.1 23) (am_o23 o n ls st S) <| cond (Nat.beq o.1 11) (am_o11 o n ls st S) <|
  cond (Nat.beq o.1 35) (am_o35 o n ls st S) <| cond (Nat.beq o.1 27) (am_o27 o n ls st S) <| cond (Nat.beq o.1 4) (am_o4 o n ls st S) <| cond (Nat.beq o.1 5) (am_o5 o n ls st S) <|
  cond (Nat.beq o.1 15) (am_o15 o n ls st S) <| cond (Nat.beq o.1 16) (am_o16 o n ls st S) <| cond (Nat.beq o.1 34) (am_o34 o n ls st S) <| cond (Nat.beq o.1 36) (am_o36 o n ls st S) <|
  cond (Nat.beq o.1 37) (am_o37 o n ls st S) <| cond (Nat.beq o.1 38) (am_o38 o n ls st S) <| cond (Nat.beq o.1 39) (am_o39 o n ls st S) none
/-- what a method comes to: an answer, or an exception (its class' number, its cell) -/
abbrev AmO : Type := Option Value ⊕ Nat × Nat
/-- code of each method; (static 1 or the receiver's class + 2, number of arguments with the receiver, the rows of its table: from, behind, handler, class); kinds of the fields -/
abbrev AmP : Type := (Nat → List AmIns) × (Nat → Nat × Nat × List (Nat × Nat × Nat × Nat)) × (Nat → Nat → Nat)
def am_hd : List (Nat × Nat × Nat × Nat) → Nat → Nat → Option Nat
  | [], _, _ => none
  | q :: l, n, E => cond (Nat.ble q.1 n && (Nat.blt n q.2.1 && Nat.beq q.2.2.2 E)) (some q.2.2.1) (am_hd l n E)
def am_ends (o : AmIns) (st : List Value) (S : AmS) : Option (AmO × AmS) := match st with
  | [] => cond (Nat.beq o.2.2.1 9) (some (.inl none, S)) none
  | v :: [] => cond (am_fit o.2.2.1 v && !(Nat.beq o.2.2.1 3)) (some (.inl (some v), S)) none
  | _ => none
def am_thr (_ : AmIns) (_ : List Value) (_ : AmS) : Option (AmO × AmS) := none
/-- may the method be called on these arguments? -/
def am_ok (f : Nat × Nat × List (Nat × Nat × Nat × Nat)) (as rest : List Value) (S : AmS) : Bool :=
  Nat.beq as.length f.2.1 && (Nat.ble (rest.map fun v => v.category).sum 8 && cond (Nat.beq f.1 1) true (match as with
    | .ref k :: _ => Nat.beq ((S.1 k).1 + 1) f.1
    | _ => false))
def am_run (P : AmP) : Nat → Nat → Nat → Nat → AmL → List Value → AmS → Option (AmO × AmS)
  | 0, _, _, _, _, _, _ => none
  | f + 1, d, j, n, ls, st, S => match (P.1 j)[n]? with
    | none => none
    | some o => cond (Nat.beq o.1 40)
      (match d with
      | 0 => none
      | d' + 1 => cond (am_ok (P.2.1 o.2.1) (st.take o.2.2.1).reverse (st.drop o.2.2.1) S)
        (match am_run P f d' o.2.1 0 (lv_args 0 (st.take o.2.2.1).reverse) [] S with
        | none => none
        | some (.inl none, S1) => am_run P f d j (n + 1) ls (st.drop o.2.2.1) S1
        | some (.inl (some v), S1) => am_run P f d j (n + 1) ls (v :: st.drop o.2.2.1) S1
        | some (.inr (E, a), S1) => cond (decide (o.2.2.2.1 = 0)) (match am_hd (P.2.1 j).2.2 n E with
          | some h => am_run P f d j h ls [.ref a] S1
          | none => none) none) none)
      (cond (Nat.beq o.1 41) (am_ends o st S) (cond (Nat.beq o.1 42) (am_thr o st S)
        (match am_nxt o n ls st S P.2.2 with
        | some (n', ls', st', S') => am_run P f d j n' ls' st' S'
        | none => none)))
