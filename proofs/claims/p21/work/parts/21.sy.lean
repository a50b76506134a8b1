/-! A RUN WITH UNKNOWNS: ints are c + f * p (p one of some parameters), or any; of the memory some places are told. Computed once, it holds for all parameters within their bounds. -/
/-- kind (0 int, 1 long, 2 any int, 3 any long, 4 a cell, 5 null, 7 a cell or null, 8 an int from 0 on, at most; 9 bytes in one int, 10 the same a byte higher, 11 an int whose lowest byte is told, 12 any byte), constant, parameter, factor -/
abbrev SyV : Type := Nat × Int × Nat × Nat
/-- bounds of the parameters; which is less than which -/
abbrev SyG : Type := List (Nat × Int × Int) × List (Nat × Nat)
/-- a cell: where, its tag, its size, what is there where nothing is told, what is told -/
abbrev SyE : Type := SyV × Nat × Nat × Option SyV × List (SyV × SyV)
abbrev SyM : Type := List SyE
/-- method, place, variables, stack -/
abbrev SyF : Type := Nat × Nat × List (Nat × SyV) × List SyV
/-- memory, the next cell, cells made, slots made, places that were written -/
abbrev SyH : Type := SyM × SyV × SyV × SyV × List (SyV × SyV)
abbrev SyL : Type := List (Nat × SyV) × List SyV × SyH
abbrev SyC : Type := List SyF × SyH
abbrev SyR : Type := Option (Nat × SyL)
def sy_lt : Int → Int → Bool
  | .ofNat a, .ofNat b => Nat.blt a b
  | .negSucc _, .ofNat _ => true
  | .ofNat _, .negSucc _ => false
  | .negSucc a, .negSucc b => Nat.blt b a
def sy_eq : Int → Int → Bool
  | .ofNat a, .ofNat b => Nat.beq a b
  | .negSucc a, .negSucc b => Nat.beq a b
  | .negSucc _, .ofNat _ => false
  | .ofNat _, .negSucc _ => false
def sy_le (a b : Int) : Bool := !(sy_lt b a)
def sy_n (pv : Nat → Int) (a : SyV) : Int := a.2.1 + (a.2.2.2 : Int) * pv a.2.2.1
/-- q bytes in one int, the highest first -/
def sy_pk (pv : Nat → Int) (p : Nat) : Nat → Int
  | 0 => 0
  | q + 1 => sy_pk pv p q * 256 + pv (p + q)
def sy_v (pv : Nat → Int) (a : SyV) (v : Value) : Prop := match a.1 with
  | 0 => ∃ x : Int32, v = .int x ∧ x.toInt = sy_n pv a
  | 1 => ∃ x : Int64, v = .long x ∧ x.toInt = sy_n pv a
  | 2 => ∃ x : Int32, v = .int x
  | 3 => ∃ x : Int64, v = .long x
  | 4 => 0 ≤ sy_n pv a ∧ v = .ref (sy_n pv a).toNat
  | 5 => v = .null
  | 8 => ∃ x : Int32, v = .int x ∧ 0 ≤ x.toInt ∧ x.toInt ≤ sy_n pv a
  | 9 => ∃ x : Int32, v = .int x ∧ (∃ q : Nat, a.2.1 = q ∧ q ≤ 4 ∧ x.toInt = sy_pk pv a.2.2.1 q ∧ ∀ i, i < q → 0 ≤ pv (a.2.2.1 + i) ∧ pv (a.2.2.1 + i) ≤ 127)
  | 10 => ∃ x : Int32, v = .int x ∧ (∃ q : Nat, a.2.1 = q ∧ q ≤ 3 ∧ x.toInt = sy_pk pv a.2.2.1 q * 256 ∧ ∀ i, i < q → 0 ≤ pv (a.2.2.1 + i) ∧ pv (a.2.2.1 + i) ≤ 127)
  | 11 => ∃ x : Int32, v = .int x ∧ x.toInt8.toInt32.toInt = pv a.2.2.1
  | 12 => ∃ x : Int32, v = .int x ∧ -128 ≤ x.toInt ∧ x.toInt ≤ 127
  | _ => v = .null ∨ ∃ k, v = .ref k
def sy_g (pv : Nat → Int) (G : SyG) : Prop := (∀ q ∈ G.1, q.2.1 ≤ pv q.1 ∧ pv q.1 ≤ q.2.2) ∧ ∀ q ∈ G.2, pv q.1 < pv q.2
def sy_i (c : Int) : SyV := (0, c, 0, 0)
def sy_any : SyV := (2, 0, 0, 0)
def sy_lk : List (Nat × SyV) → Nat → Option SyV
  | [], _ => none
  | q :: l, i => cond (Nat.beq q.1 i) (some q.2) (sy_lk l i)
def sy_bd : List (Nat × Int × Int) → Nat → Option (Int × Int)
  | [], _ => none
  | q :: l, i => cond (Nat.beq q.1 i) (some q.2) (sy_bd l i)
/-- least and greatest value -/
def sy_lo (G : SyG) (a : SyV) : Option (Int × Int) := cond (Nat.beq a.2.2.2 0) (some (a.2.1, a.2.1)) (match sy_bd G.1 a.2.2.1 with
  | some b => some (a.2.1 + a.2.2.2 * b.1, a.2.1 + a.2.2.2 * b.2)
  | none => none)
def sy_rg (G : SyG) (a : SyV) (lo hi : Int) : Bool := match sy_lo G a with
  | some p => sy_le lo p.1 && sy_le p.2 hi
  | none => false
/-- 0 less, 1 the same, 2 greater -/
def sy_cmp (G : SyG) (a b : SyV) : Option Nat :=
  cond (Nat.beq a.2.2.2 b.2.2.2 && (Nat.beq a.2.2.1 b.2.2.1 || Nat.beq a.2.2.2 0))
    (some (cond (sy_lt a.2.1 b.2.1) 0 (cond (sy_eq a.2.1 b.2.1) 1 2)))
    (match sy_lo G a, sy_lo G b with
    | some p, some q => cond (sy_lt p.2 q.1) (some 0) (cond (sy_lt q.2 p.1) (some 2)
        (cond (Nat.beq a.2.2.2 b.2.2.2 && (G.2.any (fun r => Nat.beq r.1 a.2.2.1 && Nat.beq r.2 b.2.2.1) && sy_lt (a.2.1 - b.2.1) a.2.2.2)) (some 0)
        (cond (Nat.beq a.2.2.2 b.2.2.2 && (G.2.any (fun r => Nat.beq r.1 b.2.2.1 && Nat.beq r.2 a.2.2.1) && sy_lt (b.2.1 - a.2.1) b.2.2.2)) (some 2) none)))
    | _, _ => none)
def sy_same (a b : SyV) : Bool := sy_eq a.2.1 b.2.1 && (Nat.beq a.2.2.2 b.2.2.2 && (Nat.beq a.2.2.1 b.2.2.1 || Nat.beq a.2.2.2 0))
/-- certainly not the same -/
def sy_df (G : SyG) (a b : SyV) : Bool := match sy_cmp G a b with
  | some r => !(Nat.beq r 1)
  | none => false
def sy_rd1 : List (SyV × SyV) → SyV → Option SyV
  | [], _ => none
  | q :: l, i => cond (sy_same q.1 i) (some q.2) (sy_rd1 l i)
def sy_fe : SyM → SyV → Option SyE
  | [], _ => none
  | e :: l, a => cond (sy_same e.1 a) (some e) (sy_fe l a)
/-- what is read at a place of a cell -/
def sy_re (G : SyG) (e : SyE) (i : SyV) : Option SyV := match sy_rd1 e.2.2.2.2 i with
  | some v => some v
  | none => match e.2.2.2.1 with
    | some d => cond (e.2.2.2.2.all (fun p => sy_df G p.1 i)) (some d) none
    | none => none
def sy_keep (G : SyG) (i : SyV) (l : List (SyV × SyV)) : List (SyV × SyV) := l.filter (fun p => sy_df G p.1 i)
def sy_we (G : SyG) (a i v : SyV) (e : SyE) : SyE := cond (sy_same e.1 a)
  (e.1, e.2.1, e.2.2.1, cond (e.2.2.2.2.all (fun p => sy_same p.1 i || sy_df G p.1 i)) e.2.2.2.1 none, (i, v) :: sy_keep G i e.2.2.2.2)
  (cond (sy_df G e.1 a) e (e.1, e.2.1, e.2.2.1, none, []))
/-- a place is written; the cells of X are not -/
def sy_wr (G : SyG) (X : List Nat) (H : SyH) (a i v : SyV) : Option SyH := cond (X.all (fun q => sy_df G (sy_i q) a) && sy_rg G a 0 999999)
  (some (H.1.map (sy_we G a i v), H.2.1, H.2.2.1, H.2.2.2.1, (a, i) :: H.2.2.2.2)) none
/-- an int whose bounds are those of an int -/
def sy_ok (G : SyG) (a : SyV) : SyV := cond (sy_rg G a (-2147483648) 2147483647) a sy_any
/-- c + f p with f 0 has no parameter -/
def sy_nf (c : Int) (p f : Nat) : SyV := cond (Nat.beq f 0) (0, c, 0, 0) (0, c, p, f)
/-- two ints -/
def sy_ib (G : SyG) (b : Nat) (x y : SyV) : Option SyV :=
  cond (Nat.beq x.1 0 && Nat.beq y.1 0)
    (cond (Nat.beq x.2.2.2 0 && Nat.beq y.2.2.2 0)
      (match am_ib b (Int32.ofInt x.2.1) (Int32.ofInt y.2.1) with
      | some z => some (sy_i z.toInt)
      | none => none)
      (match b with
      | 0 => some (cond (Nat.beq y.2.2.2 0) (sy_ok G (0, x.2.1 + y.2.1, x.2.2)) (cond (Nat.beq x.2.2.2 0) (sy_ok G (0, x.2.1 + y.2.1, y.2.2)) sy_any))
      | 1 => some (cond (Nat.beq y.2.2.2 0) (sy_ok G (0, x.2.1 - y.2.1, x.2.2)) (cond (Nat.beq x.2.2.2 y.2.2.2 && Nat.beq x.2.2.1 y.2.2.1) (sy_ok G (sy_i (x.2.1 - y.2.1))) sy_any))
      | 2 => some (cond (Nat.beq y.2.2.2 0 && sy_le 0 y.2.1) (sy_ok G (sy_nf (x.2.1 * y.2.1) x.2.2.1 (x.2.2.2 * y.2.1.toNat))) sy_any)
      | 3 => cond (Nat.beq y.2.2.2 0 && sy_lt 0 y.2.1) (some (cond (sy_rg G x 0 2147483647 && (sy_le 0 x.2.1 && Nat.beq (x.2.2.2 % y.2.1.toNat) 0)) (sy_ok G (sy_nf (x.2.1 / y.2.1) x.2.2.1 (x.2.2.2 / y.2.1.toNat))) sy_any)) none
      | 4 => cond (Nat.beq y.2.2.2 0 && sy_lt 0 y.2.1) (some (cond (sy_rg G x 0 2147483647 && (sy_le 0 x.2.1 && Nat.beq (x.2.2.2 % y.2.1.toNat) 0)) (sy_i (x.2.1 % y.2.1)) (cond (sy_rg G x 0 2147483647) (8, y.2.1 - 1, 0, 0) sy_any))) none
      | 5 => some (cond (Nat.beq y.2.2.2 0 && (sy_eq y.2.1 255 && sy_rg G x 0 255)) x sy_any)
      | 6 => some sy_any
      | 7 => some sy_any
      | 8 => some sy_any
      | 9 => some sy_any
      | _ => none))
    (cond ((Nat.beq x.1 0 || (Nat.beq x.1 2 || Nat.beq x.1 8)) && (Nat.beq y.1 0 || (Nat.beq y.1 2 || Nat.beq y.1 8)) && (Nat.blt b 10 && (!(Nat.beq b 3 || Nat.beq b 4) || (Nat.beq y.1 0 && (Nat.beq y.2.2.2 0 && !(sy_eq y.2.1 0)))))) (some sy_any) none)
def sy_kd (a : SyV) : Nat := match a.1 with
  | 0 => 0
  | 1 => 1
  | 2 => 0
  | 3 => 1
  | 8 => 0
  | 9 => 0
  | 10 => 0
  | 11 => 0
  | 12 => 0
  | _ => 3
/-- small constants, quickly -/
def sy_ibf (b : Nat) (x y : SyV) : Option SyV := cond (Nat.beq x.1 0 && (Nat.beq y.1 0 && (Nat.beq x.2.2.2 0 && (Nat.beq y.2.2.2 0 && (sy_le (-1000000) x.2.1 && (sy_le x.2.1 1000000 && (sy_le (-1000000) y.2.1 && sy_le y.2.1 1000000)))))))
  (match b with
  | 0 => some (0, x.2.1 + y.2.1, 0, 0)
  | 1 => some (0, x.2.1 - y.2.1, 0, 0)
  | _ => none) none
/-- ints within bounds -/
def sy_ib8 (b : Nat) (x y : SyV) : Option SyV := cond (Nat.beq y.1 0 && (Nat.beq y.2.2.2 0 && (sy_le 0 y.2.1 && sy_le y.2.1 2147483647)))
  (match b with
  | 5 => cond (Nat.beq (sy_kd x) 0) (some (8, y.2.1, 0, 0)) none
  | 4 => cond (Nat.beq x.1 8 && sy_lt 0 y.2.1) (some (8, y.2.1 - 1, 0, 0)) none
  | _ => none) (cond (Nat.beq b 0 && (Nat.beq x.1 0 && (Nat.beq x.2.2.2 0 && (sy_le 0 x.2.1 && (sy_le x.2.1 1000000 && (Nat.beq y.1 8 && (Nat.beq y.2.2.2 0 && sy_le y.2.1 1000000))))))) (some (8, x.2.1 + y.2.1, 0, 0)) none)
/-- bytes that are put into one int, and taken out of it -/
def sy_bp (G : SyG) (a : SyV) : Bool := Nat.beq a.1 0 && (Nat.beq a.2.2.2 1 && (sy_eq a.2.1 0 && sy_rg G a 0 127))
def sy_ib9 (G : SyG) (b : Nat) (x y : SyV) : Option SyV := match b with
  | 7 => cond (Nat.beq y.1 0 && (Nat.beq y.2.2.2 0 && sy_eq y.2.1 8)) (cond (sy_bp G x) (some (10, 1, x.2.2.1, 1)) (cond (Nat.beq x.1 9 && (sy_le 1 x.2.1 && sy_le x.2.1 3)) (some (10, x.2.1, x.2.2.1, 1)) none)) none
  | 6 => cond (Nat.beq x.1 0 && (Nat.beq x.2.2.2 0 && (sy_eq x.2.1 0 && Nat.beq y.1 0))) (some y) (cond (Nat.beq x.1 10 && (sy_bp G y && sy_eq (x.2.1 + (x.2.2.1 : Int)) (y.2.2.1 : Int))) (some (9, x.2.1 + 1, x.2.2.1, 1)) none)
  | 8 => cond (Nat.beq x.1 9 && (sy_eq x.2.1 4 && (Nat.beq y.1 0 && Nat.beq y.2.2.2 0))) (cond (sy_eq y.2.1 24) (some (11, 0, x.2.2.1, 1)) (cond (sy_eq y.2.1 16) (some (11, 0, x.2.2.1 + 1, 1)) (cond (sy_eq y.2.1 8) (some (11, 0, x.2.2.1 + 2, 1)) (cond (sy_eq y.2.1 0) (some (11, 0, x.2.2.1 + 3, 1)) none)))) none
  | _ => none
/-- divided by more than it can be -/
def sy_ib7 (G : SyG) (b : Nat) (x y : SyV) : Option SyV := cond (Nat.beq x.1 0 && (Nat.beq y.1 0 && (Nat.beq y.2.2.2 0 && (sy_lt 0 y.2.1 && (!(Nat.beq x.2.2.2 0) && sy_rg G x 0 (y.2.1 - 1)))))) (match b with
  | 3 => some (sy_i 0)
  | 4 => some x
  | _ => none) none
def sy_ib2 (G : SyG) (b : Nat) (x y : SyV) : Option SyV := match sy_ibf b x y with
  | some z => some z
  | none => match sy_ib9 G b x y with
    | some z => some z
    | none => match sy_ib7 G b x y with
      | some z => some z
      | none => cond (Nat.beq x.1 0 && Nat.beq y.1 0) (sy_ib G b x y) (match sy_ib8 b x y with
        | some z => some z
        | none => sy_ib G b x y)
/-- a constant int -/
def sy_k (c : Int) : SyV := cond (sy_le (-1000000) c && sy_le c 1000000) (0, c, 0, 0) (0, (Int32.ofInt c).toInt, 0, 0)
/-- by the bounds alone -/
def sy_cn2 (G : SyG) (b : Nat) (x y : SyV) : Option Bool := match sy_lo G x, sy_lo G y with
  | some p, some q => cond (sy_le q.2 p.1) (match b with
    | 2 => some false
    | 3 => some true
    | _ => none) (cond (sy_le p.2 q.1) (match b with
    | 4 => some false
    | 5 => some true
    | _ => none) none)
  | _, _ => none
/-- does the comparison hold? -/
def sy_cn (G : SyG) (b : Nat) (x y : SyV) : Option Bool := cond (Nat.beq x.1 0 && Nat.beq y.1 0) (match sy_cmp G x y with
  | some r => some (match b with
    | 0 => Nat.beq r 1
    | 1 => !(Nat.beq r 1)
    | 2 => Nat.beq r 0
    | 3 => !(Nat.beq r 0)
    | 4 => Nat.beq r 2
    | _ => !(Nat.beq r 2))
  | none => sy_cn2 G b x y) none
/-! WHAT AN INSTRUCTION DOES, with unknowns. -/
def sy_two (a : SyV) : Bool := Nat.beq (sy_kd a) 1
def sy_ps (n : Nat) (C : SyL) (a : SyV) (r : List SyV) : SyR := some (n + 1, C.1, a :: r, C.2.2)
def sx_o0 (o : AmIns) (n : Nat) (C : SyL) : SyR := match sy_lk C.1 o.2.1 with
  | some a => cond (Nat.beq (sy_kd a) o.2.2.1) (sy_ps n C a C.2.1) none
  | none => none
/-- is there a value of two words at the variable ahead? -/
def sy_ah (l : List (Nat × SyV)) (i : Nat) : Bool := match i with
  | 0 => false
  | k + 1 => match sy_lk l k with
    | some a => sy_two a
    | none => false
def sy_rm (two : Bool) (i : Nat) (l : List (Nat × SyV)) : List (Nat × SyV) := l.filter (fun p => !(Nat.beq p.1 i) && (!(two && Nat.beq p.1 (i + 1)) && !(sy_ah l i && Nat.beq (p.1 + 1) i)))
def sx_o1 (o : AmIns) (n : Nat) (C : SyL) : SyR := match C.2.1 with
  | a :: r => cond (Nat.beq (sy_kd a) o.2.2.1) (some (n + 1, (o.2.1, a) :: sy_rm (sy_two a) o.2.1 C.1, r, C.2.2)) none
  | [] => none
def sx_o2 (o : AmIns) (n : Nat) (C : SyL) : SyR := sy_ps n C (sy_k o.2.2.2.1) C.2.1
def sx_o3 (o : AmIns) (n : Nat) (C : SyL) : SyR := sy_ps n C (1, (Int64.ofInt o.2.2.2.1).toInt, 0, 0) C.2.1
def sx_o6 (o : AmIns) (n : Nat) (C : SyL) : SyR := cond (Nat.beq o.2.2.1 1) (sy_ps n C (7, 0, 0, 0) C.2.1) (sy_ps n C (4, am_EXT + o.2.1, 0, 0) C.2.1)
def sx_o8 (G : SyG) (o : AmIns) (n : Nat) (C : SyL) : SyR := match C.2.1 with
  | y :: x :: r => match sy_ib2 G o.2.2.1 x y with
    | some z => sy_ps n C z r
    | none => none
  | _ => none
def sy_cl (x : SyV) : Bool := Nat.beq x.1 1 && Nat.beq x.2.2.2 0
def sy_ci (x : SyV) : Bool := Nat.beq x.1 0 && Nat.beq x.2.2.2 0
def sx_o10 (o : AmIns) (n : Nat) (C : SyL) : SyR := match C.2.1 with
  | y :: x :: r => cond (sy_cl x && sy_cl y) (match am_lb o.2.2.1 (Int64.ofInt x.2.1) (Int64.ofInt y.2.1) with
    | some z => sy_ps n C (1, z.toInt, 0, 0) r
    | none => none) (cond (sy_cl x && (sy_eq x.2.1 0 && (Nat.beq y.1 1 && Nat.beq o.2.2.1 6))) (sy_ps n C y r)
    (cond (Nat.beq (sy_kd x) 1 && (Nat.beq (sy_kd y) 1 && Nat.blt o.2.2.1 3)) (sy_ps n C (3, 0, 0, 0) r) none))
  | _ => none
def sx_o11 (o : AmIns) (n : Nat) (C : SyL) : SyR := match C.2.1 with
  | y :: x :: r => cond (sy_cl x && sy_ci y) (sy_ps n C (1, (cond (Nat.beq o.2.2.1 0) (Int64.ofInt x.2.1 <<< ((Int32.ofInt y.2.1).toInt64 &&& 63)) (Int64.ofInt x.2.1 >>> ((Int32.ofInt y.2.1).toInt64 &&& 63))).toInt, 0, 0) r) none
  | _ => none
def sx_o13 (G : SyG) (n : Nat) (C : SyL) : SyR := match C.2.1 with
  | y :: x :: r => cond (Nat.beq x.1 1 && Nat.beq y.1 1) (match sy_cmp G x y with
    | some 0 => sy_ps n C (sy_i (-1)) r
    | some 1 => sy_ps n C (sy_i 0) r
    | some _ => sy_ps n C (sy_i 1) r
    | none => none) none
  | _ => none
def sx_o14 (G : SyG) (o : AmIns) (n : Nat) (C : SyL) : SyR := match C.2.1 with
  | x :: r => match o.2.2.1 with
    | 0 => cond (Nat.beq x.1 0) (sy_ps n C (1, x.2) r) (cond (Nat.beq x.1 2) (sy_ps n C (3, 0, 0, 0) r) none)
    | 1 => cond (sy_cl x) (sy_ps n C (sy_i (Int64.ofInt x.2.1).toInt32.toInt) r) none
    | 2 => cond (Nat.beq x.1 0) (cond (sy_rg G x (-128) 127) (sy_ps n C x r) (cond (sy_ci x) (sy_ps n C (sy_i (Int32.ofInt x.2.1).toInt8.toInt32.toInt) r) none)) (cond (Nat.beq x.1 11) (sy_ps n C (0, 0, x.2.2.1, 1) r) (cond (Nat.beq (sy_kd x) 0) (sy_ps n C (12, 0, 0, 0) r) none))
    | 3 => cond (Nat.beq x.1 0 && sy_rg G x 0 65535) (sy_ps n C x r) none
    | _ => none
  | _ => none
def sx_o17 (G : SyG) (o : AmIns) (n : Nat) (C : SyL) : SyR := match sy_lk C.1 o.2.1 with
  | some x => match sy_ib2 G 0 x (sy_k o.2.2.2.1) with
    | some z => some (n + 1, (o.2.1, z) :: sy_rm false o.2.1 C.1, C.2)
    | none => none
  | none => none
def sx_o18 (G : SyG) (o : AmIns) (n : Nat) (C : SyL) : SyR := match C.2.1 with
  | x :: r => match sy_cn G o.2.2.1 x (sy_i 0) with
    | some b => some (cond b o.2.1 (n + 1), C.1, r, C.2.2)
    | none => none
  | _ => none
def sx_o19 (G : SyG) (o : AmIns) (n : Nat) (C : SyL) : SyR := match C.2.1 with
  | y :: x :: r => match sy_cn G o.2.2.1 x y with
    | some b => some (cond b o.2.1 (n + 1), C.1, r, C.2.2)
    | none => none
  | _ => none
def sx_o22 (o : AmIns) (C : SyL) : SyR := some (o.2.1, C)
def sx_o23 (o : AmIns) (C : SyL) : SyR := match C.2.1 with
  | x :: r => cond (sy_ci x) (some (am_sw o.2.2.2.2 x.2.1 o.2.1, C.1, r, C.2.2)) none
  | _ => none
def sx_o24 (G : SyG) (o : AmIns) (n : Nat) (C : SyL) : SyR := match C.2.1 with
  | x :: r => cond (Nat.beq x.1 4) (match sy_fe C.2.2.1 x with
    | some e => cond (Nat.beq e.2.1 (o.2.1 + 1)) (match sy_re G e (sy_i o.2.2.1) with
      | some v => sy_ps n C v r
      | none => none) none
    | none => none) none
  | _ => none
def sy_fit (G : SyG) (k : Nat) (a : SyV) : Bool := cond (Nat.beq k 10) (Nat.beq a.1 0 && sy_rg G a 0 1) (cond (Nat.beq k 12) (Nat.beq a.1 0 && sy_rg G a 0 65535) (cond (Nat.beq k 11) (Nat.beq a.1 0 && sy_rg G a (-128) 127) (Nat.blt k 4 && (!(Nat.beq k 2) && Nat.beq (sy_kd a) k))))
def sx_o25 (G : SyG) (X : List Nat) (o : AmIns) (n : Nat) (C : SyL) : SyR := match C.2.1 with
  | v :: x :: r => cond (Nat.beq x.1 4) (match sy_fe C.2.2.1 x with
    | some e => cond (Nat.beq e.2.1 (o.2.1 + 1) && sy_fit G o.2.2.2.1.toNat v) (match sy_wr G X C.2.2 x (sy_i o.2.2.1) v with
      | some H => some (n + 1, C.1, r, H)
      | none => none) none
    | none => none) none
  | _ => none
def sx_o26 (n : Nat) (C : SyL) : SyR := match C.2.1 with
  | x :: r => cond (sy_two x) none (sy_ps n C x (x :: r))
  | _ => none
def sx_o27 (o : AmIns) (n : Nat) (C : SyL) : SyR := match C.2.1 with
  | x :: r => cond (Nat.beq (cond (sy_two x) 2 1) (o.2.2.1 + 1)) (some (n + 1, C.1, r, C.2.2)) none
  | _ => none
def sy_dv (t : Nat) : SyV := match t with
  | 62 => (1, 0, 0, 0)
  | 65 => (5, 0, 0, 0)
  | _ => (0, 0, 0, 0)
def sx_o29 (G : SyG) (o : AmIns) (n : Nat) (C : SyL) : SyR := match C.2.1 with
  | x :: r => cond (sy_ci x && (sy_le 0 x.2.1 && (sy_le x.2.1 1000000 && (sy_rg G C.2.2.2.1 0 999999 && Nat.ble o.2.1 65))))
      (some (n + 1, C.1, (4, C.2.2.2.1.2) :: r, ((4, C.2.2.2.1.2), o.2.1, x.2.1.toNat, some (sy_dv o.2.1), []) :: C.2.2.1, (0, C.2.2.2.1.2.1 + 1, C.2.2.2.1.2.2), (0, C.2.2.2.2.1.2.1 + 1, C.2.2.2.2.1.2.2), (0, C.2.2.2.2.2.1.2.1 + x.2.1, C.2.2.2.2.2.1.2.2), C.2.2.2.2.2.2)) none
  | _ => none
/-- a new thing: its fields -/
def sy_dk (k : Nat) : SyV := match k with
  | 1 => (1, 0, 0, 0)
  | 3 => (5, 0, 0, 0)
  | _ => (0, 0, 0, 0)
def sy_fl (c : Nat) : Nat → List (SyV × SyV)
  | 0 => []
  | k + 1 => (sy_i k, sy_dk (am_fk c k)) :: sy_fl c k
def sy_ft (c : Nat) : Nat → Bool
  | 0 => true
  | k + 1 => !(Nat.beq (am_fk c k) 2) && sy_ft c k
def sx_o28 (G : SyG) (o : AmIns) (n : Nat) (C : SyL) : SyR := cond (sy_rg G C.2.2.2.1 0 999999 && sy_ft o.2.1 o.2.2.1)
  (some (n + 1, C.1, (4, C.2.2.2.1.2) :: C.2.1, ((4, C.2.2.2.1.2), o.2.1 + 1, o.2.2.1, none, sy_fl o.2.1 o.2.2.1) :: C.2.2.1, (0, C.2.2.2.1.2.1 + 1, C.2.2.2.1.2.2), (0, C.2.2.2.2.1.2.1 + 1, C.2.2.2.2.1.2.2), (0, C.2.2.2.2.2.1.2.1 + (o.2.2.1 : Int), C.2.2.2.2.2.1.2.2), C.2.2.2.2.2.2)) none
def sx_o35 (n : Nat) (C : SyL) : SyR := match C.2.1 with
  | x :: r => cond (Nat.beq x.1 4 && Nat.ble (r.map fun v => cond (sy_two v) 2 1).sum 100) (some (n + 1, C.1, r, C.2.2)) none
  | _ => none
def sx_o31 (n : Nat) (C : SyL) : SyR := match C.2.1 with
  | x :: r => cond (Nat.beq x.1 4) (match sy_fe C.2.2.1 x with
    | some e => cond (Nat.blt 60 e.2.1 && (Nat.blt e.2.1 77 && Nat.blt e.2.2.1 1000000)) (sy_ps n C (sy_i e.2.2.1) r) none
    | none => none) none
  | _ => none
def sy_in (G : SyG) (i : SyV) (z : Nat) : Bool := Nat.beq i.1 0 && sy_rg G i 0 ((z : Int) - 1)
def sx_o32 (G : SyG) (o : AmIns) (n : Nat) (C : SyL) : SyR := match C.2.1 with
  | i :: x :: r => cond (Nat.beq x.1 4) (match sy_fe C.2.2.1 x with
    | some e => cond ((Nat.beq (am_ek e.2.1) o.2.2.1 || (Nat.beq o.2.2.1 11 && Nat.beq (am_ek e.2.1) 10)) && sy_in G i e.2.2.1) (match sy_re G e i with
      | some v => sy_ps n C v r
      | none => none) none
    | none => none) none
  | _ => none
/-- a store into a row: does the value stay what it is? -/
def sy_na (G : SyG) (M : SyM) (o : AmIns) (t : Nat) (v : SyV) : Bool := match t with
  | 61 => Nat.beq (sy_kd v) 0
  | 62 => Nat.beq (sy_kd v) 1
  | 63 => Nat.beq v.1 0 && sy_rg G v 0 1
  | 64 => Nat.beq v.1 12 || (Nat.beq v.1 0 && sy_rg G v (-128) 127)
  | 65 => Nat.beq v.1 4 && (match sy_fe M v with
    | some e => Nat.beq e.2.1 (o.2.2.1 + 1)
    | none => false)
  | _ => false
def sx_o33 (G : SyG) (X : List Nat) (o : AmIns) (n : Nat) (C : SyL) : SyR := match C.2.1 with
  | v :: i :: x :: r => cond (Nat.beq x.1 4) (match sy_fe C.2.2.1 x with
    | some e => cond (sy_na G C.2.2.1 o e.2.1 v && ((Nat.beq e.2.1 o.2.1 || (Nat.beq o.2.1 64 && Nat.beq e.2.1 63)) && sy_in G i e.2.2.1)) (match sy_wr G X C.2.2 x i v with
      | some H => some (n + 1, C.1, r, H)
      | none => none) none
    | none => none) none
  | _ => none
def sx_o38 (G : SyG) (o : AmIns) (n : Nat) (C : SyL) : SyR := match C.2.1 with
  | y :: x :: r => cond (Nat.blt o.2.2.1 2 && Nat.ble (r.map fun v => cond (sy_two v) 2 1).sum 8) (match sy_cmp G x y with
    | some b => cond (Nat.beq x.1 0 && Nat.beq y.1 0) (sy_ps n C (cond (Nat.beq o.2.2.1 0) (cond (Nat.beq b 0) y x) (cond (Nat.beq b 2) y x)) r) none
    | none => none) none
  | _ => none
def sx_o39 (n : Nat) (C : SyL) : SyR := match C.2.1 with
  | x :: y :: r => cond (sy_two x || sy_two y) none (sy_ps n C x (y :: x :: y :: r))
  | _ => none
def sx_nx (G : SyG) (X : List Nat) (o : AmIns) (n : Nat) (C : SyL) : SyR :=
  cond (Nat.beq o.1 0) (sx_o0 o n C) <| cond (Nat.beq o.1 2) (sx_o2 o n C) <| cond (Nat.beq o.1 24) (sx_o24 G o n C) <| cond (Nat.beq o.1 19) (sx_o19 G o n C) <|
  cond (Nat.beq o.1 18) (sx_o18 G o n C) <| cond (Nat.beq o.1 22) (sx_o22 o C) <| cond (Nat.beq o.1 1) (sx_o1 o n C) <| cond (Nat.beq o.1 8) (sx_o8 G o n C) <|
  cond (Nat.beq o.1 32) (sx_o32 G o n C) <| cond (Nat.beq o.1 25) (sx_o25 G X o n C) <| cond (Nat.beq o.1 17) (sx_o17 G o n C) <| cond (Nat.beq o.1 33) (sx_o33 G X o n C) <|
  cond (Nat.beq o.1 31) (sx_o31 n C) <| cond (Nat.beq o.1 26) (sx_o26 n C) <| cond (Nat.beq o.1 3) (sx_o3 o n C) <| cond (Nat.beq o.1 13) (sx_o13 G n C) <|
  cond (Nat.beq o.1 14) (sx_o14 G o n C) <| cond (Nat.beq o.1 10) (sx_o10 o n C) <| cond (Nat.beq o.1 11) (sx_o11 o n C) <| cond (Nat.beq o.1 23) (sx_o23 o C) <|
  cond (Nat.beq o.1 6) (sx_o6 o n C) <| cond (Nat.beq o.1 27) (sx_o27 o n C) <| cond (Nat.beq o.1 38) (sx_o38 G o n C) <| cond (Nat.beq o.1 29) (sx_o29 G o n C) <|
  cond (Nat.beq o.1 39) (sx_o39 n C) <| cond (Nat.beq o.1 28) (sx_o28 G o n C) <| cond (Nat.beq o.1 35) (sx_o35 n C) none
/-- may the method be called? -/
def sy_mk (M : SyM) (j : Nat) (as rest : List SyV) : Bool :=
  Nat.beq as.length (am_P.2.1 j).2.1 && (Nat.ble (rest.map fun v => cond (sy_two v) 2 1).sum 8 && (Nat.ble (as.map fun v => cond (sy_two v) 2 1).sum (am_ml j) && cond (Nat.beq (am_P.2.1 j).1 1) true (match as with
    | x :: _ => Nat.beq x.1 4 && (match sy_fe M x with
      | some e => Nat.beq (e.2.1 + 1) (am_P.2.1 j).1
      | none => false)
    | _ => false)))
def sy_args : Nat → List SyV → List (Nat × SyV)
  | _, [] => []
  | i, a :: r => (i, a) :: sy_args (cond (sy_two a) (i + 2) (i + 1)) r
/-- what is known beforehand of calls: method, arguments, answer -/
abbrev SyO : Type := List (Nat × List SyV × SyV)
def sy_sl : List SyV → List SyV → Bool
  | [], [] => true
  | a :: r, b :: q => Nat.beq a.1 b.1 && ((Nat.blt a.1 9 && sy_same a b) && sy_sl r q)
  | _, _ => false
def sy_fo : SyO → Nat → List SyV → Option SyV
  | [], _, _ => none
  | q :: l, j, as => cond (Nat.beq q.1 j && sy_sl q.2.1 as) (some q.2.2) (sy_fo l j as)
def sx_call (O : SyO) (o : AmIns) (F : SyF) (rest : List SyF) (H : SyH) : Option SyC :=
  cond (Nat.blt rest.length 20 && sy_mk H.1 o.2.1 (F.2.2.2.take o.2.2.1).reverse (F.2.2.2.drop o.2.2.1)) (match sy_fo O o.2.1 (F.2.2.2.take o.2.2.1).reverse with
    | some r => some ((F.1, F.2.1 + 1, F.2.2.1, r :: F.2.2.2.drop o.2.2.1) :: rest, H)
    | none => some ((o.2.1, 0, sy_args 0 (F.2.2.2.take o.2.2.1).reverse, []) :: (F.1, F.2.1 + 1, F.2.2.1, F.2.2.2.drop o.2.2.1) :: rest, H)) none
def sx_ret (G : SyG) (o : AmIns) (st : List SyV) (rest : List SyF) (H : SyH) : Option SyC := match rest with
  | [] => none
  | F :: r => match st with
    | [] => cond (Nat.beq o.2.2.1 9) (some ((F.1, F.2.1, F.2.2.1, F.2.2.2) :: r, H)) none
    | v :: [] => cond (sy_fit G o.2.2.1 v && !(Nat.beq o.2.2.1 3)) (some ((F.1, F.2.1, F.2.2.1, v :: F.2.2.2) :: r, H)) none
    | _ => none
