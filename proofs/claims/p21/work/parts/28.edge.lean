/-! EDGES: a run from one description to another. -/
/-- a value over other parameters -/
def sy_sp : List (Nat × SyV) → Nat → SyV
  | [], p => (0, 0, p, 1)
  | q :: l, p => cond (Nat.beq q.1 p) q.2 (sy_sp l p)
def sy_su (s : List (Nat × SyV)) (a : SyV) : SyV := cond (Nat.beq a.2.2.2 0) a (a.1, a.2.1 + a.2.2.2 * (sy_sp s a.2.2.1).2.1, (sy_sp s a.2.2.1).2.2.1, a.2.2.2 * (sy_sp s a.2.2.1).2.2.2)
def sy_suE (s : List (Nat × SyV)) (e : SyE) : SyE := (sy_su s e.1, e.2.1, e.2.2.1, e.2.2.2.1.map (sy_su s), e.2.2.2.2.map (fun p => (sy_su s p.1, sy_su s p.2)))
/-- b is at least what a says -/
def sy_lv (a b : SyV) : Bool := cond (Nat.beq a.1 2) (Nat.beq b.1 0 || Nat.beq b.1 2) (cond (Nat.beq a.1 3) (Nat.beq b.1 1 || Nat.beq b.1 3) (cond (Nat.beq a.1 7) (Nat.beq b.1 4 || (Nat.beq b.1 5 || Nat.beq b.1 7)) (Nat.beq a.1 b.1 && (Nat.beq a.1 5 || sy_same a b))))
def sy_lst : List SyV → List SyV → Bool
  | [], [] => true
  | a :: r, b :: q => sy_lv a b && sy_lst r q
  | _, _ => false
def sy_llo : List (Nat × SyV) → List (Nat × SyV) → Bool
  | [], _ => true
  | p :: l, m => (match sy_lk m p.1 with
    | some b => sy_lv p.2 b
    | none => false) && sy_llo l m
/-- a place is told by one of the cells -/
def sy_lpl (M : SyM) (a : SyV) (p : SyV × SyV) : Bool := M.any (fun e => sy_same e.1 a && e.2.2.2.2.any (fun q => sy_same q.1 p.1 && sy_lv p.2 q.2))
def sy_ldf (M : SyM) (a d : SyV) (pl : List (SyV × SyV)) : Bool := M.any (fun e => sy_same e.1 a && ((match e.2.2.2.1 with
  | some d2 => sy_lv d d2
  | none => false) && e.2.2.2.2.all (fun q => sy_lv d q.2 || pl.any (fun p => sy_same p.1 q.1))))
/-- where a place isn't told, but what is there where nothing is told -/
def sy_lpd (G : SyG) (M : SyM) (a : SyV) (p : SyV × SyV) : Bool := M.any (fun e => sy_same e.1 a && (match sy_re G e p.1 with
  | some v => sy_lv p.2 v
  | none => false))
def sy_lE (G : SyG) (M : SyM) (e : SyE) : Bool := M.any (fun b => sy_same b.1 e.1 && (Nat.beq b.2.1 e.2.1 && Nat.beq b.2.2.1 e.2.2.1)) &&
  (e.2.2.2.2.all (fun p => sy_lpl M e.1 p || sy_lpd G M e.1 p) && (match e.2.2.2.1 with
    | none => true
    | some d => sy_ldf M e.1 d e.2.2.2.2))
def sy_lM (G : SyG) (A M : SyM) : Bool := A.all (sy_lE G M)
def sy_lF (s : List (Nat × SyV)) : List SyF → List SyF → Bool
  | [], [] => true
  | F :: r, D :: q => Nat.beq F.1 D.1 && (Nat.beq F.2.1 D.2.1 && (sy_llo (F.2.2.1.map (fun p => (p.1, sy_su s p.2))) D.2.2.1 && (sy_lst (F.2.2.2.map (sy_su s)) D.2.2.2 && sy_lF s r q)))
  | _, _ => false
/-- a cell, least and greatest place -/
abbrev SyW : Type := List (SyV × SyV × SyV)
def sy_ge (G : SyG) (a b : SyV) : Bool := match sy_cmp G a b with
  | some r => !(Nat.beq r 0)
  | none => false
def sy_lw (G : SyG) (L : SyW) (w : List (SyV × SyV)) : Bool := w.all (fun p => L.any (fun q => sy_same q.1 p.1 && (sy_ge G p.2 q.2.1 && sy_ge G q.2.2 p.2)))
/-- the description T, its parameters put as s tells, holds of C; what was written lies within L -/
def sx_le (G : SyG) (L : SyW) (s : List (Nat × SyV)) (T C : SyC) : Bool := sy_lF s T.1 C.1 && (sy_lM G (T.2.1.map (sy_suE s)) C.2.1 && (sy_lv (sy_su s T.2.2.1) C.2.2.1 && (sy_lv (sy_su s T.2.2.2.1) C.2.2.2.1 && (sy_lv (sy_su s T.2.2.2.2.1) C.2.2.2.2.1 && sy_lw G L C.2.2.2.2.2))))
def sx_ed (G : SyG) (X : List Nat) (O : SyO) (stops : List (Nat × Nat × Nat)) (f : Nat) (L : SyW) (s : List (Nat × SyV)) (A T : SyC) : Bool := match sx_go G X O stops f A with
  | some C => sx_le G L s T C
  | none => false
