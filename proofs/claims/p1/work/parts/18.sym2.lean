/-! THE MACHINE OVER SYMBOLS. -/
def ay_any : Int32 := ay_sy 255
def ay_o8 (O : AyO) (o : AmIns) (n : Nat) (ls : AmL) (st : List Value) (S : AmS) : AmR := match st with
  | .int y :: .int x :: r => cond (!ay_m x && !ay_m y) (match am_ib o.2.2.1 x y with
      | some z => cond (!ay_m z) (some (n + 1, ls, .int z :: r, S)) none
      | none => none)
    (cond (Nat.beq o.2.2.1 5 && (decide (x = ay_sy 0) && (decide (y = 31) && !ay_m O.1))) (some (n + 1, ls, .int O.1 :: r, S))
      (cond (Nat.blt o.2.2.1 3 || (Nat.blt 4 o.2.2.1 && Nat.blt o.2.2.1 10)) (some (n + 1, ls, .int ay_any :: r, S)) none))
  | _ => none
def ay_o13 (n : Nat) (ls : AmL) (st : List Value) (S : AmS) : AmR := match st with
  | .long y :: .long x :: r => cond (!ay_ml x && !ay_ml y) (cond (!ay_m (lg_cmp x y)) (some (n + 1, ls, .int (lg_cmp x y) :: r, S)) none)
      (cond (decide (x = y) && Nat.blt (ay_kl x) 6) (some (n + 1, ls, .int 0 :: r, S)) none)
  | _ => none
def ay_o14 (o : AmIns) (n : Nat) (ls : AmL) (st : List Value) (S : AmS) : AmR := match st with
  | v :: r => cond (ay_pl v) (match am_cv o.2.2.1 v with
      | some w => cond (ay_pl w) (some (n + 1, ls, w :: r, S)) none
      | none => none) (match v with
      | .int x => cond (Nat.beq o.2.2.1 0) (some (n + 1, ls, .long (ay_sl (ay_k x)) :: r, S)) (cond (Nat.beq o.2.2.1 2 || (Nat.beq o.2.2.1 3 || Nat.beq o.2.2.1 5)) (some (n + 1, ls, .int ay_any :: r, S)) none)
      | _ => none)
  | _ => none
def ay_o17 (o : AmIns) (n : Nat) (ls : AmL) (st : List Value) (S : AmS) : AmR := match am_lk ls o.2.1 with
  | some (.int x) => cond (!ay_m x && !ay_m (x + Int32.ofInt o.2.2.2.1)) (some (n + 1, (o.2.1, .int (x + Int32.ofInt o.2.2.2.1)) :: ls.filter (fun q => !(q.1 == o.2.1) && !(q.1 + 1 == o.2.1 && q.2.category == 2)), st, S))
      (some (n + 1, (o.2.1, .int ay_any) :: ls.filter (fun q => !(q.1 == o.2.1) && !(q.1 + 1 == o.2.1 && q.2.category == 2)), st, S))
  | _ => none
def ay_o18 (O : AyO) (o : AmIns) (n : Nat) (ls : AmL) (st : List Value) (S : AmS) : AmR := match st with
  | .int x :: r => cond (ay_m x) (match ay_iv O o.2.2.1 x 0 with
      | some t => some (cond t o.2.1 (n + 1), ls, r, S)
      | none => none) (some (cond (am_cn o.2.2.1 x 0) o.2.1 (n + 1), ls, r, S))
  | _ => none
def ay_o19 (O : AyO) (o : AmIns) (n : Nat) (ls : AmL) (st : List Value) (S : AmS) : AmR := match st with
  | .int y :: .int x :: r => cond (ay_m y) none (cond (ay_m x) (match ay_iv O o.2.2.1 x y with
      | some t => some (cond t o.2.1 (n + 1), ls, r, S)
      | none => none) (some (cond (am_cn o.2.2.1 x y) o.2.1 (n + 1), ls, r, S)))
  | _ => none
def ay_sw (lo hi : Int) : List (Int × Nat) → Bool
  | [] => true
  | q :: l => (decide (q.1 < lo) || decide (hi < q.1)) && ay_sw lo hi l
def ay_o23 (O : AyO) (o : AmIns) (n : Nat) (ls : AmL) (st : List Value) (S : AmS) : AmR := match st with
  | .int x :: r => cond (ay_m x) (cond (Nat.blt (ay_k x) 6) (cond (decide ((O.2.getD (ay_k x) (0, 0)).1 = (O.2.getD (ay_k x) (0, 0)).2)) (some (am_sw o.2.2.2.2 (O.2.getD (ay_k x) (0, 0)).1 o.2.1, ls, r, S))
      (cond (ay_sw (O.2.getD (ay_k x) (0, 0)).1 (O.2.getD (ay_k x) (0, 0)).2 o.2.2.2.2) (some (o.2.1, ls, r, S)) none)) none) (some (am_sw o.2.2.2.2 x.toInt o.2.1, ls, r, S))
  | _ => none
def ay_o25 (o : AmIns) (n : Nat) (ls : AmL) (st : List Value) (S : AmS) : AmR := match st with
  | v :: .ref k :: r => cond ((ay_pl v || Nat.blt o.2.2.2.1.toNat 4) && (Nat.beq (S.1 k).1 (o.2.1 + 1) && (Nat.blt k S.2.2.1 && am_fit o.2.2.2.1.toNat v))) (some (n + 1, ls, r, (S.1, am_upM S.2.1 k o.2.2.1 v, S.2.2))) none
  | _ => none
def ay_o33 (o : AmIns) (n : Nat) (ls : AmL) (st : List Value) (S : AmS) : AmR := match st with
  | v :: .int i :: .ref k :: r => cond (!ay_m i && ((Nat.beq (S.1 k).1 o.2.1 || (Nat.beq o.2.1 64 && Nat.beq (S.1 k).1 63)) && (am_in i (S.1 k).2 && (Nat.blt k S.2.2.1 && cond (Nat.beq o.2.1 65) (match v with
      | .ref q => Nat.beq (S.1 q).1 (o.2.2.1 + 1)
      | _ => false) (Nat.beq (am_kd v) (cond (Nat.beq o.2.1 62) 1 0))))))
      (cond (Nat.beq (S.1 k).1 63 || Nat.beq (S.1 k).1 64) (cond (ay_pl v) (cond (ay_pl (am_nar (S.1 k).1 v)) (some (n + 1, ls, r, (S.1, am_upM S.2.1 k i.toNatClampNeg (am_nar (S.1 k).1 v), S.2.2))) none)
        (cond (Nat.beq (S.1 k).1 64) (some (n + 1, ls, r, (S.1, am_upM S.2.1 k i.toNatClampNeg (.int ay_any), S.2.2))) none))
        (some (n + 1, ls, r, (S.1, am_upM S.2.1 k i.toNatClampNeg v, S.2.2)))) none
  | _ => none
def ay_o32 (o : AmIns) (n : Nat) (ls : AmL) (st : List Value) (S : AmS) : AmR := match st with
  | .int i :: r => cond (!ay_m i) (am_o32 o n ls (.int i :: r) S) none
  | _ => none
def ay_o29 (o : AmIns) (n : Nat) (ls : AmL) (st : List Value) (S : AmS) : AmR := match st with
  | .int i :: r => cond (!ay_m i) (am_o29 o n ls (.int i :: r) S) none
  | _ => none
def ay_o10 (o : AmIns) (n : Nat) (ls : AmL) (st : List Value) (S : AmS) : AmR := match st with
  | .long y :: .long x :: r => cond (!ay_ml x && !ay_ml y) (match am_lb o.2.2.1 x y with
      | some z => cond (!ay_ml z) (some (n + 1, ls, .long z :: r, S)) none
      | none => none) none
  | _ => none
def ay_top (q : AmR) : AmR := match q with
  | some (n, ls, v :: r, S) => cond (ay_pl v) (some (n, ls, v :: r, S)) none
  | _ => none
def ay_o38 (o : AmIns) (n : Nat) (ls : AmL) (st : List Value) (S : AmS) : AmR := match st with
  | .int y :: .int x :: r => cond ((!ay_m x && !ay_m y) && Nat.ble (r.map fun v => v.category).sum 8) (cond (Nat.beq o.2.2.1 0) (some (n + 1, ls, .int (cond (decide (x < y)) y x) :: r, S)) (cond (Nat.beq o.2.2.1 1) (some (n + 1, ls, .int (cond (decide (y < x)) y x) :: r, S)) none)) none
  | _ => none
def ay_nxt (O : AyO) (o : AmIns) (n : Nat) (ls : AmL) (st : List Value) (S : AmS) : AmR :=
  cond (Nat.beq o.1 0) (am_o0 o n ls st S) <| cond (Nat.beq o.1 24) (am_o24 o n ls st S) <| cond (Nat.beq o.1 2) (ay_top (am_o2 o n ls st S)) <| cond (Nat.beq o.1 19) (ay_o19 O o n ls st S) <|
  cond (Nat.beq o.1 18) (ay_o18 O o n ls st S) <| cond (Nat.beq o.1 32) (ay_o32 o n ls st S) <| cond (Nat.beq o.1 25) (ay_o25 o n ls st S) <| cond (Nat.beq o.1 22) (am_o22 o n ls st S) <|
  cond (Nat.beq o.1 1) (am_o1 o n ls st S) <| cond (Nat.beq o.1 8) (ay_o8 O o n ls st S) <| cond (Nat.beq o.1 33) (ay_o33 o n ls st S) <| cond (Nat.beq o.1 26) (am_o26 o n ls st S) <|
  cond (Nat.beq o.1 29) (ay_o29 o n ls st S) <| cond (Nat.beq o.1 17) (ay_o17 o n ls st S) <| cond (Nat.beq o.1 3) (ay_top (am_o3 o n ls st S)) <| cond (Nat.beq o.1 13) (ay_o13 n ls st S) <|
  cond (Nat.beq o.1 31) (ay_top (am_o31 o n ls st S)) <| cond (Nat.beq o.1 14) (ay_o14 o n ls st S) <| cond (Nat.beq o.1 6) (am_o6 o n ls st S) <| cond (Nat.beq o.1 10) (ay_o10 o n ls st S) <|
  cond (Nat.beq o.1 28) (am_o28 o n ls st S am_fk) <| cond (Nat.beq o.1 20) (am_o20 o n ls st S) <| cond (Nat.beq o.1 23) (ay_o23 O o n ls st S) <|
  cond (Nat.beq o.1 35) (am_o35 o n ls st S) <| cond (Nat.beq o.1 27) (am_o27 o n ls st S) <| cond (Nat.beq o.1 4) (am_o4 o n ls st S) <| cond (Nat.beq o.1 5) (am_o5 o n ls st S) <|
  cond (Nat.beq o.1 16) (ay_top (am_o16 o n ls st S)) <| cond (Nat.beq o.1 38) (ay_o38 o n ls st S) none
/-- a step of one and of the other -/
def ay_X (xs : Nat → Int32) (q : AmR) (n' : Nat) (ls' : AmL) (st' : List Value) (S' : AmS) : Prop := ∃ ls1 st1 S1, q = some (n', ls1, st1, S1) ∧ ay_ls xs ls' ls1 ∧ ay_st xs st' st1 ∧ ay_S xs S' S1
theorem ay_cmp (x : Int64) : lg_cmp x x = 0 := by
  unfold lg_cmp
  simp
set_option maxRecDepth 100000 in
theorem ay_sls : (List.range 256).all (fun k => ay_ml (ay_sl k) && Nat.beq (ay_kl (ay_sl k)) k) = true := by decide +kernel
theorem ay_slk {k : Nat} (h : k < 256) : ay_ml (ay_sl k) = true ∧ ay_kl (ay_sl k) = k := by
  obtain ⟨h1, h2⟩ := Bool.and_eq_true_iff.mp (List.all_eq_true.mp ay_sls k (List.mem_range.mpr h))
  exact ⟨h1, am_beq h2⟩
section AyO1
variable {O : AyO} {xs : Nat → Int32} {n n' : Nat} {o : AmIns} {ls ls' ls1 : AmL} {st st' st1 : List Value} {S S' S1 : AmS}
theorem ay_topE {q : AmR} (h : ay_top q = some (n', ls', st', S')) : q = some (n', ls', st', S') ∧ ∃ v r, st' = v :: r ∧ ay_pl v = true := by
  unfold ay_top at h
  split at h
  · obtain ⟨h1, h2⟩ := am_cnd h
    cases h2
    exact ⟨rfl, _, _, rfl, h1⟩
  · cases h
theorem ay_nt {b : Bool} (h : (!b) = true) : b = false := by cases b <;> first | rfl | cases h
theorem ay_upM {k j : Nat} {v w : Value} {M M1 : Nat → Nat → Value} (h : ∀ k j, ay_v xs (M k j) (M1 k j)) (hv : ay_v xs v w) : ∀ a i, ay_v xs (am_upM M k j v a i) (am_upM M1 k j w a i) := by
  intro a i
  unfold am_upM
  cases Nat.beq a k
  · exact h a i
  · cases Nat.beq i j
    · exact h a i
    · exact hv
theorem ay_newM {k : Nat} {d e : Nat → Value} {M M1 : Nat → Nat → Value} (h : ∀ k j, ay_v xs (M k j) (M1 k j)) (hv : ∀ j, ay_v xs (d j) (e j)) : ∀ a i, ay_v xs (am_newM M k d a i) (am_newM M1 k e a i) := by
  intro a i
  unfold am_newM
  cases Nat.beq a k
  · exact h a i
  · exact hv i
theorem ay_dv (k : Nat) : ay_v xs (am_dv k) (am_dv k) := by
  refine ay_pv ?_
  unfold am_dv
  split <;> rfl
theorem ay_x0 (h : am_o0 o n ls st S = some (n', ls', st', S')) (hl : ay_ls xs ls ls1) (hs : ay_st xs st st1) (hS : ay_S xs S S1) : ay_X xs (am_o0 o n ls1 st1 S1) n' ls' st' S' := by
  unfold am_o0 at h ⊢
  split at h
  · rename_i v hv
    obtain ⟨h1, h2⟩ := am_cnd h
    cases h2
    obtain ⟨w, hw, hvw⟩ := hl.lk hv
    rw [hw]
    dsimp only
    rw [hvw.kd, h1]
    exact ⟨_, _, _, rfl, hl, ⟨hvw, hs⟩, hS⟩
  · cases h
theorem ay_x1 (h : am_o1 o n ls st S = some (n', ls', st', S')) (hl : ay_ls xs ls ls1) (hs : ay_st xs st st1) (hS : ay_S xs S S1) : ay_X xs (am_o1 o n ls1 st1 S1) n' ls' st' S' := by
  unfold am_o1 at h ⊢
  split at h
  · rename_i v r
    obtain ⟨w, q, rfl, hv, hs1⟩ := hs.cons
    obtain ⟨h1, h2⟩ := am_cnd h
    dsimp only
    rw [hv.kd, h1, hv.cat]
    simp only [cond_true]
    cases hB : Nat.beq v.category 1 with
    | true =>
      rw [hB] at h2
      cases h2
      exact ⟨_, _, _, rfl, ⟨⟨rfl, hv⟩, ay_ls.filter _ (fun p q e1 e2 => by simp only [e1, e2]) hl⟩, hs1, hS⟩
    | false =>
      rw [hB] at h2
      cases h2
      exact ⟨_, _, _, rfl, ⟨⟨rfl, hv⟩, ay_ls.filter _ (fun p q e1 e2 => by simp only [e1, e2]) hl⟩, hs1, hS⟩
  · cases h
theorem ay_x2 (h : ay_top (am_o2 o n ls st S) = some (n', ls', st', S')) (hl : ay_ls xs ls ls1) (hs : ay_st xs st st1) (hS : ay_S xs S S1) : ay_X xs (am_o2 o n ls1 st1 S1) n' ls' st' S' := by
  obtain ⟨h, v, r, e, hp⟩ := ay_topE h
  unfold am_o2 at h ⊢
  cases h
  cases e
  exact ⟨_, _, _, rfl, hl, ⟨ay_pv hp, hs⟩, hS⟩
theorem ay_x3 (h : ay_top (am_o3 o n ls st S) = some (n', ls', st', S')) (hl : ay_ls xs ls ls1) (hs : ay_st xs st st1) (hS : ay_S xs S S1) : ay_X xs (am_o3 o n ls1 st1 S1) n' ls' st' S' := by
  obtain ⟨h, v, r, e, hp⟩ := ay_topE h
  unfold am_o3 at h ⊢
  cases h
  cases e
  exact ⟨_, _, _, rfl, hl, ⟨ay_pv hp, hs⟩, hS⟩
theorem ay_x4 (h : am_o4 o n ls st S = some (n', ls', st', S')) (hl : ay_ls xs ls ls1) (hs : ay_st xs st st1) (hS : ay_S xs S S1) : ay_X xs (am_o4 o n ls1 st1 S1) n' ls' st' S' := by
  unfold am_o4 at h ⊢
  cases h
  exact ⟨_, _, _, rfl, hl, ⟨rfl, hs⟩, hS⟩
theorem ay_x5 (h : am_o5 o n ls st S = some (n', ls', st', S')) (hl : ay_ls xs ls ls1) (hs : ay_st xs st st1) (hS : ay_S xs S S1) : ay_X xs (am_o5 o n ls1 st1 S1) n' ls' st' S' := by
  unfold am_o5 at h ⊢
  cases h
  exact ⟨_, _, _, rfl, hl, ⟨rfl, hs⟩, hS⟩
theorem ay_x6 (h : am_o6 o n ls st S = some (n', ls', st', S')) (hl : ay_ls xs ls ls1) (hs : ay_st xs st st1) (hS : ay_S xs S S1) : ay_X xs (am_o6 o n ls1 st1 S1) n' ls' st' S' := by
  unfold am_o6 at h ⊢
  cases h
  exact ⟨_, _, _, rfl, hl, ⟨rfl, hs⟩, hS⟩
theorem ay_x8 (hO : ay_H O xs) (h : ay_o8 O o n ls st S = some (n', ls', st', S')) (hl : ay_ls xs ls ls1) (hs : ay_st xs st st1) (hS : ay_S xs S S1) : ay_X xs (am_o8 o n ls1 st1 S1) n' ls' st' S' := by
  unfold ay_o8 at h
  split at h
  · rename_i y x r
    obtain ⟨w1, q1, rfl, ⟨y1, rfl, hy⟩, hs1⟩ := hs.cons
    obtain ⟨w2, q2, rfl, ⟨x1, rfl, hx⟩, hs2⟩ := hs1.cons
    unfold am_o8
    dsimp only
    cases hc : (!ay_m x && !ay_m y) with
    | true =>
      rw [hc] at h
      obtain ⟨c1, c2⟩ := Bool.and_eq_true_iff.mp hc
      rw [hx.1 (ay_nt c1), hy.1 (ay_nt c2)]
      simp only [cond_true] at h
      split at h
      · rename_i z hz
        obtain ⟨h1, h2⟩ := am_cnd h
        cases h2
        rw [hz]
        exact ⟨_, _, _, rfl, hl, ⟨ay_pv h1, hs2⟩, hS⟩
      · cases h
    | false =>
      rw [hc] at h
      simp only [cond_false] at h
      cases hd : (Nat.beq o.2.2.1 5 && (decide (x = ay_sy 0) && (decide (y = 31) && !ay_m O.1))) with
      | true =>
        rw [hd] at h
        cases h
        obtain ⟨d1, d2⟩ := Bool.and_eq_true_iff.mp hd
        obtain ⟨d2, d3⟩ := Bool.and_eq_true_iff.mp d2
        obtain ⟨d3, d4⟩ := Bool.and_eq_true_iff.mp d3
        have d2 := of_decide_eq_true d2
        have d3 := of_decide_eq_true d3
        rw [am_beq d1, hy.1 (by rw [d3]; decide), d3, hx.2 (by rw [d2]; decide) (by rw [d2]; decide), show ay_k x = 0 by rw [d2]; decide]
        have e : am_ib 5 (xs 0) 31 = some O.1 := by show some (xs 0 &&& 31) = _; rw [hO.1]
        rw [e]
        exact ⟨_, _, _, rfl, hl, ⟨ay_pv d4, hs2⟩, hS⟩
      | false =>
        rw [hd] at h
        obtain ⟨h1, h2⟩ := am_cnd h
        cases h2
        have ht : ∃ z, am_ib o.2.2.1 x1 y1 = some z := by
          generalize o.2.2.1 = b at h1
          match b with
          | 0 => exact ⟨_, rfl⟩
          | 1 => exact ⟨_, rfl⟩
          | 2 => exact ⟨_, rfl⟩
          | 3 => cases h1
          | 4 => cases h1
          | 5 => exact ⟨_, rfl⟩
          | 6 => exact ⟨_, rfl⟩
          | 7 => exact ⟨_, rfl⟩
          | 8 => exact ⟨_, rfl⟩
          | 9 => exact ⟨_, rfl⟩
          | b + 10 =>
            rcases Bool.or_eq_true_iff.mp h1 with z | z
            · have := am_blt z; omega
            · have := am_blt (Bool.and_eq_true_iff.mp z).2; omega
        obtain ⟨z, hz⟩ := ht
        rw [hz]
        exact ⟨_, _, _, rfl, hl, ⟨⟨z, rfl, fun e => absurd e (by decide), fun _ e => absurd e (by decide)⟩, hs2⟩, hS⟩
  · cases h
theorem ay_x10 (h : ay_o10 o n ls st S = some (n', ls', st', S')) (hl : ay_ls xs ls ls1) (hs : ay_st xs st st1) (hS : ay_S xs S S1) : ay_X xs (am_o10 o n ls1 st1 S1) n' ls' st' S' := by
  unfold ay_o10 at h
  split at h
  · rename_i y x r
    obtain ⟨w1, q1, rfl, ⟨y1, rfl, hy⟩, hs1⟩ := hs.cons
    obtain ⟨w2, q2, rfl, ⟨x1, rfl, hx⟩, hs2⟩ := hs1.cons
    unfold am_o10
    dsimp only
    obtain ⟨hc, h⟩ := am_cnd h
    obtain ⟨c1, c2⟩ := Bool.and_eq_true_iff.mp hc
    rw [hx.1 (ay_nt c1), hy.1 (ay_nt c2)]
    split at h
    · rename_i z hz
      obtain ⟨h1, h2⟩ := am_cnd h
      cases h2
      rw [hz]
      exact ⟨_, _, _, rfl, hl, ⟨ay_pv h1, hs2⟩, hS⟩
    · cases h
  · cases h
theorem ay_x13 (h : ay_o13 n ls st S = some (n', ls', st', S')) (hl : ay_ls xs ls ls1) (hs : ay_st xs st st1) (hS : ay_S xs S S1) : ay_X xs (am_o13 o n ls1 st1 S1) n' ls' st' S' := by
  unfold ay_o13 at h
  split at h
  · rename_i y x r
    obtain ⟨w1, q1, rfl, ⟨y1, rfl, hy⟩, hs1⟩ := hs.cons
    obtain ⟨w2, q2, rfl, ⟨x1, rfl, hx⟩, hs2⟩ := hs1.cons
    unfold am_o13
    dsimp only
    cases hc : (!ay_ml x && !ay_ml y) with
    | true =>
      rw [hc] at h
      obtain ⟨c1, c2⟩ := Bool.and_eq_true_iff.mp hc
      rw [hx.1 (ay_nt c1), hy.1 (ay_nt c2)]
      obtain ⟨h1, h2⟩ := am_cnd h
      cases h2
      exact ⟨_, _, _, rfl, hl, ⟨ay_pv h1, hs2⟩, hS⟩
    | false =>
      rw [hc] at h
      obtain ⟨h1, h2⟩ := am_cnd h
      cases h2
      obtain ⟨d1, d2⟩ := Bool.and_eq_true_iff.mp h1
      have d1 := of_decide_eq_true d1
      have d2 := am_blt d2
      have hm : ay_ml x = true := by
        cases e : ay_ml x with
        | true => rfl
        | false => rw [← d1, e] at hc; cases hc
      have e1 := hx.2 hm d2
      have e2 := hy.2 (by rw [← d1]; exact hm) (by rw [← d1]; exact d2)
      rw [← d1] at e2
      have e3 : lg_cmp x1 y1 = 0 := by
        rw [e1, e2]
        exact ay_cmp _
      rw [e3]
      exact ⟨_, _, _, rfl, hl, ⟨ay_pv (by decide), hs2⟩, hS⟩
  · cases h
theorem ay_x14 (h : ay_o14 o n ls st S = some (n', ls', st', S')) (hl : ay_ls xs ls ls1) (hs : ay_st xs st st1) (hS : ay_S xs S S1) : ay_X xs (am_o14 o n ls1 st1 S1) n' ls' st' S' := by
  unfold ay_o14 at h
  split at h
  · rename_i v r
    obtain ⟨w1, q1, rfl, hv, hs1⟩ := hs.cons
    unfold am_o14
    dsimp only
    cases hc : ay_pl v with
    | true =>
      rw [hc] at h
      rw [hv.pl hc]
      simp only [cond_true] at h
      split at h
      · rename_i w hw
        obtain ⟨h1, h2⟩ := am_cnd h
        cases h2
        rw [hw]
        exact ⟨_, _, _, rfl, hl, ⟨ay_pv h1, hs1⟩, hS⟩
      · cases h
    | false =>
      rw [hc] at h
      simp only [cond_false] at h
      split at h
      · rename_i x
        obtain ⟨y, rfl, hy⟩ := hv
        have hm : ay_m x = true := by
          cases e : ay_m x with
          | true => rfl
          | false => rw [show ay_pl (.int x) = !ay_m x from rfl, e] at hc; cases hc
        cases hb : Nat.beq o.2.2.1 0 with
        | true =>
          rw [hb] at h
          cases h
          rw [am_beq hb]
          obtain ⟨k1, k2⟩ := ay_slk (show ay_k x < 256 from Nat.mod_lt _ (by decide))
          exact ⟨_, _, _, rfl, hl, ⟨⟨y.toInt64, rfl, (fun e => by rw [k1] at e; cases e), (fun _ e => by rw [k2] at e ⊢; rw [hy.2 hm e])⟩, hs1⟩, hS⟩
        | false =>
          rw [hb] at h
          obtain ⟨h1, h2⟩ := am_cnd h
          cases h2
          have hz : ∃ z, am_cv o.2.2.1 (.int y) = some (.int z) := by
            rcases Bool.or_eq_true_iff.mp h1 with z | z
            · rw [am_beq z]; exact ⟨_, rfl⟩
            · rcases Bool.or_eq_true_iff.mp z with z | z
              · rw [am_beq z]; exact ⟨_, rfl⟩
              · rw [am_beq z]; exact ⟨_, rfl⟩
          obtain ⟨z, hz⟩ := hz
          rw [hz]
          exact ⟨_, _, _, rfl, hl, ⟨⟨z, rfl, fun e => absurd e (by decide), fun _ e => absurd e (by decide)⟩, hs1⟩, hS⟩
      · cases h
  · cases h
theorem ay_x16 (h : ay_top (am_o16 o n ls st S) = some (n', ls', st', S')) (hl : ay_ls xs ls ls1) (hs : ay_st xs st st1) (hS : ay_S xs S S1) : ay_X xs (am_o16 o n ls1 st1 S1) n' ls' st' S' := by
  obtain ⟨h, v, r, e, hp⟩ := ay_topE h
  unfold am_o16 at h
  split at h
  · rename_i y x r9
    obtain ⟨w1, q1, rfl, hy, hs1⟩ := hs.cons
    obtain ⟨w2, q2, rfl, hx, hs2⟩ := hs1.cons
    rw [show w1 = _ from hy, show w2 = _ from hx]
    cases h
    cases e
    exact ⟨_, _, _, rfl, hl, ⟨ay_pv hp, hs2⟩, hS⟩
  · cases h
theorem ay_x17 (h : ay_o17 o n ls st S = some (n', ls', st', S')) (hl : ay_ls xs ls ls1) (hs : ay_st xs st st1) (hS : ay_S xs S S1) : ay_X xs (am_o17 o n ls1 st1 S1) n' ls' st' S' := by
  unfold ay_o17 at h
  unfold am_o17
  split at h
  · rename_i x hv
    obtain ⟨w, hw, y, rfl, hy⟩ := hl.lk hv
    rw [hw]
    dsimp only
    cases hc : (!ay_m x && !ay_m (x + Int32.ofInt o.2.2.2.1)) with
    | true =>
      rw [hc] at h
      cases h
      obtain ⟨c1, c2⟩ := Bool.and_eq_true_iff.mp hc
      rw [hy.1 (ay_nt c1)]
      exact ⟨_, _, _, rfl, ⟨⟨rfl, ay_pv c2⟩, ay_ls.filter _ (fun p q e1 e2 => by simp only [e1, e2]) hl⟩, hs, hS⟩
    | false =>
      rw [hc] at h
      cases h
      exact ⟨_, _, _, rfl, ⟨⟨rfl, ⟨_, rfl, fun e => absurd e (by decide), fun _ e => absurd e (by decide)⟩⟩, ay_ls.filter _ (fun p q e1 e2 => by simp only [e1, e2]) hl⟩, hs, hS⟩
  · cases h
theorem ay_x18 (hO : ay_H O xs) (h : ay_o18 O o n ls st S = some (n', ls', st', S')) (hl : ay_ls xs ls ls1) (hs : ay_st xs st st1) (hS : ay_S xs S S1) : ay_X xs (am_o18 o n ls1 st1 S1) n' ls' st' S' := by
  unfold ay_o18 at h
  split at h
  · rename_i x r
    obtain ⟨w1, q1, rfl, ⟨y, rfl, hy⟩, hs1⟩ := hs.cons
    unfold am_o18
    dsimp only
    cases hc : ay_m x with
    | true =>
      rw [hc] at h
      simp only [cond_true] at h
      split at h
      · rename_i t ht
        cases h
        rw [ay_iv_ok hO ht hc hy]
        exact ⟨_, _, _, rfl, hl, hs1, hS⟩
      · cases h
    | false =>
      rw [hc] at h
      cases h
      rw [hy.1 hc]
      exact ⟨_, _, _, rfl, hl, hs1, hS⟩
  · cases h
theorem ay_x19 (hO : ay_H O xs) (h : ay_o19 O o n ls st S = some (n', ls', st', S')) (hl : ay_ls xs ls ls1) (hs : ay_st xs st st1) (hS : ay_S xs S S1) : ay_X xs (am_o19 o n ls1 st1 S1) n' ls' st' S' := by
  unfold ay_o19 at h
  split at h
  · rename_i y x r
    obtain ⟨w1, q1, rfl, ⟨y1, rfl, hy⟩, hs1⟩ := hs.cons
    obtain ⟨w2, q2, rfl, ⟨x1, rfl, hx⟩, hs2⟩ := hs1.cons
    unfold am_o19
    dsimp only
    cases hcy : ay_m y with
    | true => rw [hcy] at h; cases h
    | false =>
      rw [hcy] at h
      simp only [cond_false] at h
      rw [hy.1 hcy]
      cases hc : ay_m x with
      | true =>
        rw [hc] at h
        simp only [cond_true] at h
        split at h
        · rename_i t ht
          cases h
          rw [ay_iv_ok hO ht hc hx]
          exact ⟨_, _, _, rfl, hl, hs2, hS⟩
        · cases h
      | false =>
        rw [hc] at h
        cases h
        rw [hx.1 hc]
        exact ⟨_, _, _, rfl, hl, hs2, hS⟩
  · cases h
theorem ay_x20 (h : am_o20 o n ls st S = some (n', ls', st', S')) (hl : ay_ls xs ls ls1) (hs : ay_st xs st st1) (hS : ay_S xs S S1) : ay_X xs (am_o20 o n ls1 st1 S1) n' ls' st' S' := by
  unfold am_o20 at h
  split at h
  · obtain ⟨w1, q1, rfl, hv, hs1⟩ := hs.cons
    rw [show w1 = _ from hv]
    cases h
    exact ⟨_, _, _, rfl, hl, hs1, hS⟩
  · obtain ⟨w1, q1, rfl, hv, hs1⟩ := hs.cons
    rw [show w1 = _ from hv]
    cases h
    exact ⟨_, _, _, rfl, hl, hs1, hS⟩
  · cases h
theorem ay_x22 (h : am_o22 o n ls st S = some (n', ls', st', S')) (hl : ay_ls xs ls ls1) (hs : ay_st xs st st1) (hS : ay_S xs S S1) : ay_X xs (am_o22 o n ls1 st1 S1) n' ls' st' S' := by
  unfold am_o22 at h ⊢
  cases h
  exact ⟨_, _, _, rfl, hl, hs, hS⟩
theorem ay_sw_ok {lo hi x : Int} {d : Nat} (h1 : lo ≤ x) (h2 : x ≤ hi) : ∀ {tb : List (Int × Nat)}, ay_sw lo hi tb = true → am_sw tb x d = d := by
  intro tb
  induction tb with
  | nil => intro _; rfl
  | cons q l ih =>
    intro h
    obtain ⟨g1, g2⟩ := Bool.and_eq_true_iff.mp (show ((decide (q.1 < lo) || decide (hi < q.1)) && ay_sw lo hi l) = true from h)
    unfold am_sw
    have hne : q.1 ≠ x := fun e => by
      rcases Bool.or_eq_true_iff.mp g1 with z | z
      · have := of_decide_eq_true z; omega
      · have := of_decide_eq_true z; omega
    rw [decide_eq_false hne]
    exact ih g2
theorem ay_x23 (hO : ay_H O xs) (h : ay_o23 O o n ls st S = some (n', ls', st', S')) (hl : ay_ls xs ls ls1) (hs : ay_st xs st st1) (hS : ay_S xs S S1) : ay_X xs (am_o23 o n ls1 st1 S1) n' ls' st' S' := by
  unfold ay_o23 at h
  split at h
  · rename_i x r
    obtain ⟨w1, q1, rfl, ⟨y, rfl, hy⟩, hs1⟩ := hs.cons
    unfold am_o23
    dsimp only
    cases hc : ay_m x with
    | true =>
      rw [hc] at h
      obtain ⟨hk, h⟩ := am_cnd h
      replace hk := am_blt hk
      obtain ⟨b1, b2⟩ := hO.2 _ hk
      rw [← hy.2 hc hk] at b1 b2
      cases he : decide ((O.2.getD (ay_k x) (0, 0)).1 = (O.2.getD (ay_k x) (0, 0)).2) with
      | true =>
        rw [he] at h
        cases h
        have he := of_decide_eq_true he
        rw [show y.toInt = (O.2.getD (ay_k x) (0, 0)).1 by omega]
        exact ⟨_, _, _, rfl, hl, hs1, hS⟩
      | false =>
        rw [he] at h
        obtain ⟨h1, h2⟩ := am_cnd h
        cases h2
        rw [ay_sw_ok b1 b2 h1]
        exact ⟨_, _, _, rfl, hl, hs1, hS⟩
    | false =>
      rw [hc] at h
      cases h
      rw [hy.1 hc]
      exact ⟨_, _, _, rfl, hl, hs1, hS⟩
  · cases h
theorem ay_x24 (h : am_o24 o n ls st S = some (n', ls', st', S')) (hl : ay_ls xs ls ls1) (hs : ay_st xs st st1) (hS : ay_S xs S S1) : ay_X xs (am_o24 o n ls1 st1 S1) n' ls' st' S' := by
  unfold am_o24 at h
  split at h
  · obtain ⟨w1, q1, rfl, hv, hs1⟩ := hs.cons
    rw [show w1 = _ from hv]
    obtain ⟨h1, h2⟩ := am_cnd h
    cases h2
    unfold am_o24
    dsimp only
    rw [hS.1, h1]
    exact ⟨_, _, _, rfl, hl, ⟨hS.2.2 _ _, hs1⟩, hS⟩
  · cases h
theorem ay_x25 (h : ay_o25 o n ls st S = some (n', ls', st', S')) (hl : ay_ls xs ls ls1) (hs : ay_st xs st st1) (hS : ay_S xs S S1) : ay_X xs (am_o25 o n ls1 st1 S1) n' ls' st' S' := by
  unfold ay_o25 at h
  split at h
  · rename_i v k r
    obtain ⟨w1, q1, rfl, hv, hs1⟩ := hs.cons
    obtain ⟨w2, q2, rfl, hk, hs2⟩ := hs1.cons
    rw [show w2 = _ from hk]
    obtain ⟨h1, h2⟩ := am_cnd h
    cases h2
    obtain ⟨g1, g2⟩ := Bool.and_eq_true_iff.mp h1
    obtain ⟨g2, g3⟩ := Bool.and_eq_true_iff.mp g2
    obtain ⟨g3, g4⟩ := Bool.and_eq_true_iff.mp g3
    unfold am_o25
    dsimp only
    have hf := hv.fit ((Bool.or_eq_true_iff.mp g1).symm.imp am_blt id) g4
    rw [hS.1, hS.2.1, g2, g3, hf]
    exact ⟨_, _, _, rfl, hl, hs2, rfl, rfl, ay_upM hS.2.2 hv⟩
  · cases h
theorem ay_x26 (h : am_o26 o n ls st S = some (n', ls', st', S')) (hl : ay_ls xs ls ls1) (hs : ay_st xs st st1) (hS : ay_S xs S S1) : ay_X xs (am_o26 o n ls1 st1 S1) n' ls' st' S' := by
  unfold am_o26 at h
  split at h
  · obtain ⟨w1, q1, rfl, hv, hs1⟩ := hs.cons
    obtain ⟨h1, h2⟩ := am_cnd h
    cases h2
    unfold am_o26
    dsimp only
    rw [hv.cat, h1]
    exact ⟨_, _, _, rfl, hl, ⟨hv, hv, hs1⟩, hS⟩
  · cases h
theorem ay_x27 (h : am_o27 o n ls st S = some (n', ls', st', S')) (hl : ay_ls xs ls ls1) (hs : ay_st xs st st1) (hS : ay_S xs S S1) : ay_X xs (am_o27 o n ls1 st1 S1) n' ls' st' S' := by
  unfold am_o27 at h
  split at h
  · obtain ⟨w1, q1, rfl, hv, hs1⟩ := hs.cons
    obtain ⟨h1, h2⟩ := am_cnd h
    cases h2
    unfold am_o27
    dsimp only
    rw [hv.cat, h1]
    exact ⟨_, _, _, rfl, hl, hs1, hS⟩
  · cases h
theorem ay_x28 (h : am_o28 o n ls st S am_fk = some (n', ls', st', S')) (hl : ay_ls xs ls ls1) (hs : ay_st xs st st1) (hS : ay_S xs S S1) : ay_X xs (am_o28 o n ls1 st1 S1 am_fk) n' ls' st' S' := by
  unfold am_o28 at h ⊢
  obtain ⟨h1, h2⟩ := am_cnd h
  cases h2
  rw [hS.1, hS.2.1, h1]
  exact ⟨_, _, _, rfl, hl, ⟨rfl, hs⟩, rfl, rfl, ay_newM hS.2.2 (fun j => ay_dv _)⟩
theorem ay_x29 (h : ay_o29 o n ls st S = some (n', ls', st', S')) (hl : ay_ls xs ls ls1) (hs : ay_st xs st st1) (hS : ay_S xs S S1) : ay_X xs (am_o29 o n ls1 st1 S1) n' ls' st' S' := by
  unfold ay_o29 at h
  split at h
  · obtain ⟨w1, q1, rfl, hv, hs1⟩ := hs.cons
    obtain ⟨h0, h⟩ := am_cnd h
    rw [hv.pl h0]
    unfold am_o29 at h ⊢
    dsimp only at h ⊢
    obtain ⟨h1, h2⟩ := am_cnd h
    cases h2
    rw [hS.1, hS.2.1, h1]
    exact ⟨_, _, _, rfl, hl, ⟨rfl, hs1⟩, rfl, rfl, ay_newM hS.2.2 (fun j => ay_dv _)⟩
  · cases h
theorem ay_x31 (h : ay_top (am_o31 o n ls st S) = some (n', ls', st', S')) (hl : ay_ls xs ls ls1) (hs : ay_st xs st st1) (hS : ay_S xs S S1) : ay_X xs (am_o31 o n ls1 st1 S1) n' ls' st' S' := by
  obtain ⟨h, v, r, e, hp⟩ := ay_topE h
  unfold am_o31 at h
  split at h
  · obtain ⟨w1, q1, rfl, hv, hs1⟩ := hs.cons
    rw [show w1 = _ from hv]
    obtain ⟨h1, h2⟩ := am_cnd h
    cases h2
    cases e
    unfold am_o31
    dsimp only
    rw [hS.1, h1]
    exact ⟨_, _, _, rfl, hl, ⟨ay_pv hp, hs1⟩, hS⟩
  · cases h
theorem ay_x32 (h : ay_o32 o n ls st S = some (n', ls', st', S')) (hl : ay_ls xs ls ls1) (hs : ay_st xs st st1) (hS : ay_S xs S S1) : ay_X xs (am_o32 o n ls1 st1 S1) n' ls' st' S' := by
  unfold ay_o32 at h
  split at h
  · rename_i i r
    obtain ⟨w1, q1, rfl, hv, hs1⟩ := hs.cons
    obtain ⟨h0, h⟩ := am_cnd h
    rw [hv.pl h0]
    cases r with
    | nil => cases h
    | cons v r =>
      obtain ⟨w2, q2, rfl, hk, hs2⟩ := hs1.cons
      cases v <;> first | (cases h; done) | skip
      cases (show w2 = _ from hk)
      unfold am_o32 at h ⊢
      dsimp only at h ⊢
      obtain ⟨h1, h2⟩ := am_cnd h
      cases h2
      rw [hS.1, h1]
      exact ⟨_, _, _, rfl, hl, ⟨hS.2.2 _ _, hs2⟩, hS⟩
  · cases h
theorem ay_tst {S : AmS} {b c : Nat} {v w : Value} (h : cond (Nat.beq b 65) (match v with
    | .ref q => Nat.beq (S.1 q).1 c
    | _ => false) (Nat.beq (am_kd v) (cond (Nat.beq b 62) 1 0)) = true) : ay_v xs v w → cond (Nat.beq b 65) (match w with
    | .ref q => Nat.beq (S.1 q).1 c
    | _ => false) (Nat.beq (am_kd w) (cond (Nat.beq b 62) 1 0)) = true := by
  intro hv
  cases hc : Nat.beq b 65 with
  | true =>
    rw [hc] at h
    cases v <;> first | (cases h; done) | skip
    cases (show w = _ from hv)
    exact h
  | false =>
    rw [hc] at h
    rw [hv.kd]
    exact h
theorem ay_nar_id {t : Nat} {v : Value} (h : (Nat.beq t 63 || Nat.beq t 64) = false) : am_nar t v = v := by
  unfold am_nar
  split
  · cases h
  · cases h
  · rfl
theorem ay_x33 (h : ay_o33 o n ls st S = some (n', ls', st', S')) (hl : ay_ls xs ls ls1) (hs : ay_st xs st st1) (hS : ay_S xs S S1) : ay_X xs (am_o33 o n ls1 st1 S1) n' ls' st' S' := by
  unfold ay_o33 at h
  split at h
  · rename_i v i k r
    obtain ⟨w1, q1, rfl, hv, hs1⟩ := hs.cons
    obtain ⟨w2, q2, rfl, hi, hs2⟩ := hs1.cons
    obtain ⟨w3, q3, rfl, hk, hs3⟩ := hs2.cons
    obtain ⟨h1, h2⟩ := am_cnd h
    obtain ⟨h0, h1⟩ := Bool.and_eq_true_iff.mp h1
    obtain ⟨g1, h1⟩ := Bool.and_eq_true_iff.mp h1
    obtain ⟨g2, h1⟩ := Bool.and_eq_true_iff.mp h1
    obtain ⟨g3, g4⟩ := Bool.and_eq_true_iff.mp h1
    rw [hi.pl h0, show w3 = _ from hk]
    have g5 := ay_tst g4 hv
    unfold am_o33
    dsimp only
    rw [hS.1, hS.2.1, g1, g2, g3]
    have hC : ∀ {C : Bool} {R : Nat × AmL × List Value × AmS}, C = true → ay_X xs (some R) n' ls' st' S' → ay_X xs (cond C (some R) none) n' ls' st' S' := fun h1 h2 => by rw [h1]; exact h2
    refine hC ?_ ?_
    · exact g5
    cases hc : (Nat.beq (S.1 k).1 63 || Nat.beq (S.1 k).1 64) with
    | true =>
      rw [hc] at h2
      cases hp : ay_pl v with
      | true =>
        rw [hp] at h2
        obtain ⟨e1, e2⟩ := am_cnd h2
        cases e2
        rw [hv.pl hp]
        exact ⟨_, _, _, rfl, hl, hs3, rfl, rfl, ay_upM hS.2.2 (ay_pv e1)⟩
      | false =>
        rw [hp] at h2
        obtain ⟨e1, e2⟩ := am_cnd h2
        cases e2
        have ht := am_beq e1
        have hz : ∃ z, am_nar (S.1 k).1 w1 = .int z := by
          rw [ht] at g1
          rw [ht]
          cases v with
          | int x => obtain ⟨y, rfl, -⟩ := hv; exact ⟨_, rfl⟩
          | long x =>
            exfalso
            rcases Bool.or_eq_true_iff.mp g1 with z | z
            · rw [← am_beq z] at g4
              cases g4
            · cases (Bool.and_eq_true_iff.mp z).2
          | _ => cases hp
        obtain ⟨z, hz⟩ := hz
        rw [hz]
        exact ⟨_, _, _, rfl, hl, hs3, rfl, rfl, ay_upM hS.2.2 ⟨z, rfl, fun e => absurd e (by decide), fun _ e => absurd e (by decide)⟩⟩
    | false =>
      rw [hc] at h2
      cases h2
      rw [ay_nar_id hc]
      exact ⟨_, _, _, rfl, hl, hs3, rfl, rfl, ay_upM hS.2.2 hv⟩
  · cases h
theorem ay_x35 (h : am_o35 o n ls st S = some (n', ls', st', S')) (hl : ay_ls xs ls ls1) (hs : ay_st xs st st1) (hS : ay_S xs S S1) : ay_X xs (am_o35 o n ls1 st1 S1) n' ls' st' S' := by
  unfold am_o35 at h
  split at h
  · obtain ⟨w1, q1, rfl, hv, hs1⟩ := hs.cons
    rw [show w1 = _ from hv]
    obtain ⟨h1, h2⟩ := am_cnd h
    cases h2
    unfold am_o35
    dsimp only
    rw [hs1.sum, h1]
    exact ⟨_, _, _, rfl, hl, hs1, hS⟩
  · cases h
theorem ay_x38 (h : ay_o38 o n ls st S = some (n', ls', st', S')) (hl : ay_ls xs ls ls1) (hs : ay_st xs st st1) (hS : ay_S xs S S1) : ay_X xs (am_o38 o n ls1 st1 S1) n' ls' st' S' := by
  unfold ay_o38 at h
  split at h
  · rename_i y x r
    obtain ⟨w1, q1, rfl, hy, hs1⟩ := hs.cons
    obtain ⟨w2, q2, rfl, hx, hs2⟩ := hs1.cons
    obtain ⟨h0, h⟩ := am_cnd h
    obtain ⟨h0, h1⟩ := Bool.and_eq_true_iff.mp h0
    obtain ⟨c1, c2⟩ := Bool.and_eq_true_iff.mp h0
    rw [hy.pl c2, hx.pl c1]
    unfold am_o38
    cases hb : Nat.beq o.2.2.1 0 with
    | true =>
      rw [hb] at h
      cases h
      rw [am_beq hb]
      show ay_X xs (cond (Nat.ble (q2.map fun v => v.category).sum 8) (some (n + 1, ls1, .int (cond (decide (x < y)) y x) :: q2, S1)) none) _ _ _ _
      rw [hs2.sum, h1]
      refine ⟨_, _, _, rfl, hl, ⟨ay_pv ?_, hs2⟩, hS⟩
      cases decide (x < y)
      · exact c1
      · exact c2
    | false =>
      rw [hb] at h
      obtain ⟨h2, h⟩ := am_cnd h
      cases h
      rw [am_beq h2]
      show ay_X xs (cond (Nat.ble (q2.map fun v => v.category).sum 8) (some (n + 1, ls1, .int (cond (decide (y < x)) y x) :: q2, S1)) none) _ _ _ _
      rw [hs2.sum, h1]
      refine ⟨_, _, _, rfl, hl, ⟨ay_pv ?_, hs2⟩, hS⟩
      cases decide (y < x)
      · exact c1
      · exact c2
  · cases h
end AyO1
theorem am_nxt_0 {n : Nat} {o : AmIns} {ls : AmL} {st : List Value} {S : AmS} (h : Nat.beq o.1 0 = true) : am_nxt o n ls st S am_fk = am_o0 o n ls st S := by
  unfold am_nxt
  rw [am_beq h]
  rfl
theorem am_nxt_24 {n : Nat} {o : AmIns} {ls : AmL} {st : List Value} {S : AmS} (h : Nat.beq o.1 24 = true) : am_nxt o n ls st S am_fk = am_o24 o n ls st S := by
  unfold am_nxt
  rw [am_beq h]
  rfl
theorem am_nxt_2 {n : Nat} {o : AmIns} {ls : AmL} {st : List Value} {S : AmS} (h : Nat.beq o.1 2 = true) : am_nxt o n ls st S am_fk = am_o2 o n ls st S := by
  unfold am_nxt
  rw [am_beq h]
  rfl
theorem am_nxt_19 {n : Nat} {o : AmIns} {ls : AmL} {st : List Value} {S : AmS} (h : Nat.beq o.1 19 = true) : am_nxt o n ls st S am_fk = am_o19 o n ls st S := by
  unfold am_nxt
  rw [am_beq h]
  rfl
theorem am_nxt_18 {n : Nat} {o : AmIns} {ls : AmL} {st : List Value} {S : AmS} (h : Nat.beq o.1 18 = true) : am_nxt o n ls st S am_fk = am_o18 o n ls st S := by
  unfold am_nxt
  rw [am_beq h]
  rfl
theorem am_nxt_32 {n : Nat} {o : AmIns} {ls : AmL} {st : List Value} {S : AmS} (h : Nat.beq o.1 32 = true) : am_nxt o n ls st S am_fk = am_o32 o n ls st S := by
  unfold am_nxt
  rw [am_beq h]
  rfl
theorem am_nxt_25 {n : Nat} {o : AmIns} {ls : AmL} {st : List Value} {S : AmS} (h : Nat.beq o.1 25 = true) : am_nxt o n ls st S am_fk = am_o25 o n ls st S := by
  unfold am_nxt
  rw [am_beq h]
  rfl
theorem am_nxt_22 {n : Nat} {o : AmIns} {ls : AmL} {st : List Value} {S : AmS} (h : Nat.beq o.1 22 = true) : am_nxt o n ls st S am_fk = am_o22 o n ls st S := by
  unfold am_nxt
  rw [am_beq h]
  rfl
theorem am_nxt_1 {n : Nat} {o : AmIns} {ls : AmL} {st : List Value} {S : AmS} (h : Nat.beq o.1 1 = true) : am_nxt o n ls st S am_fk = am_o1 o n ls st S := by
  unfold am_nxt
  rw [am_beq h]
  rfl
theorem am_nxt_8 {n : Nat} {o : AmIns} {ls : AmL} {st : List Value} {S : AmS} (h : Nat.beq o.1 8 = true) : am_nxt o n ls st S am_fk = am_o8 o n ls st S := by
  unfold am_nxt
  rw [am_beq h]
  rfl
theorem am_nxt_33 {n : Nat} {o : AmIns} {ls : AmL} {st : List Value} {S : AmS} (h : Nat.beq o.1 33 = true) : am_nxt o n ls st S am_fk = am_o33 o n ls st S := by
  unfold am_nxt
  rw [am_beq h]
  rfl
theorem am_nxt_26 {n : Nat} {o : AmIns} {ls : AmL} {st : List Value} {S : AmS} (h : Nat.beq o.1 26 = true) : am_nxt o n ls st S am_fk = am_o26 o n ls st S := by
  unfold am_nxt
  rw [am_beq h]
  rfl
theorem am_nxt_29 {n : Nat} {o : AmIns} {ls : AmL} {st : List Value} {S : AmS} (h : Nat.beq o.1 29 = true) : am_nxt o n ls st S am_fk = am_o29 o n ls st S := by
  unfold am_nxt
  rw [am_beq h]
  rfl
theorem am_nxt_17 {n : Nat} {o : AmIns} {ls : AmL} {st : List Value} {S : AmS} (h : Nat.beq o.1 17 = true) : am_nxt o n ls st S am_fk = am_o17 o n ls st S := by
  unfold am_nxt
  rw [am_beq h]
  rfl
theorem am_nxt_3 {n : Nat} {o : AmIns} {ls : AmL} {st : List Value} {S : AmS} (h : Nat.beq o.1 3 = true) : am_nxt o n ls st S am_fk = am_o3 o n ls st S := by
  unfold am_nxt
  rw [am_beq h]
  rfl
theorem am_nxt_13 {n : Nat} {o : AmIns} {ls : AmL} {st : List Value} {S : AmS} (h : Nat.beq o.1 13 = true) : am_nxt o n ls st S am_fk = am_o13 o n ls st S := by
  unfold am_nxt
  rw [am_beq h]
  rfl
theorem am_nxt_31 {n : Nat} {o : AmIns} {ls : AmL} {st : List Value} {S : AmS} (h : Nat.beq o.1 31 = true) : am_nxt o n ls st S am_fk = am_o31 o n ls st S := by
  unfold am_nxt
  rw [am_beq h]
  rfl
theorem am_nxt_14 {n : Nat} {o : AmIns} {ls : AmL} {st : List Value} {S : AmS} (h : Nat.beq o.1 14 = true) : am_nxt o n ls st S am_fk = am_o14 o n ls st S := by
  unfold am_nxt
  rw [am_beq h]
  rfl
theorem am_nxt_6 {n : Nat} {o : AmIns} {ls : AmL} {st : List Value} {S : AmS} (h : Nat.beq o.1 6 = true) : am_nxt o n ls st S am_fk = am_o6 o n ls st S := by
  unfold am_nxt
  rw [am_beq h]
  rfl
theorem am_nxt_10 {n : Nat} {o : AmIns} {ls : AmL} {st : List Value} {S : AmS} (h : Nat.beq o.1 10 = true) : am_nxt o n ls st S am_fk = am_o10 o n ls st S := by
  unfold am_nxt
  rw [am_beq h]
  rfl
theorem am_nxt_28 {n : Nat} {o : AmIns} {ls : AmL} {st : List Value} {S : AmS} (h : Nat.beq o.1 28 = true) : am_nxt o n ls st S am_fk = am_o28 o n ls st S am_fk := by
  unfold am_nxt
  rw [am_beq h]
  rfl
theorem am_nxt_20 {n : Nat} {o : AmIns} {ls : AmL} {st : List Value} {S : AmS} (h : Nat.beq o.1 20 = true) : am_nxt o n ls st S am_fk = am_o20 o n ls st S := by
  unfold am_nxt
  rw [am_beq h]
  rfl
theorem am_nxt_23 {n : Nat} {o : AmIns} {ls : AmL} {st : List Value} {S : AmS} (h : Nat.beq o.1 23 = true) : am_nxt o n ls st S am_fk = am_o23 o n ls st S := by
  unfold am_nxt
  rw [am_beq h]
  rfl
theorem am_nxt_35 {n : Nat} {o : AmIns} {ls : AmL} {st : List Value} {S : AmS} (h : Nat.beq o.1 35 = true) : am_nxt o n ls st S am_fk = am_o35 o n ls st S := by
  unfold am_nxt
  rw [am_beq h]
  rfl
theorem am_nxt_27 {n : Nat} {o : AmIns} {ls : AmL} {st : List Value} {S : AmS} (h : Nat.beq o.1 27 = true) : am_nxt o n ls st S am_fk = am_o27 o n ls st S := by
  unfold am_nxt
  rw [am_beq h]
  rfl
theorem am_nxt_4 {n : Nat} {o : AmIns} {ls : AmL} {st : List Value} {S : AmS} (h : Nat.beq o.1 4 = true) : am_nxt o n ls st S am_fk = am_o4 o n ls st S := by
  unfold am_nxt
  rw [am_beq h]
  rfl
theorem am_nxt_5 {n : Nat} {o : AmIns} {ls : AmL} {st : List Value} {S : AmS} (h : Nat.beq o.1 5 = true) : am_nxt o n ls st S am_fk = am_o5 o n ls st S := by
  unfold am_nxt
  rw [am_beq h]
  rfl
theorem am_nxt_16 {n : Nat} {o : AmIns} {ls : AmL} {st : List Value} {S : AmS} (h : Nat.beq o.1 16 = true) : am_nxt o n ls st S am_fk = am_o16 o n ls st S := by
  unfold am_nxt
  rw [am_beq h]
  rfl
theorem am_nxt_38 {n : Nat} {o : AmIns} {ls : AmL} {st : List Value} {S : AmS} (h : Nat.beq o.1 38 = true) : am_nxt o n ls st S am_fk = am_o38 o n ls st S := by
  unfold am_nxt
  rw [am_beq h]
  rfl
set_option maxHeartbeats 4000000 in
theorem ay_nx {O : AyO} {xs : Nat → Int32} {n n' : Nat} {o : AmIns} {ls ls' ls1 : AmL} {st st' st1 : List Value} {S S' S1 : AmS} (hO : ay_H O xs) (h : ay_nxt O o n ls st S = some (n', ls', st', S')) (hl : ay_ls xs ls ls1) (hs : ay_st xs st st1) (hS : ay_S xs S S1) : ay_X xs (am_nxt o n ls1 st1 S1 am_fk) n' ls' st' S' := by
  unfold ay_nxt at h
  cases hb0 : Nat.beq o.1 0 with
  | true =>
    rw [hb0] at h
    rw [am_nxt_0 hb0]
    exact ay_x0 (n := n) (o := o) h hl hs hS
  | false =>
  rw [hb0] at h
  simp only [cond_false] at h
  cases hb24 : Nat.beq o.1 24 with
  | true =>
    rw [hb24] at h
    rw [am_nxt_24 hb24]
    exact ay_x24 (n := n) (o := o) h hl hs hS
  | false =>
  rw [hb24] at h
  simp only [cond_false] at h
  cases hb2 : Nat.beq o.1 2 with
  | true =>
    rw [hb2] at h
    rw [am_nxt_2 hb2]
    exact ay_x2 (n := n) (o := o) h hl hs hS
  | false =>
  rw [hb2] at h
  simp only [cond_false] at h
  cases hb19 : Nat.beq o.1 19 with
  | true =>
    rw [hb19] at h
    rw [am_nxt_19 hb19]
    exact ay_x19 hO (n := n) (o := o) h hl hs hS
  | false =>
  rw [hb19] at h
  simp only [cond_false] at h
  cases hb18 : Nat.beq o.1 18 with
  | true =>
    rw [hb18] at h
    rw [am_nxt_18 hb18]
    exact ay_x18 hO (n := n) (o := o) h hl hs hS
  | false =>
  rw [hb18] at h
  simp only [cond_false] at h
  cases hb32 : Nat.beq o.1 32 with
  | true =>
    rw [hb32] at h
    rw [am_nxt_32 hb32]
    exact ay_x32 (n := n) (o := o) h hl hs hS
  | false =>
  rw [hb32] at h
  simp only [cond_false] at h
  cases hb25 : Nat.beq o.1 25 with
  | true =>
    rw [hb25] at h
    rw [am_nxt_25 hb25]
    exact ay_x25 (n := n) (o := o) h hl hs hS
  | false =>
  rw [hb25] at h
  simp only [cond_false] at h
  cases hb22 : Nat.beq o.1 22 with
  | true =>
    rw [hb22] at h
    rw [am_nxt_22 hb22]
    exact ay_x22 (n := n) (o := o) h hl hs hS
  | false =>
  rw [hb22] at h
  simp only [cond_false] at h
  cases hb1 : Nat.beq o.1 1 with
  | true =>
    rw [hb1] at h
    rw [am_nxt_1 hb1]
    exact ay_x1 (n := n) (o := o) h hl hs hS
  | false =>
  rw [hb1] at h
  simp only [cond_false] at h
  cases hb8 : Nat.beq o.1 8 with
  | true =>
    rw [hb8] at h
    rw [am_nxt_8 hb8]
    exact ay_x8 hO (n := n) (o := o) h hl hs hS
  | false =>
  rw [hb8] at h
  simp only [cond_false] at h
  cases hb33 : Nat.beq o.1 33 with
  | true =>
    rw [hb33] at h
    rw [am_nxt_33 hb33]
    exact ay_x33 (n := n) (o := o) h hl hs hS
  | false =>
  rw [hb33] at h
  simp only [cond_false] at h
  cases hb26 : Nat.beq o.1 26 with
  | true =>
    rw [hb26] at h
    rw [am_nxt_26 hb26]
    exact ay_x26 (n := n) (o := o) h hl hs hS
  | false =>
  rw [hb26] at h
  simp only [cond_false] at h
  cases hb29 : Nat.beq o.1 29 with
  | true =>
    rw [hb29] at h
    rw [am_nxt_29 hb29]
    exact ay_x29 (n := n) (o := o) h hl hs hS
  | false =>
  rw [hb29] at h
  simp only [cond_false] at h
  cases hb17 : Nat.beq o.1 17 with
  | true =>
    rw [hb17] at h
    rw [am_nxt_17 hb17]
    exact ay_x17 (n := n) (o := o) h hl hs hS
  | false =>
  rw [hb17] at h
  simp only [cond_false] at h
  cases hb3 : Nat.beq o.1 3 with
  | true =>
    rw [hb3] at h
    rw [am_nxt_3 hb3]
    exact ay_x3 (n := n) (o := o) h hl hs hS
  | false =>
  rw [hb3] at h
  simp only [cond_false] at h
  cases hb13 : Nat.beq o.1 13 with
  | true =>
    rw [hb13] at h
    rw [am_nxt_13 hb13]
    exact ay_x13 (n := n) (o := o) h hl hs hS
  | false =>
  rw [hb13] at h
  simp only [cond_false] at h
  cases hb31 : Nat.beq o.1 31 with
  | true =>
    rw [hb31] at h
    rw [am_nxt_31 hb31]
    exact ay_x31 (n := n) (o := o) h hl hs hS
  | false =>
  rw [hb31] at h
  simp only [cond_false] at h
  cases hb14 : Nat.beq o.1 14 with
  | true =>
    rw [hb14] at h
    rw [am_nxt_14 hb14]
    exact ay_x14 (n := n) (o := o) h hl hs hS
  | false =>
  rw [hb14] at h
  simp only [cond_false] at h
  cases hb6 : Nat.beq o.1 6 with
  | true =>
    rw [hb6] at h
    rw [am_nxt_6 hb6]
    exact ay_x6 (n := n) (o := o) h hl hs hS
  | false =>
  rw [hb6] at h
  simp only [cond_false] at h
  cases hb10 : Nat.beq o.1 10 with
  | true =>
    rw [hb10] at h
    rw [am_nxt_10 hb10]
    exact ay_x10 (n := n) (o := o) h hl hs hS
  | false =>
  rw [hb10] at h
  simp only [cond_false] at h
  cases hb28 : Nat.beq o.1 28 with
  | true =>
    rw [hb28] at h
    rw [am_nxt_28 hb28]
    exact ay_x28 (n := n) (o := o) h hl hs hS
  | false =>
  rw [hb28] at h
  simp only [cond_false] at h
  cases hb20 : Nat.beq o.1 20 with
  | true =>
    rw [hb20] at h
    rw [am_nxt_20 hb20]
    exact ay_x20 (n := n) (o := o) h hl hs hS
  | false =>
  rw [hb20] at h
  simp only [cond_false] at h
  cases hb23 : Nat.beq o.1 23 with
  | true =>
    rw [hb23] at h
    rw [am_nxt_23 hb23]
    exact ay_x23 hO (n := n) (o := o) h hl hs hS
  | false =>
  rw [hb23] at h
  simp only [cond_false] at h
  cases hb35 : Nat.beq o.1 35 with
  | true =>
    rw [hb35] at h
    rw [am_nxt_35 hb35]
    exact ay_x35 (n := n) (o := o) h hl hs hS
  | false =>
  rw [hb35] at h
  simp only [cond_false] at h
  cases hb27 : Nat.beq o.1 27 with
  | true =>
    rw [hb27] at h
    rw [am_nxt_27 hb27]
    exact ay_x27 (n := n) (o := o) h hl hs hS
  | false =>
  rw [hb27] at h
  simp only [cond_false] at h
  cases hb4 : Nat.beq o.1 4 with
  | true =>
    rw [hb4] at h
    rw [am_nxt_4 hb4]
    exact ay_x4 (n := n) (o := o) h hl hs hS
  | false =>
  rw [hb4] at h
  simp only [cond_false] at h
  cases hb5 : Nat.beq o.1 5 with
  | true =>
    rw [hb5] at h
    rw [am_nxt_5 hb5]
    exact ay_x5 (n := n) (o := o) h hl hs hS
  | false =>
  rw [hb5] at h
  simp only [cond_false] at h
  cases hb16 : Nat.beq o.1 16 with
  | true =>
    rw [hb16] at h
    rw [am_nxt_16 hb16]
    exact ay_x16 (n := n) (o := o) h hl hs hS
  | false =>
  rw [hb16] at h
  simp only [cond_false] at h
  cases hb38 : Nat.beq o.1 38 with
  | true =>
    rw [hb38] at h
    rw [am_nxt_38 hb38]
    exact ay_x38 (n := n) (o := o) h hl hs hS
  | false =>
  rw [hb38] at h
  simp only [cond_false] at h
  cases h
/-- calls and ends over symbols -/
def ay_ends (o : AmIns) (st : List Value) (S : AmS) : Option (AmO × AmS) := match st with
  | [] => cond (Nat.beq o.2.2.1 9) (some (.inl none, S)) none
  | v :: [] => cond ((ay_pl v || Nat.blt o.2.2.1 4) && (am_fit o.2.2.1 v && !(Nat.beq o.2.2.1 3))) (some (.inl (some v), S)) none
  | _ => none
def ay_go (O : AyO) : Nat → Nat → Nat → Nat → AmL → List Value → AmS → Option (AmO × AmS)
  | 0, _, _, _, _, _, _ => none
  | f + 1, d, j, n, ls, st, S => match (am_P.1 j)[n]? with
    | none => none
    | some o => cond (Nat.beq o.1 40)
      (match d with
      | 0 => none
      | d' + 1 => cond (am_okc o.2.1 (st.take o.2.2.1).reverse (st.drop o.2.2.1) S)
        (match ay_go O f d' o.2.1 0 (lv_args 0 (st.take o.2.2.1).reverse) [] S with
        | none => none
        | some (.inl none, S1) => ay_go O f d j (n + 1) ls (st.drop o.2.2.1) S1
        | some (.inl (some v), S1) => ay_go O f d j (n + 1) ls (v :: st.drop o.2.2.1) S1
        | some (.inr (E, a), S1) => cond (decide (o.2.2.2.1 = 0)) (match am_hd (am_P.2.1 j).2.2 n E with
          | some h => ay_go O f d j h ls [.ref a] S1
          | none => none) none) none)
      (cond (Nat.beq o.1 41) (ay_ends o st S) (cond (Nat.beq o.1 42) (am_thr o st S)
        (match ay_nxt O o n ls st S with
        | some (n', ls', st', S') => ay_go O f d j n' ls' st' S'
        | none => none)))
def ay_out (xs : Nat → Int32) (r r1 : AmO) : Prop := match r with
  | .inl none => r1 = .inl none
  | .inl (some v) => ∃ w, r1 = .inl (some w) ∧ ay_v xs v w
  | .inr q => r1 = .inr q
theorem ay_okc {xs : Nat → Int32} {j : Nat} {as rs as1 rs1 : List Value} {S S1 : AmS} (h : am_okc j as rs S = true) (ha : ay_st xs as as1) (hr : ay_st xs rs rs1) (hS : ay_S xs S S1) : am_okc j as1 rs1 S1 = true := by
  obtain ⟨h1, h2⟩ := Bool.and_eq_true_iff.mp h
  obtain ⟨h3, h1⟩ := Bool.and_eq_true_iff.mp h1
  obtain ⟨h4, h5⟩ := Bool.and_eq_true_iff.mp h1
  refine Bool.and_eq_true_iff.mpr ⟨Bool.and_eq_true_iff.mpr ⟨by rw [ha.len]; exact h3, Bool.and_eq_true_iff.mpr ⟨by rw [hr.sum]; exact h4, ?_⟩⟩, by rw [ha.sum]; exact h2⟩
  cases hk : Nat.beq (am_P.2.1 j).1 1 with
  | true => rfl
  | false =>
    rw [hk] at h5
    simp only [cond_false] at h5 ⊢
    cases as with
    | nil => cases h5
    | cons v as =>
      obtain ⟨w, q, rfl, hv, -⟩ := ha.cons
      cases v <;> first | (cases h5; done) | skip
      rw [show w = _ from hv, hS.1]
      exact h5
theorem ay_sound {O : AyO} {xs : Nat → Int32} (hO : ay_H O xs) : ∀ (f d j n : Nat) (ls : AmL) (st : List Value) (S : AmS) (r : AmO) (S' : AmS), ay_go O f d j n ls st S = some (r, S') → ∀ (ls1 : AmL) (st1 : List Value) (S1 : AmS), ay_ls xs ls ls1 → ay_st xs st st1 → ay_S xs S S1 →
    ∃ r1 S1', am_go f d j n ls1 st1 S1 = some (r1, S1') ∧ ay_out xs r r1 ∧ ay_S xs S' S1' := by
  intro f
  induction f with
  | zero => intro d j n ls st S r S' h; cases h
  | succ f ih =>
    intro d j n ls st S r S' h ls1 st1 S1 hl hs hS
    unfold ay_go at h
    unfold am_go
    split at h
    · cases h
    · rename_i o ho
      rw [ho]
      dsimp only
      cases h40 : Nat.beq o.1 40 with
      | true =>
        rw [h40] at h
        simp only [cond_true] at h ⊢
        cases d with
        | zero => cases h
        | succ d' =>
          obtain ⟨hok, h⟩ := am_cnd h
          have ha := (hs.take o.2.2.1).rev
          have hr := hs.drop o.2.2.1
          dsimp only
          rw [ay_okc hok ha hr hS]
          simp only [cond_true]
          split at h
          · cases h
          · rename_i S2 hg
            obtain ⟨r2, S3, e1, e2, e3⟩ := ih _ _ _ _ _ _ _ _ hg _ [] S1 (ay_ls.args ha) trivial hS
            rw [e1, show r2 = .inl none from e2]
            exact ih _ _ _ _ _ _ _ _ h _ _ S3 hl hr e3
          · rename_i v S2 hg
            obtain ⟨r2, S3, e1, ⟨w, e2, hv⟩, e3⟩ := ih _ _ _ _ _ _ _ _ hg _ [] S1 (ay_ls.args ha) trivial hS
            rw [e1, e2]
            exact ih _ _ _ _ _ _ _ _ h _ (w :: st1.drop o.2.2.1) S3 hl ⟨hv, hr⟩ e3
          · rename_i E a S2 hg
            obtain ⟨r2, S3, e1, e2, e3⟩ := ih _ _ _ _ _ _ _ _ hg _ [] S1 (ay_ls.args ha) trivial hS
            obtain ⟨h0, h⟩ := am_cnd h
            rw [e1, show r2 = .inr (E, a) from e2]
            dsimp only
            rw [h0]
            simp only [cond_true]
            split at h
            · rename_i hh hq
              rw [hq]
              exact ih _ _ _ _ _ _ _ _ h _ [.ref a] S3 hl ⟨rfl, trivial⟩ e3
            · cases h
      | false =>
        rw [h40] at h
        simp only [cond_false] at h ⊢
        cases h41 : Nat.beq o.1 41 with
        | true =>
          rw [h41] at h
          simp only [cond_true, Bool.true_or] at h ⊢
          unfold am_fin
          rw [h41]
          simp only [cond_true]
          unfold ay_ends at h
          unfold am_ends
          split at h
          · rw [hs.nil]
            obtain ⟨h1, h2⟩ := am_cnd h
            cases h2
            dsimp only
            rw [h1]
            exact ⟨_, _, rfl, rfl, hS⟩
          · rename_i v
            obtain ⟨w, q, rfl, hv, hq⟩ := hs.cons
            rw [hq.nil]
            obtain ⟨h1, h2⟩ := am_cnd h
            cases h2
            obtain ⟨g1, g2⟩ := Bool.and_eq_true_iff.mp h1
            obtain ⟨g2, g3⟩ := Bool.and_eq_true_iff.mp g2
            have hf := hv.fit ((Bool.or_eq_true_iff.mp g1).symm.imp am_blt id) g2
            dsimp only
            rw [hf, g3]
            exact ⟨_, _, rfl, ⟨w, rfl, hv⟩, hS⟩
          · cases h
        | false =>
          rw [h41] at h
          simp only [cond_false, Bool.false_or] at h ⊢
          cases h42 : Nat.beq o.1 42 with
          | true =>
            rw [h42] at h
            simp only [cond_true] at h ⊢
            unfold am_fin
            rw [h41, h42]
            simp only [cond_true, cond_false]
            unfold am_thr at h ⊢
            obtain ⟨h1, h2⟩ := am_cnd h
            cases h2
            rw [hs.sum, hS.2.1, h1, hS.1]
            exact ⟨_, _, rfl, rfl, rfl, rfl, ay_newM hS.2.2 (fun j => rfl)⟩
          | false =>
            rw [h42] at h
            simp only [cond_false] at h ⊢
            split at h
            · rename_i n' ls' st' S2 hn
              obtain ⟨l9, s9, S9, e1, e2, e3, e4⟩ := ay_nx hO hn hl hs hS
              rw [e1]
              exact ih _ _ _ _ _ _ _ _ h _ _ S9 e2 e3 e4
            · cases h
