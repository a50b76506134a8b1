/-! WHAT AN INSTRUCTION DOES to the boxes. -/
def ab_psh (n : Nat) (A : AbS) (a : AbV) (r : List AbV) : List (Nat × AbS) := [(n + 1, (A.1, a :: r, A.2.2))]
def ab_n5 (r : List AbV) : Bool := r.all (fun a => !(Nat.beq a.1 5))
def ab_t0 (o : AmIns) (n : Nat) (A : AbS) : Option (List (Nat × AbS)) := match ab_lk A.1 o.2.1 with
  | some a => cond (Nat.beq (ab_kd a.1) o.2.2.1 && (Nat.blt o.2.2.1 9 && !(Nat.beq a.1 5))) (some (ab_psh n A (a.1, a.2.1, a.2.2.1, cond (Nat.blt a.1 2) (2 * o.2.1 + 1) 0) A.2.1)) none
  | none => none
/-- what is left of the variables when the variable i gets a new value, of two words or not -/
def ab_rm (two : Bool) (i : Nat) (l : List (Nat × AbV)) : List (Nat × AbV) := l.filter (fun p => !(Nat.beq p.1 i) && (!(two && Nat.beq p.1 (i + 1)) && !(Nat.beq (p.1 + 1) i && (Nat.beq p.2.1 1 || Nat.beq p.2.1 2))))
def ab_rmr (two : Bool) (i : Nat) (l : List (Nat × Nat)) : List (Nat × Nat) := l.filter (fun p => !(Nat.beq p.1 i) && !(two && Nat.beq p.1 (i + 1)))
def ab_t1 (o : AmIns) (n : Nat) (A : AbS) : Option (List (Nat × AbS)) := match A.2.1 with
  | a :: r => cond (Nat.beq (ab_kd a.1) o.2.2.1 && (Nat.blt o.2.2.1 9 && (!(Nat.beq a.1 5) && ab_n5 r)))
      (some [(n + 1, ((o.2.1, ab_no a) :: ab_rm (Nat.beq a.1 1 || Nat.beq a.1 2) o.2.1 A.1, ab_cl r, A.2.2.1, ab_rmr (Nat.beq a.1 1 || Nat.beq a.1 2) o.2.1 A.2.2.2))]) none
  | [] => none
def ab_t2 (o : AmIns) (n : Nat) (A : AbS) : Option (List (Nat × AbS)) := some (ab_psh n A (0, (Int32.ofInt o.2.2.2.1).toInt, (Int32.ofInt o.2.2.2.1).toInt, 0) A.2.1)
def ab_t3 (o : AmIns) (n : Nat) (A : AbS) : Option (List (Nat × AbS)) := some (ab_psh n A (1, (Int64.ofInt o.2.2.2.1).toInt, (Int64.ofInt o.2.2.2.1).toInt, 0) A.2.1)
def ab_t4 (n : Nat) (A : AbS) : Option (List (Nat × AbS)) := some (ab_psh n A (2, 0, 0, 0) A.2.1)
def ab_t22 (o : AmIns) (A : AbS) : Option (List (Nat × AbS)) := some [(o.2.1, A)]
def ab_t26 (n : Nat) (A : AbS) : Option (List (Nat × AbS)) := match A.2.1 with
  | a :: r => cond (Nat.beq a.1 0 || (Nat.beq a.1 3 || Nat.beq a.1 7)) (some (ab_psh n A a (a :: r))) none
  | _ => none
def ab_t27 (o : AmIns) (n : Nat) (A : AbS) : Option (List (Nat × AbS)) := match A.2.1 with
  | a :: r => cond (Nat.beq (cond (Nat.beq a.1 1 || Nat.beq a.1 2) 2 1) (o.2.2.1 + 1)) (some [(n + 1, (A.1, r, A.2.2))]) none
  | _ => none
def ab_int (lo hi : Int) : AbV := cond (decide (ab_i0 ≤ lo) && decide (hi ≤ ab_i1)) (0, lo, hi, 0) ab_full
/-- a binary operation on ints: the box of its answer -/
def ab_b (b : Nat) (x y : AbV) : Option AbV := match b with
  | 0 => some (ab_int (x.2.1 + y.2.1) (x.2.2.1 + y.2.2.1))
  | 1 => some (ab_int (x.2.1 - y.2.2.1) (x.2.2.1 - y.2.1))
  | 2 => some (cond (decide (y.2.1 = y.2.2.1) && decide (0 ≤ y.2.1)) (ab_int (x.2.1 * y.2.1) (x.2.2.1 * y.2.1)) ab_full)
  | 3 => cond (decide (0 < y.2.1) || decide (y.2.2.1 < 0)) (some (cond (decide (y.2.1 = y.2.2.1) && (decide (0 < y.2.1) && decide (0 ≤ x.2.1))) (0, 0, x.2.2.1 / y.2.1, 0) ab_full)) none
  | 4 => cond (decide (0 < y.2.1) || decide (y.2.2.1 < 0)) (some (cond (decide (y.2.1 = y.2.2.1) && decide (0 < y.2.1)) (0, cond (decide (0 ≤ x.2.1)) 0 (1 - y.2.1), y.2.1 - 1, 0) ab_full)) none
  | 5 => some (cond (decide (y.2.1 = y.2.2.1) && decide (0 ≤ y.2.1)) (0, 0, y.2.1, 0) ab_full)
  | 6 => some ab_full
  | 7 => some ab_full
  | 8 => some ab_full
  | 9 => some ab_full
  | _ => none
def ab_setl (i : Nat) (lo hi : Int) (l : List (Nat × AbV)) : List (Nat × AbV) := l.map (fun p => cond (Nat.beq p.1 i) (p.1, (p.2.1, lo, hi, 0)) p)
def ab_t8 (o : AmIns) (n : Nat) (A : AbS) : Option (List (Nat × AbS)) := match A.2.1 with
  | y :: x :: r => cond (Nat.beq x.1 0 && Nat.beq y.1 0)
      (cond (Nat.beq o.2.2.1 3 && (Nat.beq (x.2.2.2 % 2) 1 && (decide (x.2.1 < 0) && decide (0 ≤ x.2.2.1))))
        (match ab_b 3 (0, x.2.1, -1, 0) y, ab_b 3 (0, 0, x.2.2.1, 0) y with
        | some z1, some z2 => some (ab_psh n (ab_setl (x.2.2.2 / 2) x.2.1 (-1) A.1, A.2) z1 r ++ ab_psh n (ab_setl (x.2.2.2 / 2) 0 x.2.2.1 A.1, A.2) z2 r)
        | _, _ => none)
        (match ab_b o.2.2.1 x y with
        | some z => some (ab_psh n A z r)
        | none => none)) none
  | _ => none
def ab_t10 (o : AmIns) (n : Nat) (A : AbS) : Option (List (Nat × AbS)) := match A.2.1 with
  | y :: x :: r => cond (Nat.beq x.1 1 && (Nat.beq y.1 1 && (Nat.blt o.2.2.1 7 && cond (Nat.beq o.2.2.1 3 || Nat.beq o.2.2.1 4) (decide (0 < y.2.1) || decide (y.2.2.1 < 0)) true))) (some (ab_psh n A ab_lfull r)) none
  | _ => none
def ab_t11 (n : Nat) (A : AbS) : Option (List (Nat × AbS)) := match A.2.1 with
  | y :: x :: r => cond (Nat.beq x.1 1 && Nat.beq y.1 0) (some (ab_psh n A ab_lfull r)) none
  | _ => none
def ab_t13 (n : Nat) (A : AbS) : Option (List (Nat × AbS)) := match A.2.1 with
  | y :: x :: r => cond (Nat.beq x.1 1 && Nat.beq y.1 1) (some (ab_psh n A (cond (Nat.beq (x.2.2.2 % 2) 1) (5, y.2.1, y.2.2.1, x.2.2.2) (0, -1, 1, 0)) r)) none
  | _ => none
def ab_t14 (o : AmIns) (n : Nat) (A : AbS) : Option (List (Nat × AbS)) := match A.2.1 with
  | x :: r => match o.2.2.1 with
    | 0 => cond (Nat.beq x.1 0) (some (ab_psh n A (1, x.2.1, x.2.2.1, 0) r)) none
    | 1 => cond (Nat.beq x.1 1) (some (ab_psh n A ab_full r)) none
    | 2 => cond (Nat.beq x.1 0) (some (ab_psh n A (0, -128, 127, 0) r)) none
    | 4 => cond (Nat.beq x.1 0) (some (ab_psh n A (2, 0, 0, 0) r)) none
    | 6 => cond (Nat.beq x.1 1) (some (ab_psh n A ab_lfull r)) none
    | _ => none
  | _ => none
def ab_t17 (o : AmIns) (n : Nat) (A : AbS) : Option (List (Nat × AbS)) := match ab_lk A.1 o.2.1 with
  | some a => cond (Nat.beq a.1 0 && ab_n5 A.2.1) (some [(n + 1, ((o.2.1, ab_int (a.2.1 + (Int32.ofInt o.2.2.2.1).toInt) (a.2.2.1 + (Int32.ofInt o.2.2.2.1).toInt)) :: ab_rm false o.2.1 A.1, ab_cl A.2.1, A.2.2.1, ab_rmr false o.2.1 A.2.2.2))]) none
  | none => none
section AbT
variable {W : AbW} {n : Nat} {o : AmIns} {A : AbS} {ls : AmL} {st : List Value} {S : AmS} {outs : List (Nat × AbS)}
theorem ab_5 {a : AbV} (h : (!(Nat.beq a.1 5)) = true) : a.1 ≠ 5 := fun e => by rw [e] at h; cases h
theorem ab_x0 (h : ab_t0 o n A = some outs) (hG : ab_G W S) (hg : ab_g A ls st S.2.1) : ab_R W S (am_o0 o n ls st S) outs := by
  unfold ab_t0 at h
  split at h
  · rename_i a ha
    obtain ⟨h1, h2⟩ := am_cnd h
    cases h2
    obtain ⟨h1, h3⟩ := Bool.and_eq_true_iff.mp h1
    obtain ⟨h3, h4⟩ := Bool.and_eq_true_iff.mp h3
    obtain ⟨v, hv, hav⟩ := hg.1 _ (ab_lk_mem ha)
    have h5 := ab_5 h4
    have hk := hav.kd (am_beq h1) (am_blt h3)
    refine ab_R_pure (n' := n + 1) (ls' := ls) (st' := v :: st) hG ?_ List.mem_cons_self rfl ⟨hg.1, ⟨⟨hav, ?_⟩, hg.2.1⟩, hg.2.2⟩
    · unfold am_o0
      rw [hv]
      dsimp only
      rw [hk, am_beq_t]; rfl
    · cases hb : Nat.blt a.1 2 with
      | false => exact ab_og0 h5 rfl
      | true =>
        refine ⟨fun e => absurd e h5, fun _ e => ?_, fun _ e => ?_⟩
        · show am_lk ls ((2 * o.2.1 + 1) / 2) = some v
          rw [show (2 * o.2.1 + 1) / 2 = o.2.1 by omega]; exact hv
        · have e : (2 * o.2.1 + 1) % 2 = 0 := e
          omega
  · cases h
theorem ab_cat {a : AbV} {v : Value} (h : ab_v a v) (hk : ab_kd a.1 < 9) : v.category = cond (Nat.beq a.1 1 || Nat.beq a.1 2) 2 1 := by
  unfold ab_v at h
  unfold ab_kd at hk
  split at h
  · rename_i e; rw [e]; obtain ⟨x, rfl, -⟩ := h; rfl
  · rename_i e; rw [e]; obtain ⟨x, rfl, -⟩ := h; rfl
  · rename_i e; rw [e]; obtain ⟨x, rfl⟩ := h; rfl
  · rename_i e; rw [e, h]; rfl
  · rename_i e; rw [e]; obtain ⟨x, rfl⟩ := h; rfl
  · rename_i e0 e1 e2 e3 e7
    obtain ⟨x, rfl⟩ := h
    rw [am_beq_f e1, am_beq_f e2]; rfl
theorem ab_x1 (h : ab_t1 o n A = some outs) (hG : ab_G W S) (hg : ab_g A ls st S.2.1) : ab_R W S (am_o1 o n ls st S) outs := by
  obtain ⟨g1, g2, g3, g4⟩ := hg
  unfold ab_t1 at h
  split at h
  · rename_i a r ea
    rw [ea] at g2
    obtain ⟨v, q, rfl, hav, -, hr⟩ := g2.cons
    obtain ⟨h1, h2⟩ := am_cnd h
    cases h2
    obtain ⟨h1, h3⟩ := Bool.and_eq_true_iff.mp h1
    obtain ⟨h3, h4⟩ := Bool.and_eq_true_iff.mp h3
    obtain ⟨h4, h6⟩ := Bool.and_eq_true_iff.mp h4
    have hk := hav.kd (am_beq h1) (am_blt h3)
    have hc := ab_cat hav (by rw [am_beq h1]; exact am_blt h3)
    generalize htw : (Nat.beq a.1 1 || Nat.beq a.1 2) = tw at hc
    unfold am_o1
    dsimp only
    rw [hk, am_beq_t, h3, hc]
    have lkf : ∀ (i : Nat) (w : Value) (f : Nat × Value → Bool), i ≠ o.2.1 → f (i, w) = true → am_lk ls i = some w → am_lk ((o.2.1, v) :: ls.filter f) i = some w := fun i w f hi hf hw => by
      unfold am_lk
      rw [am_beq_f (fun e => hi e.symm)]
      exact ab_lk_f hw hf
    have key : ∀ (f : Nat × Value → Bool), (∀ p ∈ A.1, (!(Nat.beq p.1 o.2.1) && (!(tw && Nat.beq p.1 (o.2.1 + 1)) && !(Nat.beq (p.1 + 1) o.2.1 && (Nat.beq p.2.1 1 || Nat.beq p.2.1 2)))) = true → ∀ w, ab_v p.2 w → f (p.1, w) = true) →
        (∀ i x, i ≠ o.2.1 → (tw = true → i ≠ o.2.1 + 1) → f (i, Value.int x) = true) →
        ab_g ((o.2.1, ab_no a) :: ab_rm tw o.2.1 A.1, ab_cl r, A.2.2.1, ab_rmr tw o.2.1 A.2.2.2) ((o.2.1, v) :: ls.filter f) q S.2.1 := by
      intro f hf hf2
      refine ⟨fun p hp => ?_, ab_st_cl h6 hr, g3, fun p hp => ?_⟩
      · rcases List.mem_cons.mp hp with rfl | hp
        · exact ⟨v, by unfold am_lk; rw [am_beq_t]; rfl, hav⟩
        · obtain ⟨p1, p2⟩ := List.mem_filter.mp hp
          obtain ⟨w, hw, hpw⟩ := g1 p p1
          refine ⟨w, lkf p.1 w f (fun e => ?_) (hf p p1 p2 w hpw) hw, hpw⟩
          rw [e, am_beq_t] at p2
          cases p2
      · obtain ⟨p1, p2⟩ := List.mem_filter.mp hp
        obtain ⟨x, y, e1, e2, e3⟩ := g4 p p1
        obtain ⟨p3, p4⟩ := Bool.and_eq_true_iff.mp p2
        have q1 : p.1 ≠ o.2.1 := fun e => by rw [e, am_beq_t] at p3; cases p3
        have q2 : tw = true → p.1 ≠ o.2.1 + 1 := fun e1 e => by rw [e, am_beq_t, e1] at p4; cases p4
        exact ⟨x, y, lkf p.1 _ f q1 (hf2 p.1 x q1 q2) e1, e2, e3⟩
    have cat1 : ∀ (p : Nat × AbV) (w : Value), ab_v p.2 w → (Nat.beq p.2.1 1 || Nat.beq p.2.1 2) = false → w.category = 1 := fun p w hw he => by
      obtain ⟨m, av⟩ := p
      dsimp only at hw he
      unfold ab_v at hw
      split at hw
      · obtain ⟨x, rfl, -⟩ := hw; rfl
      · rename_i e; rw [e] at he; cases he
      · rename_i e; rw [e] at he; cases he
      · rw [hw]; rfl
      · obtain ⟨x, rfl⟩ := hw; rfl
      · obtain ⟨x, rfl⟩ := hw; rfl
    cases tw with
    | true =>
      refine ab_R_pure (n' := n + 1) (st' := q) hG rfl List.mem_cons_self rfl (key _ (fun p hp he w hw => ?_) (fun i x hi hi2 => ?_))
      · obtain ⟨e1, e2⟩ := Bool.and_eq_true_iff.mp he
        obtain ⟨e2, e3⟩ := Bool.and_eq_true_iff.mp e2
        have n1 : p.1 ≠ o.2.1 := fun e => by rw [e, am_beq_t] at e1; cases e1
        have n2 : p.1 ≠ o.2.1 + 1 := fun e => by rw [e, am_beq_t] at e2; cases e2
        have n3 : p.1 + 1 = o.2.1 → w.category = 1 := fun e => cat1 p w hw (by rw [e, am_beq_t] at e3; cases hx : (Nat.beq p.2.1 1 || Nat.beq p.2.1 2) with
          | false => rfl
          | true => rw [hx] at e3; cases e3)
        simp only [Bool.and_eq_true, Bool.not_eq_true', beq_eq_false_iff_ne, ne_eq, Bool.and_eq_false_iff]
        refine ⟨n1, n2, ?_⟩
        by_cases e : p.1 + 1 = o.2.1
        · right; rw [n3 e]; decide
        · left; exact e
      · have n2 := hi2 rfl
        simp only [Bool.and_eq_true, Bool.not_eq_true', beq_eq_false_iff_ne, ne_eq, Bool.and_eq_false_iff]
        exact ⟨hi, n2, Or.inr (by decide)⟩
    | false =>
      refine ab_R_pure (n' := n + 1) (st' := q) hG rfl List.mem_cons_self rfl (key _ (fun p hp he w hw => ?_) (fun i x hi hi2 => ?_))
      · obtain ⟨e1, e2⟩ := Bool.and_eq_true_iff.mp he
        obtain ⟨e2, e3⟩ := Bool.and_eq_true_iff.mp e2
        have n1 : p.1 ≠ o.2.1 := fun e => by rw [e, am_beq_t] at e1; cases e1
        have n3 : p.1 + 1 = o.2.1 → w.category = 1 := fun e => cat1 p w hw (by rw [e, am_beq_t] at e3; cases hx : (Nat.beq p.2.1 1 || Nat.beq p.2.1 2) with
          | false => rfl
          | true => rw [hx] at e3; cases e3)
        simp only [Bool.and_eq_true, Bool.not_eq_true', beq_eq_false_iff_ne, ne_eq, Bool.and_eq_false_iff]
        refine ⟨n1, ?_⟩
        by_cases e : p.1 + 1 = o.2.1
        · right; rw [n3 e]; decide
        · left; exact e
      · simp only [Bool.and_eq_true, Bool.not_eq_true', beq_eq_false_iff_ne, ne_eq, Bool.and_eq_false_iff]
        exact ⟨hi, Or.inr (by decide)⟩
  · cases h
theorem ab_x2 (h : ab_t2 o n A = some outs) (hG : ab_G W S) (hg : ab_g A ls st S.2.1) : ab_R W S (am_o2 o n ls st S) outs := by
  cases h
  exact ab_R_pure (n' := n + 1) (ls' := ls) (st' := _ :: st) hG rfl List.mem_cons_self rfl ⟨hg.1, ⟨⟨⟨_, rfl, Int.le_refl _, Int.le_refl _⟩, ab_og0 (by decide) rfl⟩, hg.2.1⟩, hg.2.2⟩
theorem ab_x3 (h : ab_t3 o n A = some outs) (hG : ab_G W S) (hg : ab_g A ls st S.2.1) : ab_R W S (am_o3 o n ls st S) outs := by
  cases h
  exact ab_R_pure (n' := n + 1) (ls' := ls) (st' := _ :: st) hG rfl List.mem_cons_self rfl ⟨hg.1, ⟨⟨⟨_, rfl, Int.le_refl _, Int.le_refl _⟩, ab_og0 (by decide) rfl⟩, hg.2.1⟩, hg.2.2⟩
theorem ab_x4 (h : ab_t4 n A = some outs) (hG : ab_G W S) (hg : ab_g A ls st S.2.1) : ab_R W S (am_o4 o n ls st S) outs := by
  cases h
  exact ab_R_pure (n' := n + 1) (ls' := ls) (st' := _ :: st) hG rfl List.mem_cons_self rfl ⟨hg.1, ⟨⟨⟨_, rfl⟩, ab_og0 (by decide) rfl⟩, hg.2.1⟩, hg.2.2⟩
theorem ab_x22 (h : ab_t22 o A = some outs) (hG : ab_G W S) (hg : ab_g A ls st S.2.1) : ab_R W S (am_o22 o n ls st S) outs := by
  cases h
  exact ab_R_pure (ls' := ls) (st' := st) hG rfl List.mem_cons_self rfl hg
theorem ab_x26 (h : ab_t26 n A = some outs) (hG : ab_G W S) (hg : ab_g A ls st S.2.1) : ab_R W S (am_o26 o n ls st S) outs := by
  obtain ⟨g1, g2, g3⟩ := hg
  unfold ab_t26 at h
  split at h
  · rename_i a r ea
    rw [ea] at g2
    obtain ⟨v, q, rfl, hav, hog, hr⟩ := g2.cons
    obtain ⟨h1, h2⟩ := am_cnd h
    cases h2
    have hc : v.category = 1 := by
      rcases Bool.or_eq_true_iff.mp h1 with z | z
      · obtain ⟨x, rfl, -⟩ := hav.int (am_beq z); rfl
      · rcases Bool.or_eq_true_iff.mp z with z | z
        · rw [hav.ref (am_beq z)]; rfl
        · unfold ab_v at hav
          rw [am_beq z] at hav
          obtain ⟨x, rfl⟩ := hav; rfl
    refine ab_R_pure (n' := n + 1) (ls' := ls) (st' := v :: v :: q) hG ?_ List.mem_cons_self rfl ⟨g1, ⟨⟨hav, hog⟩, ⟨hav, hog⟩, hr⟩, g3⟩
    unfold am_o26
    dsimp only
    rw [hc]; rfl
  · cases h
theorem ab_cat9 {a : AbV} {v : Value} (h : ab_v a v) : v.category = cond (Nat.beq a.1 1 || Nat.beq a.1 2) 2 1 := by
  unfold ab_v at h
  split at h
  · rename_i e; rw [e]; obtain ⟨x, rfl, -⟩ := h; rfl
  · rename_i e; rw [e]; obtain ⟨x, rfl, -⟩ := h; rfl
  · rename_i e; rw [e]; obtain ⟨x, rfl⟩ := h; rfl
  · rename_i e; rw [e, h]; rfl
  · rename_i e; rw [e]; obtain ⟨x, rfl⟩ := h; rfl
  · rename_i e0 e1 e2 e3 e7
    obtain ⟨x, rfl⟩ := h
    rw [am_beq_f e1, am_beq_f e2]; rfl
theorem ab_x27 (h : ab_t27 o n A = some outs) (hG : ab_G W S) (hg : ab_g A ls st S.2.1) : ab_R W S (am_o27 o n ls st S) outs := by
  obtain ⟨g1, g2, g3⟩ := hg
  unfold ab_t27 at h
  split at h
  · rename_i a r ea
    rw [ea] at g2
    obtain ⟨v, q, rfl, hav, hog, hr⟩ := g2.cons
    obtain ⟨h1, h2⟩ := am_cnd h
    cases h2
    refine ab_R_pure (n' := n + 1) (ls' := ls) (st' := q) hG ?_ List.mem_cons_self rfl ⟨g1, hr, g3⟩
    unfold am_o27
    dsimp only
    rw [ab_cat9 hav, h1]; rfl
  · cases h
theorem ab_int_ok {lo hi : Int} {z : Int32} (h : ab_i0 ≤ lo → hi ≤ ab_i1 → lo ≤ z.toInt ∧ z.toInt ≤ hi) : ab_v (ab_int lo hi) (.int z) := by
  unfold ab_int
  cases hb : (decide (ab_i0 ≤ lo) && decide (hi ≤ ab_i1)) with
  | false => exact ab_fv z
  | true =>
    obtain ⟨h1, h2⟩ := Bool.and_eq_true_iff.mp hb
    obtain ⟨h3, h4⟩ := h (of_decide_eq_true h1) (of_decide_eq_true h2)
    exact ⟨z, rfl, h3, h4⟩
theorem ab_int_k (lo hi : Int) : (ab_int lo hi).1 = 0 ∧ (ab_int lo hi).2.2.2 = 0 := by
  unfold ab_int
  cases (decide (ab_i0 ≤ lo) && decide (hi ≤ ab_i1)) <;> exact ⟨rfl, rfl⟩
theorem ab_bm {z : Int} (h1 : ab_i0 ≤ z) (h2 : z ≤ ab_i1) : z.bmod 4294967296 = z := by
  have h1 : (-2147483648 : Int) ≤ z := h1
  have h2 : z ≤ (2147483647 : Int) := h2
  rw [Int.bmod_def]
  split <;> omega
theorem ab_b_ok {b : Nat} {x y z : AbV} {u v : Int32} (h : ab_b b x y = some z) (hu1 : x.2.1 ≤ u.toInt) (hu2 : u.toInt ≤ x.2.2.1) (hv1 : y.2.1 ≤ v.toInt) (hv2 : v.toInt ≤ y.2.2.1) : ∃ w, am_ib b u v = some w ∧ ab_v z (.int w) ∧ z.1 = 0 ∧ z.2.2.2 = 0 := by
  have hu := ab_32 u
  have hv := ab_32 v
  unfold ab_b at h
  split at h
  · cases h
    refine ⟨_, rfl, ab_int_ok fun e1 e2 => ?_, ab_int_k _ _⟩
    rw [Int32.toInt_add]
    have e3 := ab_bm (z := u.toInt + v.toInt) (by omega) (by omega)
    rw [show (2 : Int) ^ 32 = 4294967296 from rfl] at * <;> first | (rw [e3]; omega) | skip
  · cases h
    refine ⟨_, rfl, ab_int_ok fun e1 e2 => ?_, ab_int_k _ _⟩
    rw [Int32.toInt_sub]
    have e3 := ab_bm (z := u.toInt - v.toInt) (by omega) (by omega)
    rw [show (2 : Int) ^ 32 = 4294967296 from rfl] at * <;> first | (rw [e3]; omega) | skip
  · sorry
  · sorry
  · sorry
  · sorry
  · cases h; exact ⟨_, rfl, ab_fv _, rfl, rfl⟩
  · cases h; exact ⟨_, rfl, ab_fv _, rfl, rfl⟩
  · cases h; exact ⟨_, rfl, ab_fv _, rfl, rfl⟩
  · cases h; exact ⟨_, rfl, ab_fv _, rfl, rfl⟩
  · cases h
end AbT
