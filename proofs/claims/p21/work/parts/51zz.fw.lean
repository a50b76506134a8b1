/-! PHASE F: the goals' base. -/
/-- what is told of a fact's clause, its letters in any form -/
def eDv (u v : SyV) (name x : Nat) (i : Nat) : SyV := [(0, 5, 0, 0), (0, cond (Nat.beq x 1) 3 5, 0, 0), (0, 5, 0, 0), (0, 0, 0, 0), (0, 0, 0, 0), (0, 2, 0, 0), u, cond (Nat.beq x 1) (1, 0, 0, 0) v, (1, (name : Int), 0, 0), (0, -1, 0, 0), (0, -1, 0, 0), (0, 0, 0, 0), (0, 1, 0, 0), (0, -1, 0, 0), (0, -1, 0, 0), (0, 0, 0, 0), (0, 1, 0, 0), (0, 0, 0, 0), (0, 2, 0, 0), (0, -1, 0, 0)].getD i (0, 0, 0, 0)
def eDe (a t z p : Nat) (u v : SyV) (name x : Nat) (is : List Nat) : SyE := ((4, (a : Int), 0, 0), t, z, none, is.map fun i => ((0, ((ndc i).2.2 : Int), p, (ndc i).2.1), eDv u v name x i))
def eD (p : Nat) (u v : SyV) (name x : Nat) : SyM := [eDe 4 61 2624 p u v name x (cond (Nat.beq x 2) [0, 2] [0, 1, 2]), eDe 5 61 2624 p u v name x [3, 4, 5], eDe 6 62 2624 p u v name x (cond (Nat.beq x 2) [6, 8] [6, 7, 8]), eDe 7 61 2624 p u v name x [9, 10, 11], eDe 8 61 2624 p u v name x [12, 13, 14], eDe 9 61 2624 p u v name x [15, 16, 17], eDe 11 61 41 p u v name x [18], eDe 12 61 41 p u v name x [19], ((4, 10, 0, 0), 61, 41, none, [((0, 0, p, 1), (0, 0, p, 1))])]
/-- what a goal's search writes: links from lk on, choices from ch on -/
def gw_W : SyW := [((4, 23, 0, 0), (0, (-1), 0, 0), (0, 70000, 0, 0)), ((4, 25, 0, 0), (0, (-1), 0, 0), (0, 70000, 0, 0)), ((4, 26, 0, 0), (0, (-1), 0, 0), (0, 70000, 0, 0)), ((4, 28, 0, 0), (0, (-1), 0, 0), (0, 70000, 0, 0)), ((4, 29, 0, 0), (0, (-1), 0, 0), (0, 70000, 0, 0)), ((4, 31, 0, 0), (0, (-1), 0, 0), (0, 70000, 0, 0)), ((4, 32, 0, 0), (0, (-1), 0, 0), (0, 70000, 0, 0)), ((4, 34, 0, 0), (0, 0, 17, 1), (0, 70000, 0, 0)), ((4, 35, 0, 0), (0, 0, 17, 1), (0, 70000, 0, 0)), ((4, 36, 0, 0), (0, 0, 17, 1), (0, 70000, 0, 0)), ((4, 37, 0, 0), (0, 0, 24, 1), (0, 70000, 0, 0)), ((4, 38, 0, 0), (0, 0, 24, 1), (0, 70000, 0, 0)), ((4, 39, 0, 0), (0, 0, 24, 1), (0, 70000, 0, 0)), ((4, 40, 0, 0), (0, 0, 24, 1), (0, 70000, 0, 0)), ((4, 22, 0, 0), (0, 5, 0, 0), (0, 8, 0, 0)), ((4, 27, 0, 0), (0, 2, 0, 0), (0, 2, 0, 0)), ((4, 30, 0, 0), (0, 3, 0, 0), (0, 3, 0, 0)), ((4, 33, 0, 0), (0, 7, 0, 0), (0, 18, 0, 0))]
/-- the links and choices that were there before -/
def EN (lk ch : Int) (M0 : Nat → Nat → Value) (c : MsC) : Prop := ∀ q j : Nat, (34 ≤ q ∧ q ≤ 36 ∧ (j : Int) < lk) ∨ (37 ≤ q ∧ q ≤ 40 ∧ (j : Int) < ch) → c.2.2.1 q j = M0 q j
def PG (Q R : SyM) (b lk ch : Int) (M0 : Nat → Nat → Value) (L : Nat) (xs : Nat → Int32) (n : Nat) (fa : Fa) (c : MsC) : Prop := PN Q R b L xs n fa c ∧ EN lk ch M0 c
section FwS
variable {pv pw : Nat → Int} {Q R : SyM} {b lk ch : Int} {M0 : Nat → Nat → Value} {S : AmS} {rest : List MsF} {c c' : MsC} {L : Nat} {xs : Nat → Int32} {n : Nat} {fa : Fa}
theorem eDv_ok {u v : SyV} {name x j : Nat} (hu : u.1 = 1 ∧ sy_n pv u = uq n fa j) (hx : x = 2 ∨ (x = 1 ∧ xq n fa j = true) ∨ (x = 0 ∧ xq n fa j = false ∧ v.1 = 1 ∧ sy_n pv v = vq n fa j)) (hn : (fx n fa j).1 = name) (i : Nat) (hi : i < 20) (h2 : x = 2 → i ≠ 1 ∧ i ≠ 7) : (eDv u v name x i).1 = nd_k i ∧ nd_k i < 9 ∧ sy_n pv (eDv u v name x i) = nd_z (fx n fa j) i := by
  match i, hi with
  | 0, _ => exact ⟨rfl, by decide, sy_n0 rfl⟩
  | 1, _ =>
    rcases hx with rfl | ⟨rfl, h⟩ | ⟨rfl, h, -⟩
    · exact absurd rfl (h2 rfl).1
    · exact ⟨rfl, by decide, (sy_n0 rfl).trans (if_pos (of_decide_eq_true h)).symm⟩
    · exact ⟨rfl, by decide, (sy_n0 rfl).trans (if_neg (of_decide_eq_false h)).symm⟩
  | 2, _ => exact ⟨rfl, by decide, sy_n0 rfl⟩
  | 3, _ => exact ⟨rfl, by decide, sy_n0 rfl⟩
  | 4, _ => exact ⟨rfl, by decide, sy_n0 rfl⟩
  | 5, _ => exact ⟨rfl, by decide, sy_n0 rfl⟩
  | 6, _ => exact ⟨hu.1, by decide, hu.2⟩
  | 7, _ =>
    rcases hx with rfl | ⟨rfl, h⟩ | ⟨rfl, h, hv⟩
    · exact absurd rfl (h2 rfl).2
    · exact ⟨rfl, by decide, (sy_n0 rfl).trans (if_pos (of_decide_eq_true h)).symm⟩
    · exact ⟨hv.1, by decide, hv.2.trans (if_neg (of_decide_eq_false h)).symm⟩
  | 8, _ => exact ⟨rfl, by decide, (sy_n0 rfl).trans hn.symm⟩
  | 9, _ => exact ⟨rfl, by decide, sy_n0 rfl⟩
  | 10, _ => exact ⟨rfl, by decide, sy_n0 rfl⟩
  | 11, _ => exact ⟨rfl, by decide, sy_n0 rfl⟩
  | 12, _ => exact ⟨rfl, by decide, sy_n0 rfl⟩
  | 13, _ => exact ⟨rfl, by decide, sy_n0 rfl⟩
  | 14, _ => exact ⟨rfl, by decide, sy_n0 rfl⟩
  | 15, _ => exact ⟨rfl, by decide, sy_n0 rfl⟩
  | 16, _ => exact ⟨rfl, by decide, sy_n0 rfl⟩
  | 17, _ => exact ⟨rfl, by decide, sy_n0 rfl⟩
  | 18, _ => exact ⟨rfl, by decide, sy_n0 rfl⟩
  | 19, _ => exact ⟨rfl, by decide, sy_n0 rfl⟩
  | i + 20, h => exact absurd h (by omega)
theorem eDe_ok {a t z p name x j : Nat} {u v : SyV} {is : List Nat} (hI : c.2.1 a = (t, z) ∧ (a < c.2.2.2.1 ∨ am_EXT ≤ a)) (hn : nx_ok n fa (n + 2) c.2.2.1) (hj : j < n + 2) (hp : pv p = j) (hu : u.1 = 1 ∧ sy_n pv u = uq n fa j) (hx : x = 2 ∨ (x = 1 ∧ xq n fa j = true) ∨ (x = 0 ∧ xq n fa j = false ∧ v.1 = 1 ∧ sy_n pv v = vq n fa j)) (hl : (fx n fa j).1 = name) (his : is.all (fun i => Nat.blt i 20 && (Nat.beq (ndc i).1 a && (!(Nat.beq x 2) || (!(Nat.beq i 1) && !(Nat.beq i 7))))) = true) : sy_ce pv (eDe a t z p u v name x is) c.2 := by
  refine sy_ce_of (k := a) (sy_n0 rfl) hI.1 hI.2 rfl fun q hq => ?_
  obtain ⟨i, hi, rfl⟩ := List.mem_map.mp hq
  obtain ⟨h1, h2⟩ := Bool.and_eq_true_iff.mp (List.all_eq_true.mp his i hi)
  obtain ⟨h2, h3⟩ := Bool.and_eq_true_iff.mp h2
  have hk := eDv_ok hu hx hl i (am_blt h1) (fun hx2 => by
    subst hx2
    rcases Bool.or_eq_true_iff.mp h3 with z | z
    · cases z
    · obtain ⟨z1, z2⟩ := Bool.and_eq_true_iff.mp z
      exact ⟨(fun e => by subst e; cases z1), (fun e => by subst e; cases z2)⟩)
  refine ⟨(ndc i).2.1 * j + (ndc i).2.2, ?_, ?_⟩
  · show ((ndc i).2.2 : Int) + (((ndc i).2.1 : Nat) : Int) * pv p = _
    rw [hp]
    omega
  · have := hn j hj i (am_blt h1)
    rw [am_beq h2] at this
    exact this.to hk.1 hk.2.1 hk.2.2
theorem PN.ed (hP : PN Q R b L xs n fa c) {p name x : Nat} {u v : SyV} (j : Nat) (hj : j < n + 2) (hp : pv p = j) (hu : u.1 = 1 ∧ sy_n pv u = uq n fa j) (hx : x = 2 ∨ (x = 1 ∧ xq n fa j = true) ∨ (x = 0 ∧ xq n fa j = false ∧ v.1 = 1 ∧ sy_n pv v = vq n fa j)) (hn : lt n fa j = name) : sy_me pv (eD p u v name x) c.2 := by
  have hl : (fx n fa j).1 = name := by rw [fx_lt j hj]; exact hn
  have I : ∀ q t z : Nat, fp_I.any (fun e => decide (e.1 = (4, (q : Int), 0, 0)) && (Nat.beq e.2.1 t && Nat.beq e.2.2.1 z)) = true → c.2.1 q = (t, z) ∧ (q < c.2.2.2.1 ∨ am_EXT ≤ q) := fun q t z h => hP.i.inst q t z h
  have hx3 : x = 0 ∨ x = 1 ∨ x = 2 := by rcases hx with h | ⟨h, -⟩ | ⟨h, -⟩ <;> omega
  intro e he
  unfold eD at he
  rcases List.mem_cons.mp he with rfl | he
  · exact eDe_ok (I 4 61 2624 (by decide +kernel)) hP.nx hj hp hu hx hl (by rcases hx3 with rfl | rfl | rfl <;> decide)
  rcases List.mem_cons.mp he with rfl | he
  · exact eDe_ok (I 5 61 2624 (by decide +kernel)) hP.nx hj hp hu hx hl (by rcases hx3 with rfl | rfl | rfl <;> decide)
  rcases List.mem_cons.mp he with rfl | he
  · exact eDe_ok (I 6 62 2624 (by decide +kernel)) hP.nx hj hp hu hx hl (by rcases hx3 with rfl | rfl | rfl <;> decide)
  rcases List.mem_cons.mp he with rfl | he
  · exact eDe_ok (I 7 61 2624 (by decide +kernel)) hP.nx hj hp hu hx hl (by rcases hx3 with rfl | rfl | rfl <;> decide)
  rcases List.mem_cons.mp he with rfl | he
  · exact eDe_ok (I 8 61 2624 (by decide +kernel)) hP.nx hj hp hu hx hl (by rcases hx3 with rfl | rfl | rfl <;> decide)
  rcases List.mem_cons.mp he with rfl | he
  · exact eDe_ok (I 9 61 2624 (by decide +kernel)) hP.nx hj hp hu hx hl (by rcases hx3 with rfl | rfl | rfl <;> decide)
  rcases List.mem_cons.mp he with rfl | he
  · exact eDe_ok (I 11 61 41 (by decide +kernel)) hP.nx hj hp hu hx hl (by rcases hx3 with rfl | rfl | rfl <;> decide)
  rcases List.mem_cons.mp he with rfl | he
  · exact eDe_ok (I 12 61 41 (by decide +kernel)) hP.nx hj hp hu hx hl (by rcases hx3 with rfl | rfl | rfl <;> decide)
  rcases List.mem_cons.mp he with rfl | he
  · refine sy_ce_of (k := 10) (sy_n0 rfl) (I 10 61 41 (by decide +kernel)).1 (I 10 61 41 (by decide +kernel)).2 rfl fun q hq => ?_
    rcases List.mem_cons.mp hq with rfl | hq
    · have e : sy_n pv ((0, 0, p, 1) : SyV) = j := by
        show 0 + ((1 : Nat) : Int) * pv p = _
        omega
      exact ⟨j, e, (hP.cl j (by omega)).1.to rfl (by decide) e⟩
    · cases hq
  · cases he
/-- of the cells alone -/
theorem gw_ko {W : SyW} (h : W.all (fun w => fp_W.any (fun v => qe_v v.1 w.1)) = true) {D : SyM} (hD : sy_ko fp_W D = true) : sy_ko W D = true := by
  refine List.all_eq_true.mpr fun e he => ?_
  have h2 := List.all_eq_true.mp hD e he
  rcases Bool.or_eq_true_iff.mp h2 with h2 | h2
  · exact Bool.or_eq_true_iff.mpr (Or.inl h2)
  · obtain ⟨k1, k2⟩ := Bool.and_eq_true_iff.mp h2
    refine Bool.or_eq_true_iff.mpr (Or.inr (Bool.and_eq_true_iff.mpr ⟨k1, List.all_eq_true.mpr fun w hw => ?_⟩))
    obtain ⟨v, v1, v2⟩ := List.any_eq_true.mp (List.all_eq_true.mp h w hw)
    have := List.all_eq_true.mp k2 v v1
    rw [← qe_v_ok v2]
    exact this
theorem gw_1 {a : SyV} : (gw_W ++ [((4, 15, 0, 0), a, a)]).all (fun w => fp_W.any (fun v => qe_v v.1 w.1)) = true := by
  rw [List.all_append]
  exact Bool.and_eq_true_iff.mpr ⟨by decide +kernel, by rw [List.all_cons, List.all_nil, Bool.and_true]; show fp_W.any (fun v => qe_v v.1 (4, 15, 0, 0)) = true; decide +kernel⟩
theorem EN.st {W : SyW} (h : EN lk ch M0 c) (ht : 54 ≤ c.2.2.2.1) (hc : sy_ch pv (gw_W ++ W) c c') (hW : ∀ w ∈ W, w.1 = (4, 15, 0, 0)) (hl : pv 17 = lk) (hh : pv 24 = ch) : EN lk ch M0 c' := fun q j hq => by
  rw [← h q j hq]
  refine hc.1 q j (Or.inl (by omega)) fun w hw z => ?_
  rcases List.mem_append.mp hw with hw | hw
  · have key : gw_W.all (fun w => Nat.beq w.1.2.2.2 0 && ((sy_lt w.1.2.1 34 || sy_lt 40 w.1.2.1) || ((sy_lt w.1.2.1 37 && qe_v w.2.1 (0, 0, 17, 1)) || (sy_lt 36 w.1.2.1 && qe_v w.2.1 (0, 0, 24, 1))))) = true := by decide +kernel
    obtain ⟨k0, k⟩ := Bool.and_eq_true_iff.mp (List.all_eq_true.mp key w hw)
    obtain ⟨z1, z2, z3⟩ := z
    rw [sy_n0 (am_beq k0)] at z1
    rcases Bool.or_eq_true_iff.mp k with k | k
    · rcases Bool.or_eq_true_iff.mp k with k | k
      · have := sy_lt_t k
        omega
      · have := sy_lt_t k
        omega
    · rcases Bool.or_eq_true_iff.mp k with k | k
      · obtain ⟨k1, k2⟩ := Bool.and_eq_true_iff.mp k
        have := sy_lt_t k1
        rw [qe_v_ok k2] at z2
        have z2 : 0 + ((1 : Nat) : Int) * pv 17 ≤ j := z2
        omega
      · obtain ⟨k1, k2⟩ := Bool.and_eq_true_iff.mp k
        have := sy_lt_t k1
        rw [qe_v_ok k2] at z2
        have z2 : 0 + ((1 : Nat) : Int) * pv 24 ≤ j := z2
        omega
  · have z1 := z.1
    rw [hW w hw, sy_n0 rfl] at z1
    dsimp only at z1
    omega
theorem PG.st0 (hP : PG Q R b lk ch M0 L xs n fa c) (hko : sy_ko fp_W Q = true) (hE : sy_E0 L xs c') (hc : sy_ch pv gw_W c c') (hl : pv 17 = lk) (hh : pv 24 = ch) : PG Q R b lk ch M0 L xs n fa c' := ⟨hP.1.st hko hE hc (gw_ko (by decide +kernel)) fun i hi => by
  rw [sy_ko_q (c := c) (q := 15) (by decide +kernel) hc (by have := hP.1.top; omega)]
  exact hP.1.us i hi, hP.2.st (W := []) hP.1.top (by rw [List.append_nil]; exact hc) (fun _ h => (nomatch h)) hl hh⟩
theorem PG.st1 {a a2 : SyV} (hP : PG Q R b lk ch M0 L xs n fa c) (hko : sy_ko fp_W Q = true) (hE : sy_E0 L xs c') (hc : sy_ch pv (gw_W ++ [((4, 15, 0, 0), a, a)]) c c') (hu : sy_me pw (uD a2) c'.2) (ha : sy_n pw a2 = sy_n pv a) (hl : pv 17 = lk) (hh : pv 24 = ch) : PG Q R b lk ch M0 L xs n fa c' := by
  refine ⟨hP.1.st hko hE hc (gw_ko gw_1) fun i hi => ?_, hP.2.st hP.1.top hc (fun w hw => ?_) hl hh⟩
  rotate_left
  · rcases List.mem_cons.mp hw with rfl | hw
    · rfl
    · cases hw
  by_cases hi2 : sy_n pv a = i
  · obtain ⟨-, -, g, -⟩ := sy_ce_at (hu _ List.mem_cons_self) (k := 15) (sy_n0 rfl)
    obtain ⟨k, k1, k2⟩ := g _ List.mem_cons_self
    have e : k = i := by
      dsimp only at k1
      omega
    rw [e] at k2
    exact k2
  · rw [hc.1 15 i (Or.inl (by have := hP.1.top; omega)) fun w hw z => ?_]
    · exact hP.1.us i hi
    · rcases List.mem_append.mp hw with hw | hw
      · have hk : gw_W.all (fun w => Nat.beq w.1.2.2.2 0 && !(sy_eq w.1.2.1 15)) = true := by decide +kernel
        obtain ⟨k1, k2⟩ := Bool.and_eq_true_iff.mp (List.all_eq_true.mp hk w hw)
        have z1 := z.1
        rw [sy_n0 (am_beq k1)] at z1
        cases hb : sy_eq w.1.2.1 15 with
        | true => rw [hb] at k2; cases k2
        | false => exact sy_eq_f hb z1
      · rcases List.mem_cons.mp hw with rfl | hw
        · dsimp only at z
          omega
        · cases hw
end FwS
/-! Parameters that are constants. -/
def sy_k9 (D : SyM) : Bool := D.all (fun e => Nat.blt e.1.1 9 && ((match e.2.2.2.1 with
  | some d => Nat.blt d.1 9
  | none => true) && e.2.2.2.2.all (fun p => Nat.blt p.1.1 9 && Nat.blt p.2.1 9)))
section FsS
variable {pv pw : Nat → Int} {D M : SyM} {S : AmS} {rest : List MsF} {c c' : MsC} {L : Nat} {xs : Nat → Int32}
theorem sy_me.su {s : List (Nat × SyV)} (hs : sy_pv pv s = pv) (h9 : sy_k9 D = true) (h : sy_me pv D S) : sy_me pv (D.map (sy_suE s)) S := by
  have hn : ∀ a : SyV, sy_n pv (sy_su s a) = sy_n pv a := fun a => by rw [sy_su_n, hs]
  intro e he
  obtain ⟨e0, h0, rfl⟩ := List.mem_map.mp he
  obtain ⟨k1, k2⟩ := Bool.and_eq_true_iff.mp (List.all_eq_true.mp h9 e0 h0)
  obtain ⟨k2, k3⟩ := Bool.and_eq_true_iff.mp k2
  obtain ⟨k, g1, g2, g3, g4, g5⟩ := h e0 h0
  refine ⟨k, (hn _).trans g1, g2, g3, fun p hp => ?_, fun d hd j hj => ?_⟩
  · obtain ⟨p0, p1, rfl⟩ := List.mem_map.mp hp
    obtain ⟨k4, k5⟩ := Bool.and_eq_true_iff.mp (List.all_eq_true.mp k3 p0 p1)
    obtain ⟨i, i1, i2⟩ := g4 p0 p1
    exact ⟨i, (hn _).trans i1, sy_v_eq (b := p0.2) sy_su_k (by rw [sy_su_k]; exact am_blt k5) (hn _) i2⟩
  · have hd : e0.2.2.2.1.map (sy_su s) = some d := hd
    cases hd0 : e0.2.2.2.1 with
    | none => rw [hd0] at hd; cases hd
    | some d0 =>
      rw [hd0] at hd k2
      have hd : some (sy_su s d0) = some d := hd
      cases hd
      refine sy_v_eq (b := d0) sy_su_k (by rw [sy_su_k]; exact am_blt k2) (hn _) (g5 d0 hd0 j fun p hp => ?_)
      have := hj (sy_su s p.1, sy_su s p.2) (List.mem_map.mpr ⟨p, hp, rfl⟩)
      rw [← hn p.1]
      exact this
/-- what is told of places below and above -/
def sy_kp (G : SyG) (L : SyW) (D : SyM) : Bool := D.all (fun e => L.all (fun w => sy_df G w.1 e.1 || (e.2.2.2.1.isNone && e.2.2.2.2.all (fun p => (match sy_cmp G p.1 w.2.1 with
  | some r => Nat.beq r 0
  | none => false) || (match sy_cmp G w.2.2 p.1 with
  | some r => Nat.beq r 0
  | none => false)))))
theorem sy_me.kp {G : SyG} {W : SyW} (hg : sy_g pv G) (hM : sy_me pv D c.2) (hc : sy_ch pv W c c') (h : sy_kp G W D = true) : sy_me pv D c'.2 := by
  intro e he
  obtain ⟨q, g1, g2, g3, g4, g5⟩ := hM e he
  have g3' : q < c'.2.2.2.1 ∨ am_EXT ≤ q := g3.imp (fun z => Nat.lt_of_lt_of_le z hc.2.2) id
  have g2' := (hc.2.1 q g3).trans g2
  have h := List.all_eq_true.mp h e he
  refine ⟨q, g1, g2', g3', fun p hp => ?_, fun d hd j hj => ?_⟩
  · obtain ⟨i, i1, i2⟩ := g4 p hp
    refine ⟨i, i1, ?_⟩
    rw [hc.1 q i g3 fun w hw z => ?_]
    · exact i2
    · rcases Bool.or_eq_true_iff.mp (List.all_eq_true.mp h w hw) with k | k
      · exact sy_df_ok hg k (z.1.trans g1.symm)
      · obtain ⟨-, k⟩ := Bool.and_eq_true_iff.mp k
        rcases Bool.or_eq_true_iff.mp (List.all_eq_true.mp k p hp) with k | k
        · split at k
          · rename_i r hr
            rcases sy_cmp_ok hg hr with ⟨rfl, k2⟩ | ⟨rfl, -⟩ | ⟨rfl, -⟩
            · omega
            · cases k
            · cases k
          · cases k
        · split at k
          · rename_i r hr
            rcases sy_cmp_ok hg hr with ⟨rfl, k2⟩ | ⟨rfl, -⟩ | ⟨rfl, -⟩
            · omega
            · cases k
            · cases k
          · cases k
  · have hne : c'.2.2.1 q j = c.2.2.1 q j := hc.1 q j g3 fun w hw z => by
      rcases Bool.or_eq_true_iff.mp (List.all_eq_true.mp h w hw) with k | k
      · exact sy_df_ok hg k (z.1.trans g1.symm)
      · obtain ⟨k, -⟩ := Bool.and_eq_true_iff.mp k
        rw [hd] at k
        cases k
    rw [hne]
    exact g5 d hd j hj
/-- an edge that stands by itself -/
theorem pe_x {D' AM DD : SyM} {fr fr' : List SyF} {G : SyG} {X : List Nat} {O : SyO} {stops : List (Nat × Nat × Nat)} {f : Nat} {W : SyW} {s : List (Nat × SyV)} {m : List Nat} (hed : sx_ed G X O stops f W s (cf fr AM) (cf fr' D') = true) (hA : qe_M AM DD = true) (hb : sy_bC m (cf fr' D') = true) (hF : sy_Fs pv rest fr c.1) (hM : mm pv DD c.2) (hE : sy_E0 L xs c) (hg : sy_g pv G) (hO : sy_Or pv (sy_x X c) O) (hr : rest.length ≤ sy_lim O) (hX : ∀ a ∈ X, a < c.2.2.2.1) (hp : ∀ p ∈ m, sy_pv pv s p = pw p) :
    ∃ c', rch c c' ∧ sy_Fs pw rest fr' c'.1 ∧ mm pw D' c'.2 ∧ sy_E0 L xs c' ∧ sy_ch pv W c c' := by
  have hT : sy_T pv rest (cf fr AM) c := by
    rw [qe_M_ok hA]
    exact cf_T hF hM
  obtain ⟨c', k1, k2, k3, k4, -⟩ := sy_go (pv := pv) (pw := pw) hed rfl ⟨rfl, rfl, rfl⟩ hb hp hg hO hr hX hT hE
  obtain ⟨q1, q2⟩ := cf_of k2
  exact ⟨c', k1, q1, q2, k3, k4⟩
end FsS
section FtS
variable {pv pw : Nat → Int} {D M : SyM} {S : AmS} {rest : List MsF} {c c' : MsC} {L : Nat} {xs : Nat → Int32}
theorem su_id {s : List (Nat × SyV)} (h : ∀ q ∈ s, sy_n pv q.2 = pv q.1) : sy_pv pv s = pv := by
  funext p
  induction s with
  | nil => unfold sy_pv sy_sp sy_n; simp
  | cons q l ih =>
    have e : sy_pv pv (q :: l) p = sy_n pv (cond (Nat.beq q.1 p) q.2 (sy_sp l p)) := rfl
    rw [e]
    cases hb : Nat.beq q.1 p with
    | true =>
      simp only [cond_true]
      rw [← am_beq hb]
      exact h q List.mem_cons_self
    | false =>
      simp only [cond_false]
      exact ih fun r hr => h r (List.mem_cons_of_mem _ hr)
/-- an edge that comes by its stop several times -/
theorem pe_xn {D' AM DD : SyM} {fr fr' : List SyF} {G : SyG} {X : List Nat} {O : SyO} {stops : List (Nat × Nat × Nat)} {f mm9 : Nat} {W : SyW} {s : List (Nat × SyV)} {m : List Nat} (hed : sx_edn G X O stops f mm9 W s (cf fr AM) (cf fr' D') = true) (hA : qe_M AM DD = true) (hb : sy_bC m (cf fr' D') = true) (hF : sy_Fs pv rest fr c.1) (hM : mm pv DD c.2) (hE : sy_E0 L xs c) (hg : sy_g pv G) (hO : sy_Or pv (sy_x X c) O) (hr : rest.length ≤ sy_lim O) (hX : ∀ a ∈ X, a < c.2.2.2.1) (hp : ∀ p ∈ m, sy_pv pv s p = pw p) :
    ∃ c', rch c c' ∧ sy_Fs pw rest fr' c'.1 ∧ mm pw D' c'.2 ∧ sy_E0 L xs c' ∧ sy_ch pv W c c' := by
  have hT : sy_T pv rest (cf fr AM) c := by
    rw [qe_M_ok hA]
    exact cf_T hF hM
  obtain ⟨c', k1, k2, k3, k4, -⟩ := sy_gon (pv := pv) (pw := pw) hed rfl ⟨rfl, rfl, rfl⟩ hb hp hg hO hr hX hT hE
  obtain ⟨q1, q2⟩ := cf_of k2
  exact ⟨c', k1, q1, q2, k3, k4⟩
/-- marks and choices of the nots around a goal -/
def emL1 : List (Nat × Nat × Int) := [(34, 1, -2), (36, 1, 0), (37, 0, -2), (38, 0, -1), (39, 0, -1), (40, 0, 0)]
def emL2 : List (Nat × Nat × Int) := [(34, 1, -2), (36, 1, 0), (37, 0, -2), (38, 0, -1), (39, 0, -1), (40, 0, 0), (34, 3, -2), (36, 3, 1), (37, 1, -2), (38, 1, -1), (39, 1, 1), (40, 1, 0)]
def emZ (q : Nat) : Nat := cond (Nat.blt q 37) 8008 1000
def emD (l : List (Nat × Nat × Int)) : SyM := l.map fun q => ((4, (q.1 : Int), 0, 0), 61, emZ q.1, none, [((0, (q.2.1 : Int), 0, 0), (0, q.2.2, 0, 0))])
def em_ok (l : List (Nat × Nat × Int)) (M0 : Nat → Nat → Value) : Prop := ∀ q ∈ l, tv M0 q.1 q.2.1 0 q.2.2
theorem em_me {l : List (Nat × Nat × Int)} {lk ch : Int} {M0 : Nat → Nat → Value} {R : SyM} (hN : EN lk ch M0 c) (h : em_ok l M0) (hR : sy_me pw R c.2) (hi : l.all (fun q => R.any (fun e => decide (e.1 = (4, (q.1 : Int), 0, 0)) && (Nat.beq e.2.1 61 && Nat.beq e.2.2.1 (emZ q.1)))) = true) (hl : ∀ q ∈ l, (34 ≤ q.1 ∧ q.1 ≤ 36 ∧ (q.2.1 : Int) < lk) ∨ (37 ≤ q.1 ∧ q.1 ≤ 40 ∧ (q.2.1 : Int) < ch)) : sy_me pv (emD l) c.2 := by
  intro e he
  obtain ⟨q, hq, rfl⟩ := List.mem_map.mp he
  have I := hR.inst q.1 61 (emZ q.1) (List.all_eq_true.mp hi q hq)
  refine sy_ce_of (k := q.1) (sy_n0 rfl) I.1 I.2 rfl fun p hp => ?_
  rcases List.mem_cons.mp hp with rfl | hp
  · refine ⟨q.2.1, sy_n0 rfl, ?_⟩
    rw [hN q.1 q.2.1 (hl q hq)]
    exact (h q hq).to rfl (by decide) (sy_n0 rfl)
  · cases hp
theorem em_of {l : List (Nat × Nat × Int)} (h : sy_me pv (emD l) S) : em_ok l S.2.1 := fun q hq => by
  obtain ⟨-, -, g, -⟩ := sy_ce_at (h _ (List.mem_map.mpr ⟨q, hq, rfl⟩)) (k := q.1) (sy_n0 rfl)
  obtain ⟨i, i1, i2⟩ := g _ List.mem_cons_self
  have i1 : sy_n pv ((0, (q.2.1 : Int), 0, 0) : SyV) = i := i1
  rw [sy_n0 rfl] at i1
  have e : i = q.2.1 := by
    dsimp only at i1
    omega
  rw [e] at i2
  exact tv.of i2 (by show (0 : Nat) < 9; decide) (sy_n0 rfl)
end FtS
