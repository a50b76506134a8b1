/-! PHASE G: the law about r and s, from the first question to the goals. -/
/-- nothing has changed in the class's cells -/
def lowk (c c' : MsC) : Prop := (∀ q : Nat, q < 54 → c'.2.1 q = c.2.1 q ∧ ∀ j, c'.2.2.1 q j = c.2.2.1 q j) ∧ c.2.2.2.1 ≤ c'.2.2.2.1
def sy_l54 (D : SyM) : Bool := D.all (fun e => Nat.beq e.1.2.2.2 0 && sy_lt e.1.2.1 54)
section LrS
variable {pv pw : Nat → Int} {D Q R X : SyM} {b : Int} {S : AmS} {rest : List MsF} {c c' : MsC} {L : Nat} {xs : Nat → Int32} {n : Nat} {fa : Fa} {x5 x6 N T s so a0 a1 a2 : Int} {d5 d6 d5' d6' : List (SyV × SyV)}
theorem sy_me.low (h : sy_me pv D c.2) (hl : lowk c c') (hD : sy_l54 D = true) : sy_me pv D c'.2 := by
  intro e he
  obtain ⟨q, g1, g2, g3, g4, g5⟩ := h e he
  obtain ⟨k1, k2⟩ := Bool.and_eq_true_iff.mp (List.all_eq_true.mp hD e he)
  have k2 := sy_lt_t k2
  have g9 := g1
  rw [sy_n0 (am_beq k1)] at g9
  obtain ⟨m1, m2⟩ := hl.1 q (by omega)
  refine ⟨q, g1, m1.trans g2, g3.imp (fun z => Nat.lt_of_lt_of_le z hl.2) id, fun p hp => ?_, fun d hd j hj => by rw [m2 j]; exact g5 d hd j hj⟩
  obtain ⟨i, i1, i2⟩ := g4 p hp
  exact ⟨i, i1, by rw [m2 i]; exact i2⟩
theorem LN.low (h : LN L xs n fa c) (hl : lowk c c') (hE : sy_E0 L xs c') : LN L xs n fa c' := by
  have hP := h.1
  have hM : ∀ q j : Nat, q < 54 → c'.2.2.1 q j = c.2.2.1 q j := fun q j hq => (hl.1 q hq).2 j
  refine ⟨⟨hE, ⟨hP.2.1.1.low hl (by decide +kernel), hP.2.1.2.low hl (by decide +kernel)⟩, fun j hj i hi => (hP.nx j hj i hi).eq (hM _ _ ?_), hP.cl.eq fun q j hq => hM q j (by omega), fun i hi => by rw [hM 15 i (by omega)]; exact hP.us i hi, Nat.le_trans hP.top hl.2, hP.2.2.2.2.2.2.1, hP.h.low hl (by decide +kernel), hP.i.low hl (by decide +kernel), hP.ko⟩, h.2.low hl (by decide +kernel)⟩
  rcases ndc_r i (by omega) with h | h <;> omega
theorem LN.sm (h : LN L xs n fa c) (hs : sy_sm c.2 c'.2) (hE : sy_E0 L xs c') : LN L xs n fa c' := ⟨h.1.sm hs hE, h.2.sm hs⟩
theorem LN.mem (h : LN L xs n fa c) (e : c'.2 = c.2) : LN L xs n fa c' := ⟨h.1.mem e, by rw [e]; exact h.2⟩
/-- what was written lies in the law's own cells -/
theorem lowk.of {W : SyW} (hc : sy_ch pv W c c') (ht : 54 ≤ c.2.2.2.1) (hW : ∀ w ∈ W, 54 ≤ sy_n pv w.1) : lowk c c' := ⟨fun q hq => ⟨hc.2.1 q (Or.inl (by omega)), fun j => hc.1 q j (Or.inl (by omega)) fun w hw z => by
  have := hW w hw
  omega⟩, hc.2.2⟩
theorem rw5 (h : sy_me pw (rwX x5 x6 d5 d6) S) (hp : pv 17 = x5) (hd : sq_pl pw pv d5 d5') : sy_me pv [((4, 0, 17, 1), 61, 2, none, d5')] S :=
  sq_M.ok (pv := pw) (l := [((4, x5, 0, 0), 61, 2, none, d5)]) ⟨(sy_n0 rfl).trans (by show x5 = 0 + ((1 : Nat) : Int) * pv 17; omega), rfl, rfl, rfl, hd, trivial⟩ fun e he => by
    rcases List.mem_cons.mp he with rfl | he
    · exact h _ List.mem_cons_self
    · cases he
theorem rw6 (h : sy_me pw (rwX x5 x6 d5 d6) S) (hp : pv 18 = x6) (hd : sq_pl pw pv d6 d6') : sy_me pv [((4, 0, 18, 1), 62, 2, none, d6')] S :=
  sq_M.ok (pv := pw) (l := [((4, x6, 0, 0), 62, 2, none, d6)]) ⟨(sy_n0 rfl).trans (by show x6 = 0 + ((1 : Nat) : Int) * pv 18; omega), rfl, rfl, rfl, hd, trivial⟩ fun e he => by
    rcases List.mem_cons.mp he with rfl | he
    · exact h _ (List.mem_cons_of_mem _ List.mem_cons_self)
    · cases he
theorem rwX_of {pv' : Nat → Int} (h5 : sy_me pv [((4, 0, 17, 1), 61, 2, none, d5)] S) (h6 : sy_me pv' [((4, 0, 18, 1), 62, 2, none, d6)] S) (p5 : pv 17 = x5) (p6 : pv' 18 = x6) (e5 : sq_pl pv pw d5 d5') (e6 : sq_pl pv' pw d6 d6') : sy_me pw (rwX x5 x6 d5' d6') S := by
  have k5 : sy_me pw [((4, x5, 0, 0), 61, 2, none, d5')] S := sq_M.ok (pv := pv) (l := [((4, 0, 17, 1), 61, 2, none, d5)]) ⟨(show 0 + ((1 : Nat) : Int) * pv 17 = x5 by omega).trans (sy_n0 (pv := pw) (a := (4, x5, 0, 0)) rfl).symm, rfl, rfl, rfl, e5, trivial⟩ h5
  have k6 : sy_me pw [((4, x6, 0, 0), 62, 2, none, d6')] S := sq_M.ok (pv := pv') (l := [((4, 0, 18, 1), 62, 2, none, d6)]) ⟨(show 0 + ((1 : Nat) : Int) * pv' 18 = x6 by omega).trans (sy_n0 (pv := pw) (a := (4, x6, 0, 0)) rfl).symm, rfl, rfl, rfl, e6, trivial⟩ h6
  exact k5.app k6
theorem rwX_sm (h : sy_me pv (rwX x5 x6 d5 d6) c.2) (hs : sy_sm c.2 c'.2) : sy_me pv (rwX x5 x6 d5 d6) c'.2 := h.sm hs
theorem hb_app (h : (R.any (fun e => qe_M [e] lw_HB) && lw_HB.all (sy_bE [])) = true) : ((R ++ X).any (fun e => qe_M [e] lw_HB) && lw_HB.all (sy_bE [])) = true := by
  obtain ⟨h1, h2⟩ := Bool.and_eq_true_iff.mp h
  rw [List.any_append, h1, h2]
  rfl
theorem lw_Rhb : (lw_R.any (fun e => qe_M [e] lw_HB) && lw_HB.all (sy_bE [])) = true := by decide +kernel
/-- a long that is multiplied by 1000 -/
theorem fr_mul {j m : Nat} {ls : List (Nat × SyV)} {st : List SyV} {fr : List SyF} (ho : (am_P.1 j)[m]? = some (10, 0, 2, 0, [])) (hr : 0 ≤ pv 1 ∧ pv 1 ≤ 1000) (hF : sy_Fs pv rest ((j, m, ls, (1, 0, 1, 1) :: (1, 1000, 0, 0) :: st) :: fr) c.1) : ∃ c', rch c c' ∧ sy_Fs pv rest ((j, m + 1, ls, (1, 0, 1, 1000) :: st) :: fr) c'.1 ∧ c'.2 = c.2 := by
  obtain ⟨fs, S⟩ := c
  obtain ⟨⟨f1, f2, f3, f4⟩, q, e, ⟨g1, g2, g3, g4⟩, hq⟩ := hF
  obtain ⟨v, vs, e1, hv, h1⟩ := g4.cons
  obtain ⟨w, ws, e2, hw, h2⟩ := h1.cons
  obtain ⟨yy, rfl, ey⟩ := hv
  obtain ⟨xx, rfl, ex⟩ := hw
  dsimp only at e g1 g2 g3 e1
  subst g1
  subst g2
  rw [e, e1, e2]
  refine ⟨((f1, f2 + 1, f3, .long (xx * yy) :: ws) :: q, S), ms_nx1 (o := (10, 0, 2, 0, [])) ho rfl rfl (rch.rf _), ⟨_, q, rfl, ⟨rfl, rfl, g3, ?_, h2⟩, hq⟩, rfl⟩
  refine ⟨_, rfl, ?_⟩
  have ey : yy.toInt = 0 + ((1 : Nat) : Int) * pv 1 := ey
  rw [sy_n0 rfl] at ex
  have ex : xx.toInt = 1000 := ex
  rw [Int64.toInt_mul, ex, ey]
  show (1000 * (0 + ((1 : Nat) : Int) * pv 1)).bmod (2 ^ 64) = 0 + ((1000 : Nat) : Int) * pv 1
  rw [Int.bmod_eq_of_le (by omega) (by omega)]
  omega
theorem fr_ladd {j m : Nat} {ls : List (Nat × SyV)} {st : List SyV} {fr : List SyF} (ho : (am_P.1 j)[m]? = some (10, 0, 0, 0, [])) (hr : 0 ≤ pv 1 ∧ pv 1 ≤ 1000) (hF : sy_Fs pv rest ((j, m, ls, (1, 0, 0, 0) :: (1, 0, 1, 1000) :: st) :: fr) c.1) : ∃ c', rch c c' ∧ sy_Fs pv rest ((j, m + 1, ls, (1, 0, 1, 1000) :: st) :: fr) c'.1 ∧ c'.2 = c.2 := by
  obtain ⟨fs, S⟩ := c
  obtain ⟨⟨f1, f2, f3, f4⟩, q, e, ⟨g1, g2, g3, g4⟩, hq⟩ := hF
  obtain ⟨v, vs, e1, hv, h1⟩ := g4.cons
  obtain ⟨w, ws, e2, hw, h2⟩ := h1.cons
  obtain ⟨yy, rfl, ey⟩ := hv
  obtain ⟨xx, rfl, ex⟩ := hw
  dsimp only at e g1 g2 g3 e1
  subst g1
  subst g2
  rw [e, e1, e2]
  refine ⟨((f1, f2 + 1, f3, .long (xx + yy) :: ws) :: q, S), ms_nx1 (o := (10, 0, 0, 0, [])) ho rfl rfl (rch.rf _), ⟨_, q, rfl, ⟨rfl, rfl, g3, ?_, h2⟩, hq⟩, rfl⟩
  refine ⟨_, rfl, ?_⟩
  rw [sy_n0 rfl] at ey
  have ey : yy.toInt = 0 := ey
  have ex : xx.toInt = 0 + ((1000 : Nat) : Int) * pv 1 := ex
  rw [Int64.toInt_add, ex, ey]
  show ((0 + ((1000 : Nat) : Int) * pv 1) + 0).bmod (2 ^ 64) = 0 + ((1000 : Nat) : Int) * pv 1
  rw [Int.bmod_eq_of_le (by omega) (by omega)]
  omega
/-- an int within bounds on the stack is some int -/
theorem fr_top {j m : Nat} {ls : List (Nat × SyV)} {st : List SyV} {fr : List SyF} {z : Int} {fs : List MsF} (h : sy_Fs pv rest ((j, m, ls, (8, z, 0, 0) :: st) :: fr) fs) : ∃ x : Int, 0 ≤ x ∧ x ≤ z ∧ sy_Fs pv rest ((j, m, ls, (0, x, 0, 0) :: st) :: fr) fs := by
  obtain ⟨f, q, e1, ⟨f1, f2, f3, f4⟩, hq⟩ := h
  obtain ⟨w, ws, e2, w1, w2⟩ := f4.cons
  obtain ⟨x, rfl, x1, x2⟩ := w1
  rw [sy_n0 rfl] at x2
  refine ⟨x.toInt, x1, x2, f, q, e1, ⟨f1, f2, f3, ?_⟩, hq⟩
  rw [e2]
  exact ⟨⟨x, rfl, by rw [sy_n0 rfl]⟩, w2⟩
/-- the run of r is over -/
theorem LN.of_r (hP : PN gr_Q (lw_R ++ X) 0 L xs n fa c) (hV : gr_kOV n fa s so a0 a1 a2 c.2) : LN L xs n fa c ∧ sy_me (qv n 0) X c.2 := by
  have hV : mm _ gr_dOV c.2 := hV
  exact ⟨⟨hP.sub.1.re (sy_lM0_ok (A := lw_Q0) (G := ([], [])) sg_0 hP.2.1.1 (by decide +kernel)) hP.sub.1.2.1.2, (sy_lM0_ok (A := lw_Z0 ++ lw_MAT) (G := ([], [])) sg_0 hV.1 (by decide +kernel)).const (by decide +kernel)⟩, hP.sub.2⟩
theorem LN.of_s (hP : PN gs_Q (lw_R ++ X) 0 L xs n fa c) (hV : gs_kOV n fa s so a0 a1 a2 c.2) : LN L xs n fa c ∧ sy_me (qv n 0) X c.2 := by
  have hV : mm _ gs_dOV c.2 := hV
  exact ⟨⟨hP.sub.1.re (sy_lM0_ok (A := lw_Q0) (G := ([], [])) sg_0 hP.2.1.1 (by decide +kernel)) hP.sub.1.2.1.2, (sy_lM0_ok (A := lw_Z0 ++ lw_MAT) (G := ([], [])) sg_0 hV.1 (by decide +kernel)).const (by decide +kernel)⟩, hP.sub.2⟩
end LrS
