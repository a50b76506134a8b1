/-! PHASE G (written by wip/p21/gP.py): the questions are asked. -/
/-- the law's own cells, and those of what was made, stay -/
def ak_rows (a0 : Int) (c c' : MsC) : Prop := ∀ q : Nat, 54 ≤ q → (q : Int) < a0 → c'.2.1 q = c.2.1 q ∧ ∀ j, c'.2.2.1 q j = c.2.2.1 q j
def ak_W2 (W : SyW) : Bool := W.all (fun w => (Nat.beq w.1.2.2.2 1 && (Nat.beq w.1.2.2.1 1 && sy_le 0 w.1.2.1)) || (Nat.beq w.1.2.2.2 0 && sy_lt w.1.2.1 54))
/-- the law's rows -/
def rwX (x5 x6 : Int) (d5 d6 : List (SyV × SyV)) : SyM := [((4, x5, 0, 0), 61, 2, none, d5), ((4, x6, 0, 0), 62, 2, none, d6)]
section GpS
variable {pv pw : Nat → Int} {c c' : MsC} {Q R Q' : SyM} {b b' : Int} {L : Nat} {xs : Nat → Int32} {n : Nat} {fa : Fa}
theorem ak_row {W : SyW} (hW : ak_W2 W = true) (hc : sy_ch pv W c c') (h1 : pv 1 = c.2.2.2.1) : ak_rows (c.2.2.2.1 : Int) c c' := fun q h54 hq => ⟨hc.2.1 q (Or.inl (by omega)), fun j => hc.1 q j (Or.inl (by omega)) fun w hw z => by
  have z1 := z.1
  rcases Bool.or_eq_true_iff.mp (List.all_eq_true.mp hW w hw) with k | k
  · obtain ⟨k1, k⟩ := Bool.and_eq_true_iff.mp k
    obtain ⟨k2, k3⟩ := Bool.and_eq_true_iff.mp k
    have k3 := sy_le_t k3
    unfold sy_n at z1
    rw [am_beq k1, am_beq k2, h1] at z1
    omega
  · obtain ⟨k1, k2⟩ := Bool.and_eq_true_iff.mp k
    have k2 := sy_lt_t k2
    rw [sy_n0 (am_beq k1)] at z1
    omega⟩
theorem rwX_keep {x5 x6 : Int} {d5 d6 : List (SyV × SyV)} (h : sy_me pv (rwX x5 x6 d5 d6) c.2) (hr : ak_rows (c.2.2.2.1 : Int) c c') (h5 : 54 ≤ x5 ∧ x5 < c.2.2.2.1) (h6 : 54 ≤ x6 ∧ x6 < c.2.2.2.1) (ht : c.2.2.2.1 ≤ c'.2.2.2.1) : sy_me pv (rwX x5 x6 d5 d6) c'.2 := by
  intro e he
  obtain ⟨q, g1, g2, g3, g4, g5⟩ := h e he
  have hq : 54 ≤ q ∧ (q : Int) < c.2.2.2.1 := by
    rcases List.mem_cons.mp he with rfl | he
    · have g1 : sy_n pv ((4, x5, 0, 0) : SyV) = q := g1
      rw [sy_n0 rfl] at g1
      dsimp only at g1
      omega
    · rcases List.mem_cons.mp he with rfl | he
      · have g1 : sy_n pv ((4, x6, 0, 0) : SyV) = q := g1
        rw [sy_n0 rfl] at g1
        dsimp only at g1
        omega
      · cases he
  obtain ⟨k1, k2⟩ := hr q hq.1 hq.2
  refine ⟨q, g1, k1.trans g2, Or.inl (by omega), fun p hp => ?_, fun d hd j hj => by rw [k2 j]; exact g5 d hd j hj⟩
  obtain ⟨i, i1, i2⟩ := g4 p hp
  exact ⟨i, i1, by rw [k2 i]; exact i2⟩
theorem rwX_ko {x5 x6 : Int} {d5 d6 : List (SyV × SyV)} (h5 : 54 ≤ x5) (h6 : 54 ≤ x6) : sy_ko fp_W (rwX x5 x6 d5 d6) = true := by
  have key : ∀ x : Int, 54 ≤ x → fp_W.all (fun w => Nat.beq w.1.2.2.2 0 && !(sy_eq w.1.2.1 x)) = true := fun x hx => by
    have k : fp_W.all (fun w => Nat.beq w.1.2.2.2 0 && sy_lt w.1.2.1 54) = true := by decide +kernel
    refine List.all_eq_true.mpr fun w hw => ?_
    obtain ⟨k1, k2⟩ := Bool.and_eq_true_iff.mp (List.all_eq_true.mp k w hw)
    have k2 := sy_lt_t k2
    refine Bool.and_eq_true_iff.mpr ⟨k1, ?_⟩
    cases e : sy_eq w.1.2.1 x with
    | false => rfl
    | true =>
      have := sy_eq_t e
      omega
  refine List.all_eq_true.mpr fun e he => Bool.or_eq_true_iff.mpr (Or.inr ?_)
  rcases List.mem_cons.mp he with rfl | he
  · exact Bool.and_eq_true_iff.mpr ⟨rfl, key x5 h5⟩
  · rcases List.mem_cons.mp he with rfl | he
    · exact Bool.and_eq_true_iff.mpr ⟨rfl, key x6 h6⟩
    · cases he
/-- another question's nodes are told -/
theorem PN.re (h : PN Q R b L xs n fa c) (hQ : sy_me (qv n b') Q' c.2) (hR : sy_me (qv n b') R c.2) : PN Q' R b' L xs n fa c := ⟨h.1, ⟨hQ, hR⟩, h.2.2⟩
end GpS
def ak_r0_s : SyM := [((4, 1000018, 0, 0), 77, 2, none, [((0, 0, 0, 0), (4, 1000046, 0, 0)), ((0, 1, 0, 0), (0, 0, 0, 0))]), ((4, 1000046, 0, 0), 74, 8, none, [((0, 0, 0, 0), (0, 114, 0, 0)), ((0, 1, 0, 0), (0, 40, 0, 0)), ((0, 2, 0, 0), (0, 65, 0, 0)), ((0, 3, 0, 0), (0, 44, 0, 0)), ((0, 4, 0, 0), (0, 32, 0, 0)), ((0, 5, 0, 0), (0, 66, 0, 0)), ((0, 6, 0, 0), (0, 41, 0, 0)), ((0, 7, 0, 0), (0, 46, 0, 0))])]
theorem ak_r0 {L : Nat} {xs : Nat → Int32} {c : MsC} {n : Nat} {fa : Fa} {a0 a1 a2 x5 x6 : Int} (hL : LN L xs n fa c) (hF : lw_T0 n x5 x6 [] c.1) (ht : (c.2.2.2.1 : Int) = a0 ∧ (c.2.2.2.2.1 : Int) = a1 ∧ (c.2.2.2.2.2 : Int) = a2) (b0 : 54 ≤ a0 ∧ a0 ≤ 900000) (b1 : 0 ≤ a1 ∧ a1 ≤ 900000) (b2 : 0 ≤ a2 ∧ a2 ≤ 900000) : ∃ c', rch c c' ∧ lw0_A n x5 x6 [] c'.1 ∧ PN gr_Q lw_R 0 L xs n fa c' ∧ (gr_kR0 n fa (a0 + 2) (a1 + 2) (a2 + 605) c'.2) ∧ ((c'.2.2.2.1 : Int) = a0 + 2 ∧ (c'.2.2.2.2.1 : Int) = a1 + 2 ∧ (c'.2.2.2.2.2 : Int) = a2 + 605) ∧ ak_rows (c.2.2.2.1 : Int) c c' := by
  have hP := hL.1
  have hn := hP.nr
  have hg : sy_g (sy_ev [(n : Int), a0, a1, a2, x5, x6, (0 : Int)]) ([(0, 2, 11), (1, 54, 900000), (2, 0, 900000), (3, 0, 900000)], []) := (sg_b (show (2 : Int) ≤ (n : Int) by omega) (show (n : Int) ≤ 11 by omega) (sg_b (show (54 : Int) ≤ a0 by omega) (show a0 ≤ 900000 by omega) (sg_b (show (0 : Int) ≤ a1 by omega) (show a1 ≤ 900000 by omega) (sg_b (show (0 : Int) ≤ a2 by omega) (show a2 ≤ 900000 by omega) sg_0))))
  have hq : sy_me (sy_ev [(n : Int), a0, a1, a2, x5, x6, (0 : Int)]) lw_Q0 c.2 := sy_b_m (m := [0]) (by exact aa.mem ⟨rfl, trivial⟩) (by decide +kernel) hP.2.1.1
  have hr : sy_me (sy_ev [(n : Int), a0, a1, a2, x5, x6, (0 : Int)]) lw_R c.2 := hP.2.1.2.const (by decide +kernel)
  have hz : sy_me (sy_ev [(n : Int), a0, a1, a2, x5, x6, (0 : Int)]) (lw_Z0 ++ lw_MAT) c.2 := hL.2.const (by decide +kernel)
  have hi : sy_me (sy_ev [(n : Int), a0, a1, a2, x5, x6, (0 : Int)]) fp_I c.2 := hP.i.const (by decide +kernel)
  have hs : sy_me (sy_ev [(n : Int), a0, a1, a2, x5, x6, (0 : Int)]) ak_r0_s c.2 := sy_xE_ok hP.E (by decide +kernel)
  have hA : sy_T (sy_ev [(n : Int), a0, a1, a2, x5, x6, (0 : Int)]) [] gf_rA c := ⟨sq_Fs.ok (r := lw_T0d) (pv := sy_ev [(n : Int), 0, 0, 0, 0, 0, 0, 0, 0, 0, 0, 0, 0, 0, 0, 0, 0, x5, x6]) ⟨rfl, rfl, ⟨rfl, ⟨rfl, rfl, by first | rfl | exact (sy_n0 rfl).trans rfl | exact (sy_n0 rfl).trans (sy_n0 rfl).symm | (simp [sy_n, sy_ev]; done) | (simp [sy_n, sy_ev]; omega)⟩, rfl, ⟨rfl, rfl, by first | rfl | exact (sy_n0 rfl).trans rfl | exact (sy_n0 rfl).trans (sy_n0 rfl).symm | (simp [sy_n, sy_ev]; done) | (simp [sy_n, sy_ev]; omega)⟩, rfl, ⟨rfl, rfl, by first | rfl | exact (sy_n0 rfl).trans rfl | exact (sy_n0 rfl).trans (sy_n0 rfl).symm | (simp [sy_n, sy_ev]; done) | (simp [sy_n, sy_ev]; omega)⟩, rfl, ⟨rfl, rfl, by first | rfl | exact (sy_n0 rfl).trans rfl | exact (sy_n0 rfl).trans (sy_n0 rfl).symm | (simp [sy_n, sy_ev]; done) | (simp [sy_n, sy_ev]; omega)⟩, rfl, ⟨rfl, rfl, by first | rfl | exact (sy_n0 rfl).trans rfl | exact (sy_n0 rfl).trans (sy_n0 rfl).symm | (simp [sy_n, sy_ev]; done) | (simp [sy_n, sy_ev]; omega)⟩, rfl, ⟨rfl, rfl, by first | rfl | exact (sy_n0 rfl).trans rfl | exact (sy_n0 rfl).trans (sy_n0 rfl).symm | (simp [sy_n, sy_ev]; done) | (simp [sy_n, sy_ev]; omega)⟩, rfl, ⟨rfl, rfl, by first | rfl | exact (sy_n0 rfl).trans rfl | exact (sy_n0 rfl).trans (sy_n0 rfl).symm | (simp [sy_n, sy_ev]; done) | (simp [sy_n, sy_ev]; omega)⟩, trivial⟩, ⟨⟨rfl, rfl, by first | rfl | exact (sy_n0 rfl).trans rfl | exact (sy_n0 rfl).trans (sy_n0 rfl).symm | (simp [sy_n, sy_ev]; done) | (simp [sy_n, sy_ev]; omega)⟩, ⟨rfl, rfl, by first | rfl | exact (sy_n0 rfl).trans rfl | exact (sy_n0 rfl).trans (sy_n0 rfl).symm | (simp [sy_n, sy_ev]; done) | (simp [sy_n, sy_ev]; omega)⟩, trivial⟩, trivial⟩ hF, sy_lM0_ok hg (((hq.app hr).app (hz.app hi)).app hs) (by decide +kernel), by
    refine ⟨?_, ?_, ?_⟩
    · show (c.2.2.2.1 : Int) = 0 + ((1 : Nat) : Int) * a0; omega
    · show (c.2.2.2.2.1 : Int) = 0 + ((1 : Nat) : Int) * a1; omega
    · show (c.2.2.2.2.2 : Int) = 0 + ((1 : Nat) : Int) * a2; omega⟩
  obtain ⟨c', r1, t1, e1, ch1, -⟩ := gf_r_u (Nat.zero_le _) (n : Int) a0 a1 a2 x5 x6 (0 : Int) (by omega) (by omega) (by omega) (by omega) (by omega) (by omega) (by omega) (by omega) so_0 sx_0 hA hP.E
  obtain ⟨f1, m1, u1, u2, u3⟩ := t1
  have u1 : (c'.2.2.2.1 : Int) = 2 + ((1 : Nat) : Int) * a0 := u1
  have u2 : (c'.2.2.2.2.1 : Int) = 2 + ((1 : Nat) : Int) * a1 := u2
  have u3 : (c'.2.2.2.2.2 : Int) = 605 + ((1 : Nat) : Int) * a2 := u3
  obtain ⟨p1, p2, q5⟩ := ak_PN (Q := gr_Q) (b := 0) (sQ := [(23, (0, 0, 0, 0))]) hL hg m1 e1 ch1 rfl (by show a0 = _; omega) (by decide +kernel) (by decide +kernel) (by decide +kernel) (by decide +kernel) ⟨by show 0 + ((1 : Nat) : Int) * (n : Int) = n; omega, sy_n0 rfl⟩ (by decide +kernel)
  refine ⟨c', r1, sq_Fs.ok (r := gf_rT.1) (pv := sy_ev [(n : Int), a0, a1, a2, x5, x6, (0 : Int)]) ⟨rfl, rfl, ⟨rfl, ⟨rfl, rfl, by first | rfl | exact (sy_n0 rfl).trans rfl | exact (sy_n0 rfl).trans (sy_n0 rfl).symm | (simp [sy_n, sy_ev]; done) | (simp [sy_n, sy_ev]; omega)⟩, rfl, ⟨rfl, rfl, by first | rfl | exact (sy_n0 rfl).trans rfl | exact (sy_n0 rfl).trans (sy_n0 rfl).symm | (simp [sy_n, sy_ev]; done) | (simp [sy_n, sy_ev]; omega)⟩, rfl, ⟨rfl, rfl, by first | rfl | exact (sy_n0 rfl).trans rfl | exact (sy_n0 rfl).trans (sy_n0 rfl).symm | (simp [sy_n, sy_ev]; done) | (simp [sy_n, sy_ev]; omega)⟩, rfl, ⟨rfl, rfl, by first | rfl | exact (sy_n0 rfl).trans rfl | exact (sy_n0 rfl).trans (sy_n0 rfl).symm | (simp [sy_n, sy_ev]; done) | (simp [sy_n, sy_ev]; omega)⟩, rfl, ⟨rfl, rfl, by first | rfl | exact (sy_n0 rfl).trans rfl | exact (sy_n0 rfl).trans (sy_n0 rfl).symm | (simp [sy_n, sy_ev]; done) | (simp [sy_n, sy_ev]; omega)⟩, rfl, ⟨rfl, rfl, by first | rfl | exact (sy_n0 rfl).trans rfl | exact (sy_n0 rfl).trans (sy_n0 rfl).symm | (simp [sy_n, sy_ev]; done) | (simp [sy_n, sy_ev]; omega)⟩, rfl, ⟨rfl, rfl, by first | rfl | exact (sy_n0 rfl).trans rfl | exact (sy_n0 rfl).trans (sy_n0 rfl).symm | (simp [sy_n, sy_ev]; done) | (simp [sy_n, sy_ev]; omega)⟩, trivial⟩, ⟨⟨rfl, rfl, by first | rfl | exact (sy_n0 rfl).trans rfl | exact (sy_n0 rfl).trans (sy_n0 rfl).symm | (simp [sy_n, sy_ev]; done) | (simp [sy_n, sy_ev]; omega)⟩, trivial⟩, trivial⟩ f1, p1, ⟨(sy_lM0_ok (A := gr_dR0) hg q5 (by decide +kernel)).const (by decide +kernel), by show (c'.2.2.2.1 : Int) = a0 + 2; omega, by show (c'.2.2.2.2.1 : Int) = a1 + 2; omega, by show (c'.2.2.2.2.2 : Int) = a2 + 605; omega⟩, ⟨by omega, by omega, by omega⟩, ak_row (by decide +kernel) ch1 (by show a0 = _; omega)⟩
def ak_r1_s : SyM := [((4, 1000018, 0, 0), 77, 2, none, [((0, 0, 0, 0), (4, 1000046, 0, 0)), ((0, 1, 0, 0), (0, 0, 0, 0))]), ((4, 1000046, 0, 0), 74, 8, none, [((0, 0, 0, 0), (0, 114, 0, 0)), ((0, 1, 0, 0), (0, 40, 0, 0)), ((0, 2, 0, 0), (0, 65, 0, 0)), ((0, 3, 0, 0), (0, 44, 0, 0)), ((0, 4, 0, 0), (0, 32, 0, 0)), ((0, 5, 0, 0), (0, 66, 0, 0)), ((0, 6, 0, 0), (0, 41, 0, 0)), ((0, 7, 0, 0), (0, 46, 0, 0))])]
theorem ak_r1 {L : Nat} {xs : Nat → Int32} {c : MsC} {n : Nat} {fa : Fa} {a0 a1 a2 x5 x6 : Int} (hL : LN L xs n fa c) (hF : lw_T1 n x5 x6 [] c.1) (ht : (c.2.2.2.1 : Int) = a0 ∧ (c.2.2.2.2.1 : Int) = a1 ∧ (c.2.2.2.2.2 : Int) = a2) (b0 : 54 ≤ a0 ∧ a0 ≤ 900000) (b1 : 0 ≤ a1 ∧ a1 ≤ 900000) (b2 : 0 ≤ a2 ∧ a2 ≤ 900000) : ∃ c', rch c c' ∧ lw1_A n x5 x6 [] c'.1 ∧ PN gr_Q lw_R 0 L xs n fa c' ∧ (gr_kR0 n fa (a0 + 2) (a1 + 2) (a2 + 605) c'.2) ∧ ((c'.2.2.2.1 : Int) = a0 + 2 ∧ (c'.2.2.2.2.1 : Int) = a1 + 2 ∧ (c'.2.2.2.2.2 : Int) = a2 + 605) ∧ ak_rows (c.2.2.2.1 : Int) c c' := by
  have hP := hL.1
  have hn := hP.nr
  have hg : sy_g (sy_ev [(n : Int), a0, a1, a2, x5, x6, (1 : Int)]) ([(0, 2, 11), (1, 54, 900000), (2, 0, 900000), (3, 0, 900000)], []) := (sg_b (show (2 : Int) ≤ (n : Int) by omega) (show (n : Int) ≤ 11 by omega) (sg_b (show (54 : Int) ≤ a0 by omega) (show a0 ≤ 900000 by omega) (sg_b (show (0 : Int) ≤ a1 by omega) (show a1 ≤ 900000 by omega) (sg_b (show (0 : Int) ≤ a2 by omega) (show a2 ≤ 900000 by omega) sg_0))))
  have hq : sy_me (sy_ev [(n : Int), a0, a1, a2, x5, x6, (1 : Int)]) lw_Q0 c.2 := sy_b_m (m := [0]) (by exact aa.mem ⟨rfl, trivial⟩) (by decide +kernel) hP.2.1.1
  have hr : sy_me (sy_ev [(n : Int), a0, a1, a2, x5, x6, (1 : Int)]) lw_R c.2 := hP.2.1.2.const (by decide +kernel)
  have hz : sy_me (sy_ev [(n : Int), a0, a1, a2, x5, x6, (1 : Int)]) (lw_Z0 ++ lw_MAT) c.2 := hL.2.const (by decide +kernel)
  have hi : sy_me (sy_ev [(n : Int), a0, a1, a2, x5, x6, (1 : Int)]) fp_I c.2 := hP.i.const (by decide +kernel)
  have hs : sy_me (sy_ev [(n : Int), a0, a1, a2, x5, x6, (1 : Int)]) ak_r1_s c.2 := sy_xE_ok hP.E (by decide +kernel)
  have hA : sy_T (sy_ev [(n : Int), a0, a1, a2, x5, x6, (1 : Int)]) [] gf_rA c := ⟨sq_Fs.ok (r := lw_T1d) (pv := sy_ev [(n : Int), 0, 0, 0, 0, 0, 0, 0, 0, 0, 0, 0, 0, 0, 0, 0, 0, x5, x6]) ⟨rfl, rfl, ⟨rfl, ⟨rfl, rfl, by first | rfl | exact (sy_n0 rfl).trans rfl | exact (sy_n0 rfl).trans (sy_n0 rfl).symm | (simp [sy_n, sy_ev]; done) | (simp [sy_n, sy_ev]; omega)⟩, rfl, ⟨rfl, rfl, by first | rfl | exact (sy_n0 rfl).trans rfl | exact (sy_n0 rfl).trans (sy_n0 rfl).symm | (simp [sy_n, sy_ev]; done) | (simp [sy_n, sy_ev]; omega)⟩, rfl, ⟨rfl, rfl, by first | rfl | exact (sy_n0 rfl).trans rfl | exact (sy_n0 rfl).trans (sy_n0 rfl).symm | (simp [sy_n, sy_ev]; done) | (simp [sy_n, sy_ev]; omega)⟩, rfl, ⟨rfl, rfl, by first | rfl | exact (sy_n0 rfl).trans rfl | exact (sy_n0 rfl).trans (sy_n0 rfl).symm | (simp [sy_n, sy_ev]; done) | (simp [sy_n, sy_ev]; omega)⟩, rfl, ⟨rfl, rfl, by first | rfl | exact (sy_n0 rfl).trans rfl | exact (sy_n0 rfl).trans (sy_n0 rfl).symm | (simp [sy_n, sy_ev]; done) | (simp [sy_n, sy_ev]; omega)⟩, rfl, ⟨rfl, rfl, by first | rfl | exact (sy_n0 rfl).trans rfl | exact (sy_n0 rfl).trans (sy_n0 rfl).symm | (simp [sy_n, sy_ev]; done) | (simp [sy_n, sy_ev]; omega)⟩, rfl, ⟨rfl, rfl, by first | rfl | exact (sy_n0 rfl).trans rfl | exact (sy_n0 rfl).trans (sy_n0 rfl).symm | (simp [sy_n, sy_ev]; done) | (simp [sy_n, sy_ev]; omega)⟩, trivial⟩, ⟨⟨rfl, rfl, by first | rfl | exact (sy_n0 rfl).trans rfl | exact (sy_n0 rfl).trans (sy_n0 rfl).symm | (simp [sy_n, sy_ev]; done) | (simp [sy_n, sy_ev]; omega)⟩, ⟨rfl, rfl, by first | rfl | exact (sy_n0 rfl).trans rfl | exact (sy_n0 rfl).trans (sy_n0 rfl).symm | (simp [sy_n, sy_ev]; done) | (simp [sy_n, sy_ev]; omega)⟩, trivial⟩, trivial⟩ hF, sy_lM0_ok hg (((hq.app hr).app (hz.app hi)).app hs) (by decide +kernel), by
    refine ⟨?_, ?_, ?_⟩
    · show (c.2.2.2.1 : Int) = 0 + ((1 : Nat) : Int) * a0; omega
    · show (c.2.2.2.2.1 : Int) = 0 + ((1 : Nat) : Int) * a1; omega
    · show (c.2.2.2.2.2 : Int) = 0 + ((1 : Nat) : Int) * a2; omega⟩
  obtain ⟨c', r1, t1, e1, ch1, -⟩ := gf_r_u (Nat.zero_le _) (n : Int) a0 a1 a2 x5 x6 (1 : Int) (by omega) (by omega) (by omega) (by omega) (by omega) (by omega) (by omega) (by omega) so_0 sx_0 hA hP.E
  obtain ⟨f1, m1, u1, u2, u3⟩ := t1
  have u1 : (c'.2.2.2.1 : Int) = 2 + ((1 : Nat) : Int) * a0 := u1
  have u2 : (c'.2.2.2.2.1 : Int) = 2 + ((1 : Nat) : Int) * a1 := u2
  have u3 : (c'.2.2.2.2.2 : Int) = 605 + ((1 : Nat) : Int) * a2 := u3
  obtain ⟨p1, p2, q5⟩ := ak_PN (Q := gr_Q) (b := 0) (sQ := [(23, (0, 0, 0, 0))]) hL hg m1 e1 ch1 rfl (by show a0 = _; omega) (by decide +kernel) (by decide +kernel) (by decide +kernel) (by decide +kernel) ⟨by show 0 + ((1 : Nat) : Int) * (n : Int) = n; omega, sy_n0 rfl⟩ (by decide +kernel)
  refine ⟨c', r1, sq_Fs.ok (r := gf_rT.1) (pv := sy_ev [(n : Int), a0, a1, a2, x5, x6, (1 : Int)]) ⟨rfl, rfl, ⟨rfl, ⟨rfl, rfl, by first | rfl | exact (sy_n0 rfl).trans rfl | exact (sy_n0 rfl).trans (sy_n0 rfl).symm | (simp [sy_n, sy_ev]; done) | (simp [sy_n, sy_ev]; omega)⟩, rfl, ⟨rfl, rfl, by first | rfl | exact (sy_n0 rfl).trans rfl | exact (sy_n0 rfl).trans (sy_n0 rfl).symm | (simp [sy_n, sy_ev]; done) | (simp [sy_n, sy_ev]; omega)⟩, rfl, ⟨rfl, rfl, by first | rfl | exact (sy_n0 rfl).trans rfl | exact (sy_n0 rfl).trans (sy_n0 rfl).symm | (simp [sy_n, sy_ev]; done) | (simp [sy_n, sy_ev]; omega)⟩, rfl, ⟨rfl, rfl, by first | rfl | exact (sy_n0 rfl).trans rfl | exact (sy_n0 rfl).trans (sy_n0 rfl).symm | (simp [sy_n, sy_ev]; done) | (simp [sy_n, sy_ev]; omega)⟩, rfl, ⟨rfl, rfl, by first | rfl | exact (sy_n0 rfl).trans rfl | exact (sy_n0 rfl).trans (sy_n0 rfl).symm | (simp [sy_n, sy_ev]; done) | (simp [sy_n, sy_ev]; omega)⟩, rfl, ⟨rfl, rfl, by first | rfl | exact (sy_n0 rfl).trans rfl | exact (sy_n0 rfl).trans (sy_n0 rfl).symm | (simp [sy_n, sy_ev]; done) | (simp [sy_n, sy_ev]; omega)⟩, rfl, ⟨rfl, rfl, by first | rfl | exact (sy_n0 rfl).trans rfl | exact (sy_n0 rfl).trans (sy_n0 rfl).symm | (simp [sy_n, sy_ev]; done) | (simp [sy_n, sy_ev]; omega)⟩, trivial⟩, ⟨⟨rfl, rfl, by first | rfl | exact (sy_n0 rfl).trans rfl | exact (sy_n0 rfl).trans (sy_n0 rfl).symm | (simp [sy_n, sy_ev]; done) | (simp [sy_n, sy_ev]; omega)⟩, trivial⟩, trivial⟩ f1, p1, ⟨(sy_lM0_ok (A := gr_dR0) hg q5 (by decide +kernel)).const (by decide +kernel), by show (c'.2.2.2.1 : Int) = a0 + 2; omega, by show (c'.2.2.2.2.1 : Int) = a1 + 2; omega, by show (c'.2.2.2.2.2 : Int) = a2 + 605; omega⟩, ⟨by omega, by omega, by omega⟩, ak_row (by decide +kernel) ch1 (by show a0 = _; omega)⟩
def ak_s_s : SyM := [((4, 1000019, 0, 0), 77, 2, none, [((0, 0, 0, 0), (4, 1000047, 0, 0)), ((0, 1, 0, 0), (0, 0, 0, 0))]), ((4, 1000047, 0, 0), 74, 8, none, [((0, 0, 0, 0), (0, 115, 0, 0)), ((0, 1, 0, 0), (0, 40, 0, 0)), ((0, 2, 0, 0), (0, 65, 0, 0)), ((0, 3, 0, 0), (0, 44, 0, 0)), ((0, 4, 0, 0), (0, 32, 0, 0)), ((0, 5, 0, 0), (0, 66, 0, 0)), ((0, 6, 0, 0), (0, 41, 0, 0)), ((0, 7, 0, 0), (0, 46, 0, 0))])]
theorem ak_s {L : Nat} {xs : Nat → Int32} {c : MsC} {n : Nat} {fa : Fa} {a0 a1 a2 x5 x6 : Int} (hL : LN L xs n fa c) (hF : lw_T2 n x5 x6 [] c.1) (ht : (c.2.2.2.1 : Int) = a0 ∧ (c.2.2.2.2.1 : Int) = a1 ∧ (c.2.2.2.2.2 : Int) = a2) (b0 : 54 ≤ a0 ∧ a0 ≤ 900000) (b1 : 0 ≤ a1 ∧ a1 ≤ 900000) (b2 : 0 ≤ a2 ∧ a2 ≤ 900000) : ∃ c', rch c c' ∧ lws_A n x5 x6 [] c'.1 ∧ PN gs_Q lw_R 0 L xs n fa c' ∧ (gs_kR0 n fa (a0 + 2) (a1 + 2) (a2 + 605) c'.2) ∧ ((c'.2.2.2.1 : Int) = a0 + 2 ∧ (c'.2.2.2.2.1 : Int) = a1 + 2 ∧ (c'.2.2.2.2.2 : Int) = a2 + 605) ∧ ak_rows (c.2.2.2.1 : Int) c c' := by
  have hP := hL.1
  have hn := hP.nr
  have hg : sy_g (sy_ev [(n : Int), a0, a1, a2, x5, x6, (1 : Int)]) ([(0, 2, 11), (1, 54, 900000), (2, 0, 900000), (3, 0, 900000)], []) := (sg_b (show (2 : Int) ≤ (n : Int) by omega) (show (n : Int) ≤ 11 by omega) (sg_b (show (54 : Int) ≤ a0 by omega) (show a0 ≤ 900000 by omega) (sg_b (show (0 : Int) ≤ a1 by omega) (show a1 ≤ 900000 by omega) (sg_b (show (0 : Int) ≤ a2 by omega) (show a2 ≤ 900000 by omega) sg_0))))
  have hq : sy_me (sy_ev [(n : Int), a0, a1, a2, x5, x6, (1 : Int)]) lw_Q0 c.2 := sy_b_m (m := [0]) (by exact aa.mem ⟨rfl, trivial⟩) (by decide +kernel) hP.2.1.1
  have hr : sy_me (sy_ev [(n : Int), a0, a1, a2, x5, x6, (1 : Int)]) lw_R c.2 := hP.2.1.2.const (by decide +kernel)
  have hz : sy_me (sy_ev [(n : Int), a0, a1, a2, x5, x6, (1 : Int)]) (lw_Z0 ++ lw_MAT) c.2 := hL.2.const (by decide +kernel)
  have hi : sy_me (sy_ev [(n : Int), a0, a1, a2, x5, x6, (1 : Int)]) fp_I c.2 := hP.i.const (by decide +kernel)
  have hs : sy_me (sy_ev [(n : Int), a0, a1, a2, x5, x6, (1 : Int)]) ak_s_s c.2 := sy_xE_ok hP.E (by decide +kernel)
  have hA : sy_T (sy_ev [(n : Int), a0, a1, a2, x5, x6, (1 : Int)]) [] gf_sA c := ⟨sq_Fs.ok (r := lw_T2d) (pv := sy_ev [(n : Int), 0, 0, 0, 0, 0, 0, 0, 0, 0, 0, 0, 0, 0, 0, 0, 0, x5, x6]) ⟨rfl, rfl, ⟨rfl, ⟨rfl, rfl, by first | rfl | exact (sy_n0 rfl).trans rfl | exact (sy_n0 rfl).trans (sy_n0 rfl).symm | (simp [sy_n, sy_ev]; done) | (simp [sy_n, sy_ev]; omega)⟩, rfl, ⟨rfl, rfl, by first | rfl | exact (sy_n0 rfl).trans rfl | exact (sy_n0 rfl).trans (sy_n0 rfl).symm | (simp [sy_n, sy_ev]; done) | (simp [sy_n, sy_ev]; omega)⟩, rfl, ⟨rfl, rfl, by first | rfl | exact (sy_n0 rfl).trans rfl | exact (sy_n0 rfl).trans (sy_n0 rfl).symm | (simp [sy_n, sy_ev]; done) | (simp [sy_n, sy_ev]; omega)⟩, rfl, ⟨rfl, rfl, by first | rfl | exact (sy_n0 rfl).trans rfl | exact (sy_n0 rfl).trans (sy_n0 rfl).symm | (simp [sy_n, sy_ev]; done) | (simp [sy_n, sy_ev]; omega)⟩, rfl, ⟨rfl, rfl, by first | rfl | exact (sy_n0 rfl).trans rfl | exact (sy_n0 rfl).trans (sy_n0 rfl).symm | (simp [sy_n, sy_ev]; done) | (simp [sy_n, sy_ev]; omega)⟩, rfl, ⟨rfl, rfl, by first | rfl | exact (sy_n0 rfl).trans rfl | exact (sy_n0 rfl).trans (sy_n0 rfl).symm | (simp [sy_n, sy_ev]; done) | (simp [sy_n, sy_ev]; omega)⟩, rfl, ⟨rfl, rfl, by first | rfl | exact (sy_n0 rfl).trans rfl | exact (sy_n0 rfl).trans (sy_n0 rfl).symm | (simp [sy_n, sy_ev]; done) | (simp [sy_n, sy_ev]; omega)⟩, trivial⟩, ⟨⟨rfl, rfl, by first | rfl | exact (sy_n0 rfl).trans rfl | exact (sy_n0 rfl).trans (sy_n0 rfl).symm | (simp [sy_n, sy_ev]; done) | (simp [sy_n, sy_ev]; omega)⟩, ⟨rfl, rfl, by first | rfl | exact (sy_n0 rfl).trans rfl | exact (sy_n0 rfl).trans (sy_n0 rfl).symm | (simp [sy_n, sy_ev]; done) | (simp [sy_n, sy_ev]; omega)⟩, trivial⟩, trivial⟩ hF, sy_lM0_ok hg (((hq.app hr).app (hz.app hi)).app hs) (by decide +kernel), by
    refine ⟨?_, ?_, ?_⟩
    · show (c.2.2.2.1 : Int) = 0 + ((1 : Nat) : Int) * a0; omega
    · show (c.2.2.2.2.1 : Int) = 0 + ((1 : Nat) : Int) * a1; omega
    · show (c.2.2.2.2.2 : Int) = 0 + ((1 : Nat) : Int) * a2; omega⟩
  obtain ⟨c', r1, t1, e1, ch1, -⟩ := gf_s_u (Nat.zero_le _) (n : Int) a0 a1 a2 x5 x6 (1 : Int) (by omega) (by omega) (by omega) (by omega) (by omega) (by omega) (by omega) (by omega) so_0 sx_0 hA hP.E
  obtain ⟨f1, m1, u1, u2, u3⟩ := t1
  have u1 : (c'.2.2.2.1 : Int) = 2 + ((1 : Nat) : Int) * a0 := u1
  have u2 : (c'.2.2.2.2.1 : Int) = 2 + ((1 : Nat) : Int) * a1 := u2
  have u3 : (c'.2.2.2.2.2 : Int) = 605 + ((1 : Nat) : Int) * a2 := u3
  obtain ⟨p1, p2, q5⟩ := ak_PN (Q := gs_Q) (b := 0) (sQ := [(23, (0, 0, 0, 0))]) hL hg m1 e1 ch1 rfl (by show a0 = _; omega) (by decide +kernel) (by decide +kernel) (by decide +kernel) (by decide +kernel) ⟨by show 0 + ((1 : Nat) : Int) * (n : Int) = n; omega, sy_n0 rfl⟩ (by decide +kernel)
  refine ⟨c', r1, sq_Fs.ok (r := gf_sT.1) (pv := sy_ev [(n : Int), a0, a1, a2, x5, x6, (1 : Int)]) ⟨rfl, rfl, ⟨rfl, ⟨rfl, rfl, by first | rfl | exact (sy_n0 rfl).trans rfl | exact (sy_n0 rfl).trans (sy_n0 rfl).symm | (simp [sy_n, sy_ev]; done) | (simp [sy_n, sy_ev]; omega)⟩, rfl, ⟨rfl, rfl, by first | rfl | exact (sy_n0 rfl).trans rfl | exact (sy_n0 rfl).trans (sy_n0 rfl).symm | (simp [sy_n, sy_ev]; done) | (simp [sy_n, sy_ev]; omega)⟩, rfl, ⟨rfl, rfl, by first | rfl | exact (sy_n0 rfl).trans rfl | exact (sy_n0 rfl).trans (sy_n0 rfl).symm | (simp [sy_n, sy_ev]; done) | (simp [sy_n, sy_ev]; omega)⟩, rfl, ⟨rfl, rfl, by first | rfl | exact (sy_n0 rfl).trans rfl | exact (sy_n0 rfl).trans (sy_n0 rfl).symm | (simp [sy_n, sy_ev]; done) | (simp [sy_n, sy_ev]; omega)⟩, rfl, ⟨rfl, rfl, by first | rfl | exact (sy_n0 rfl).trans rfl | exact (sy_n0 rfl).trans (sy_n0 rfl).symm | (simp [sy_n, sy_ev]; done) | (simp [sy_n, sy_ev]; omega)⟩, rfl, ⟨rfl, rfl, by first | rfl | exact (sy_n0 rfl).trans rfl | exact (sy_n0 rfl).trans (sy_n0 rfl).symm | (simp [sy_n, sy_ev]; done) | (simp [sy_n, sy_ev]; omega)⟩, rfl, ⟨rfl, rfl, by first | rfl | exact (sy_n0 rfl).trans rfl | exact (sy_n0 rfl).trans (sy_n0 rfl).symm | (simp [sy_n, sy_ev]; done) | (simp [sy_n, sy_ev]; omega)⟩, trivial⟩, ⟨⟨rfl, rfl, by first | rfl | exact (sy_n0 rfl).trans rfl | exact (sy_n0 rfl).trans (sy_n0 rfl).symm | (simp [sy_n, sy_ev]; done) | (simp [sy_n, sy_ev]; omega)⟩, trivial⟩, trivial⟩ f1, p1, ⟨(sy_lM0_ok (A := gs_dR0) hg q5 (by decide +kernel)).const (by decide +kernel), by show (c'.2.2.2.1 : Int) = a0 + 2; omega, by show (c'.2.2.2.2.1 : Int) = a1 + 2; omega, by show (c'.2.2.2.2.2 : Int) = a2 + 605; omega⟩, ⟨by omega, by omega, by omega⟩, ak_row (by decide +kernel) ch1 (by show a0 = _; omega)⟩
