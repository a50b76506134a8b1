/-! PHASE G (written by wip/p21/gV.py): each goal, asked three times. -/
def lg_F0c : List SyF := [(81, 15, [(0, (4, 33, 0, 0)), (1, (0, 0, 3, 1)), (2, (0, 0, 0, 0)), (3, (0, 0, 0, 0))], [])]
section GvS
variable {pv pw : Nat → Int} {D Q R X : SyM} {b : Int} {S : AmS} {rest : List MsF} {fs : List MsF} {c c' : MsC} {L : Nat} {xs : Nat → Int32} {n : Nat} {fa : Fa}
theorem lg_cv15 (h : sy_Fs pv rest lg_F0c fs) (h3 : pv 3 = 500) : jz_F15 0 500 0 rest fs := sq_Fs.ok (r := lg_F0c) (pv := pv) (pw := sy_ev [0, 0, 0, 500, 0]) ⟨rfl, rfl, ⟨rfl, ⟨rfl, rfl, (sy_n0 rfl).trans (sy_n0 rfl).symm⟩, rfl, ⟨rfl, rfl, by show 0 + ((1 : Nat) : Int) * pv 3 = 0 + ((1 : Nat) : Int) * 500; omega⟩, rfl, ⟨rfl, rfl, (sy_n0 rfl).trans (by show (0 : Int) = 0 + ((1 : Nat) : Int) * 0; omega)⟩, rfl, ⟨rfl, rfl, (sy_n0 rfl).trans (by show (0 : Int) = 0 + ((1 : Nat) : Int) * 0; omega)⟩, trivial⟩, trivial, trivial⟩ h
/-- between two questions again -/
theorem LN.ofK (hP : PN Q lw_R b L xs n fa c) (hM : sy_me pv D c.2) (hQ : (Q.all (sy_bE [0, 23]) && sy_lM ([], []) (lw_Q0.map (sy_suE [])) Q) = true) (hZ : sy_lM ([], []) ((lw_Z0 ++ lw_MAT).map (sy_suE [])) D = true) : LN L xs n fa c := by
  obtain ⟨-, hQ⟩ := Bool.and_eq_true_iff.mp hQ
  refine ⟨hP.re ?_ (hP.2.1.2.const (by decide +kernel)), (sy_lM0_ok (A := lw_Z0 ++ lw_MAT) (G := ([], [])) sg_0 hM hZ).const (by decide +kernel)⟩
  exact sy_b_m (m := [0]) (pv := qv n b) (pw := qv n 0) (by exact aa.mem ⟨rfl, trivial⟩) (by decide +kernel) (sy_lM0_ok (A := lw_Q0) (G := ([], [])) sg_0 hP.2.1.1 hQ)
/-- a search may write here -/
theorem LN.st {W : SyW} (h : LN L xs n fa c) (hE : sy_E0 L xs c') (hc : sy_ch pv W c c') (hW : (W.all (fun w => fp_W.any (fun v => qe_v v.1 w.1)) && sy_ko W [((4, 15, 0, 0), 0, 0, some (2, 0, 0, 0), [])]) = true) (hM : sy_me pw D c'.2) (hZ : sy_lM ([], []) ((lw_Z0 ++ lw_MAT).map (sy_suE [])) D = true) : LN L xs n fa c' := by
  obtain ⟨h1, h2⟩ := Bool.and_eq_true_iff.mp hW
  refine ⟨h.1.st lw_ko hE hc (gw_ko h1) fun i hi => ?_, (sy_lM0_ok (A := lw_Z0 ++ lw_MAT) (G := ([], [])) sg_0 hM hZ).const (by decide +kernel)⟩
  rw [sy_ko_q (c := c) (q := 15) h2 hc (by have := h.1.top; omega)]
  exact h.1.us i hi
theorem lw_hb (hP : PN Q lw_R b L xs n fa c) : sy_me pv lw_HB c.2 := hP.2.1.2.hb lw_Rhb
end GvS
theorem lu_00 {L : Nat} {xs : Nat → Int32} {n : Nat} {fa : Fa} {c : MsC} {a0 a1 a2 x5 : Int} (hL : LN L xs n fa c) (hF : lg_T0 n x5 [] c.1) (ht : (c.2.2.2.1 : Int) = a0 ∧ (c.2.2.2.2.1 : Int) = a1 ∧ (c.2.2.2.2.2 : Int) = a2) (b0 : 54 ≤ a0 ∧ a0 ≤ 900000) (b1 : 0 ≤ a1 ∧ a1 ≤ 900000) (b2 : 0 ≤ a2 ∧ a2 ≤ 900000) (hx5 : 54 ≤ x5 ∧ x5 ≤ 900000) : ∃ c', rch c c' ∧ LN L xs n fa c' ∧ ((jp_gd n fa = true ∧ lg00_Z n 1 x5 [] c'.1) ∨ (jp_gd n fa = false ∧ lg00_Z n 0 x5 [] c'.1)) ∧ ((c'.2.2.2.1 : Int) = a0 + 1 ∧ (c'.2.2.2.2.1 : Int) = a1 + 1 ∧ (c'.2.2.2.2.2 : Int) = a2 + 5) := by
  have hn := hL.1.nr
  obtain ⟨c1, r1, f1, p1, k1, t1, -⟩ := ak_00 hL hF ht b0 b1 b2
  have hm1 := hn
  obtain ⟨y1, y2, y3⟩ := t1
  have hsu : sy_pv (sy_ev [0, 1, 0, 0, 0, 0, 0, 0, 0, 0, 0, 0, 0, 0, 0, 0, 0, 0, (-1), 0, (a0 + 1), (a1 + 1), (a2 + 5), 0, 0]) [(1, (0, 1, 0, 0))] = sy_ev [0, 1, 0, 0, 0, 0, 0, 0, 0, 0, 0, 0, 0, 0, 0, 0, 0, 0, (-1), 0, (a0 + 1), (a1 + 1), (a2 + 5), 0, 0] := su_id (by intro q hq; rcases List.mem_cons.mp hq with rfl | hq; exact sy_n0 rfl; cases hq)
  have a9 : sy_me (sy_ev []) lg00_a_D c1.2 := (sy_lM0_ok (G := ([], [])) (pv := sy_ev [0, 1, 0, 0, 0, 0, 0, 0, 0, 0, 0, 0, 0, 0, 0, 0, 0, 0, (-1), 0, (a0 + 1), (a1 + 1), (a2 + 5), 0, 0]) sg_0 ((lw_hb p1).app (k1.1.su hsu (by decide +kernel))) (by decide +kernel)).const (by decide +kernel)
  obtain ⟨c2, r2, f2, s2, e2⟩ := lg00_a_m (Nat.zero_le _) p1.E ⟨by omega, by omega⟩ hx5 f1 a9
  have p2 := p1.sm s2 e2
  obtain ⟨mid, g2, g3⟩ := sy_Fs_app (A := lg_F0c) (B := lg00_Rsd.tail) f2
  have f3 : jz_F15 0 500 0 mid c2.1 := lg_cv15 g3 rfl
  have hml := sy_Fs.len g2
  have hml : mid.length = 2 := hml
  have t2 : (c2.2.2.2.1 : Int) = a0 + 1 ∧ (c2.2.2.2.2.1 : Int) = a1 + 1 ∧ (c2.2.2.2.2.2 : Int) = a2 + 5 := by
    rw [s2.2]
    exact ⟨y1, y2, y3⟩
  obtain ⟨k9, s9, c3, r3, p3, f4, hk9, hs9, hz⟩ := lv_p0 (by omega) p2 f3 (mm.sm k1 s2)
  have rr := r1.tr (r2.tr r3)
  rcases hz with ⟨hg, m3⟩ | ⟨hg, m3⟩
  · have l3 : LN L xs n fa c3 := LN.ofK p3 m3.1 (by decide +kernel) (by decide +kernel)
    have g4 : sy_Fs (sy_ev [(n : Int), 0, k9, 500, 0, 0, 0, 0, 0, 0, 0, 0, 0, 0, 0, 0, 0, x5]) [] lg00_Rd mid := sy_b_F (m := [0, 3, 17]) (by exact aa.mem ⟨rfl, rfl, rfl, trivial⟩) lg00_Rb g2
    have f5 : sy_Fs (sy_ev [(n : Int), 0, k9, 500, 0, 0, 0, 0, 0, 0, 0, 0, 0, 0, 0, 0, 0, x5]) mid jz_F15d c3.1 := sy_b_F (m := [2, 3, 4]) (by exact aa.mem ⟨rfl, rfl, rfl, trivial⟩) jz_F15b f4
    have f6 : lg00_C1 n k9 500 0 x5 [] c3.1 := sy_b_F (m := [0, 2, 3, 4, 17]) (by exact aa.mem ⟨rfl, rfl, rfl, rfl, rfl, trivial⟩) lg00_C1b (sy_Fs_join g4 f5)
    have m4 : sy_me (sy_ev [0, s9]) lg00_c1_D c3.2 := sy_lM0_ok (G := ([], [])) sg_0 ((lw_hb l3.1).app (sy_b_m (pw := sy_ev [0, s9]) (m := [1]) (by exact aa.mem ⟨rfl, trivial⟩) jz_bKS m3.1)) (by decide +kernel)
    obtain ⟨c4, r4, f7, s4, e4⟩ := lg00_c1_m (Nat.zero_le _) l3.1.E ⟨by omega, by omega⟩ hs9 hk9 ⟨by decide, by decide⟩ ⟨by decide, by decide⟩ hx5 f6 m4
    have l4 : LN L xs n fa c4 := l3.sm s4 e4
    have t4 : (c4.2.2.2.1 : Int) = a0 + 1 ∧ (c4.2.2.2.2.1 : Int) = a1 + 1 ∧ (c4.2.2.2.2.2 : Int) = a2 + 5 := by
      rw [s4.2]
      exact m3.2
    exact ⟨c4, rr.tr r4, l4, Or.inl ⟨hg, f7⟩, t4⟩
  · have l3 : LN L xs n fa c3 := LN.ofK p3 m3.1 (by decide +kernel) (by decide +kernel)
    have g4 : sy_Fs (sy_ev [(n : Int), 0, k9, 500, 0, 0, 0, 0, 0, 0, 0, 0, 0, 0, 0, 0, 0, x5]) [] lg00_Rd mid := sy_b_F (m := [0, 3, 17]) (by exact aa.mem ⟨rfl, rfl, rfl, trivial⟩) lg00_Rb g2
    have f5 : sy_Fs (sy_ev [(n : Int), 0, k9, 500, 0, 0, 0, 0, 0, 0, 0, 0, 0, 0, 0, 0, 0, x5]) mid jz_F15d c3.1 := sy_b_F (m := [2, 3, 4]) (by exact aa.mem ⟨rfl, rfl, rfl, trivial⟩) jz_F15b f4
    have f6 : lg00_C0 n k9 500 0 x5 [] c3.1 := sy_b_F (m := [0, 2, 3, 4, 17]) (by exact aa.mem ⟨rfl, rfl, rfl, rfl, rfl, trivial⟩) lg00_C0b (sy_Fs_join g4 f5)
    have m4 : sy_me (sy_ev [0, s9]) lg00_c0_D c3.2 := sy_lM0_ok (G := ([], [])) sg_0 ((lw_hb l3.1).app (sy_b_m (pw := sy_ev [0, s9]) (m := [1]) (by exact aa.mem ⟨rfl, trivial⟩) jz_bKO m3.1)) (by decide +kernel)
    obtain ⟨c4, r4, f7, s4, e4⟩ := lg00_c0_m (Nat.zero_le _) l3.1.E ⟨by omega, by omega⟩ hs9 hk9 ⟨by decide, by decide⟩ ⟨by decide, by decide⟩ hx5 f6 m4
    have l4 : LN L xs n fa c4 := l3.sm s4 e4
    have t4 : (c4.2.2.2.1 : Int) = a0 + 1 ∧ (c4.2.2.2.2.1 : Int) = a1 + 1 ∧ (c4.2.2.2.2.2 : Int) = a2 + 5 := by
      rw [s4.2]
      exact m3.2
    exact ⟨c4, rr.tr r4, l4, Or.inr ⟨hg, f7⟩, t4⟩
theorem lu_01 {L : Nat} {xs : Nat → Int32} {n : Nat} {fa : Fa} {c : MsC} {a0 a1 a2 x5 : Int} (hL : LN L xs n fa c) (hF : ((jp_gd n fa = true ∧ lg00_Z n 1 x5 [] c.1) ∨ (jp_gd n fa = false ∧ lg00_Z n 0 x5 [] c.1))) (ht : (c.2.2.2.1 : Int) = a0 ∧ (c.2.2.2.2.1 : Int) = a1 ∧ (c.2.2.2.2.2 : Int) = a2) (b0 : 54 ≤ a0 ∧ a0 ≤ 900000) (b1 : 0 ≤ a1 ∧ a1 ≤ 900000) (b2 : 0 ≤ a2 ∧ a2 ≤ 900000) (hx5 : 54 ≤ x5 ∧ x5 ≤ 900000) : ∃ c', rch c c' ∧ LN L xs n fa c' ∧ ((jp_gd n fa = true ∧ lg01_Z n 1 x5 [] c'.1) ∨ (jp_gd n fa = false ∧ lg01_Z n 0 x5 [] c'.1)) ∧ ((c'.2.2.2.1 : Int) = a0 + 1 ∧ (c'.2.2.2.2.1 : Int) = a1 + 1 ∧ (c'.2.2.2.2.2 : Int) = a2 + 5) := by
  have hn := hL.1.nr
  rcases hF with ⟨hg, hF⟩ | ⟨hg, hF⟩
  · obtain ⟨c1, r1, f1, p1, k1, t1, -⟩ := ak_01 hL hF ht b0 b1 b2
    have hm1 := hn
    obtain ⟨y1, y2, y3⟩ := t1
    rw [y1, y2, y3] at k1
    have a9 : sy_me (sy_ev []) lg01_a_D c1.2 := (sy_lM0_ok (G := ([], [])) sg_0 ((lw_hb p1).app k1) (by decide +kernel)).const (by decide +kernel)
    obtain ⟨c2, r2, f2, s2, e2⟩ := lg01_a_m (Nat.zero_le _) p1.E ⟨by omega, by omega⟩ ⟨by decide, by decide⟩ hx5 f1 a9
    have p2 := p1.sm s2 e2
    obtain ⟨mid, g2, g3⟩ := sy_Fs_app (A := lg_F0c) (B := lg01_Rsd.tail) f2
    have f3 : jz_F15 0 500 0 mid c2.1 := lg_cv15 g3 rfl
    have hml := sy_Fs.len g2
    have hml : mid.length = 2 := hml
    have t2 : (c2.2.2.2.1 : Int) = a0 + 1 ∧ (c2.2.2.2.2.1 : Int) = a1 + 1 ∧ (c2.2.2.2.2.2 : Int) = a2 + 5 := by
      rw [s2.2]
      exact ⟨y1, y2, y3⟩
    obtain ⟨c5, r5, p5, f5, k5, em5⟩ := jz_n01_m (by omega) p2 jp_ko ⟨by decide, by decide⟩ f3 (k1.sm s2) t2
    obtain ⟨k9, s9, c3, r3, p3, f4, hk9, hs9, hz⟩ := lv_p1 (by omega) p5 em5 f5 k5
    have rr := r1.tr (r2.tr (r5.tr r3))
    rcases hz with ⟨hg2, m3⟩ | ⟨hg2, m3⟩
    · have l3 : LN L xs n fa c3 := LN.ofK p3 m3.1 (by decide +kernel) (by decide +kernel)
      have g4 : sy_Fs (sy_ev [(n : Int), 0, k9, 500, 0, 0, 0, 0, 0, 0, 0, 0, 0, 0, 0, 0, 0, x5]) [] lg01_C1d.tail mid := sq_Fs.ok (r := lg01_Rd) (pv := sy_ev [(n : Int), 0, 0, 500, 0, 0, 1, 0, 0, 0, 0, 0, 0, 0, 0, 0, 0, x5]) ⟨rfl, rfl, ⟨rfl, ⟨rfl, rfl, by first | rfl | exact (sy_n0 rfl).trans rfl | exact (sy_n0 rfl).trans (sy_n0 rfl).symm | (simp [sy_n, sy_ev]; done) | (simp [sy_n, sy_ev]; omega)⟩, rfl, ⟨rfl, rfl, by first | rfl | exact (sy_n0 rfl).trans rfl | exact (sy_n0 rfl).trans (sy_n0 rfl).symm | (simp [sy_n, sy_ev]; done) | (simp [sy_n, sy_ev]; omega)⟩, trivial⟩, trivial, rfl, rfl, ⟨rfl, ⟨rfl, rfl, by first | rfl | exact (sy_n0 rfl).trans rfl | exact (sy_n0 rfl).trans (sy_n0 rfl).symm | (simp [sy_n, sy_ev]; done) | (simp [sy_n, sy_ev]; omega)⟩, rfl, ⟨rfl, rfl, by first | rfl | exact (sy_n0 rfl).trans rfl | exact (sy_n0 rfl).trans (sy_n0 rfl).symm | (simp [sy_n, sy_ev]; done) | (simp [sy_n, sy_ev]; omega)⟩, rfl, ⟨rfl, rfl, by first | rfl | exact (sy_n0 rfl).trans rfl | exact (sy_n0 rfl).trans (sy_n0 rfl).symm | (simp [sy_n, sy_ev]; done) | (simp [sy_n, sy_ev]; omega)⟩, rfl, ⟨rfl, rfl, by first | rfl | exact (sy_n0 rfl).trans rfl | exact (sy_n0 rfl).trans (sy_n0 rfl).symm | (simp [sy_n, sy_ev]; done) | (simp [sy_n, sy_ev]; omega)⟩, rfl, ⟨rfl, rfl, by first | rfl | exact (sy_n0 rfl).trans rfl | exact (sy_n0 rfl).trans (sy_n0 rfl).symm | (simp [sy_n, sy_ev]; done) | (simp [sy_n, sy_ev]; omega)⟩, rfl, ⟨rfl, rfl, by first | rfl | exact (sy_n0 rfl).trans rfl | exact (sy_n0 rfl).trans (sy_n0 rfl).symm | (simp [sy_n, sy_ev]; done) | (simp [sy_n, sy_ev]; omega)⟩, rfl, ⟨rfl, rfl, by first | rfl | exact (sy_n0 rfl).trans rfl | exact (sy_n0 rfl).trans (sy_n0 rfl).symm | (simp [sy_n, sy_ev]; done) | (simp [sy_n, sy_ev]; omega)⟩, trivial⟩, trivial, trivial⟩ g2
      have f5 : sy_Fs (sy_ev [(n : Int), 0, k9, 500, 0, 0, 0, 0, 0, 0, 0, 0, 0, 0, 0, 0, 0, x5]) mid jz_F15d c3.1 := sy_b_F (m := [2, 3, 4]) (by exact aa.mem ⟨rfl, rfl, rfl, trivial⟩) jz_F15b f4
      have f6 : lg01_C1 n k9 500 0 x5 [] c3.1 := sy_b_F (m := [0, 2, 3, 4, 17]) (by exact aa.mem ⟨rfl, rfl, rfl, rfl, rfl, trivial⟩) lg01_C1b (sy_Fs_join g4 f5)
      have m4 : sy_me (sy_ev [0, s9]) lg01_c1_D c3.2 := sy_lM0_ok (G := ([], [])) sg_0 ((lw_hb l3.1).app (sy_b_m (pw := sy_ev [0, s9]) (m := [1]) (by exact aa.mem ⟨rfl, trivial⟩) jz_bKO m3.1)) (by decide +kernel)
      obtain ⟨c4, r4, f7, s4, e4⟩ := lg01_c1_m (Nat.zero_le _) l3.1.E ⟨by omega, by omega⟩ hs9 hk9 ⟨by decide, by decide⟩ ⟨by decide, by decide⟩ hx5 f6 m4
      have l4 : LN L xs n fa c4 := l3.sm s4 e4
      have t4 : (c4.2.2.2.1 : Int) = a0 + 1 ∧ (c4.2.2.2.2.1 : Int) = a1 + 1 ∧ (c4.2.2.2.2.2 : Int) = a2 + 5 := by
        rw [s4.2]
        exact m3.2
      exact ⟨c4, rr.tr r4, l4, Or.inl ⟨hg, f7⟩, t4⟩
    · rw [hg] at hg2
      cases hg2
  · obtain ⟨c1, r1, f1, p1, k1, t1, -⟩ := ak_01 hL hF ht b0 b1 b2
    have hm1 := hn
    obtain ⟨y1, y2, y3⟩ := t1
    rw [y1, y2, y3] at k1
    have a9 : sy_me (sy_ev []) lg01_a_D c1.2 := (sy_lM0_ok (G := ([], [])) sg_0 ((lw_hb p1).app k1) (by decide +kernel)).const (by decide +kernel)
    obtain ⟨c2, r2, f2, s2, e2⟩ := lg01_a_m (Nat.zero_le _) p1.E ⟨by omega, by omega⟩ ⟨by decide, by decide⟩ hx5 f1 a9
    have p2 := p1.sm s2 e2
    obtain ⟨mid, g2, g3⟩ := sy_Fs_app (A := lg_F0c) (B := lg01_Rsd.tail) f2
    have f3 : jz_F15 0 500 0 mid c2.1 := lg_cv15 g3 rfl
    have hml := sy_Fs.len g2
    have hml : mid.length = 2 := hml
    have t2 : (c2.2.2.2.1 : Int) = a0 + 1 ∧ (c2.2.2.2.2.1 : Int) = a1 + 1 ∧ (c2.2.2.2.2.2 : Int) = a2 + 5 := by
      rw [s2.2]
      exact ⟨y1, y2, y3⟩
    obtain ⟨c5, r5, p5, f5, k5, em5⟩ := jz_n01_m (by omega) p2 jp_ko ⟨by decide, by decide⟩ f3 (k1.sm s2) t2
    obtain ⟨k9, s9, c3, r3, p3, f4, hk9, hs9, hz⟩ := lv_p1 (by omega) p5 em5 f5 k5
    have rr := r1.tr (r2.tr (r5.tr r3))
    rcases hz with ⟨hg2, m3⟩ | ⟨hg2, m3⟩
    · rw [hg] at hg2
      cases hg2
    · have l3 : LN L xs n fa c3 := LN.ofK p3 m3.1 (by decide +kernel) (by decide +kernel)
      have g4 : sy_Fs (sy_ev [(n : Int), 0, k9, 500, 0, 0, 0, 0, 0, 0, 0, 0, 0, 0, 0, 0, 0, x5]) [] lg01_C0d.tail mid := sq_Fs.ok (r := lg01_Rd) (pv := sy_ev [(n : Int), 0, 0, 500, 0, 0, 0, 0, 0, 0, 0, 0, 0, 0, 0, 0, 0, x5]) ⟨rfl, rfl, ⟨rfl, ⟨rfl, rfl, by first | rfl | exact (sy_n0 rfl).trans rfl | exact (sy_n0 rfl).trans (sy_n0 rfl).symm | (simp [sy_n, sy_ev]; done) | (simp [sy_n, sy_ev]; omega)⟩, rfl, ⟨rfl, rfl, by first | rfl | exact (sy_n0 rfl).trans rfl | exact (sy_n0 rfl).trans (sy_n0 rfl).symm | (simp [sy_n, sy_ev]; done) | (simp [sy_n, sy_ev]; omega)⟩, trivial⟩, trivial, rfl, rfl, ⟨rfl, ⟨rfl, rfl, by first | rfl | exact (sy_n0 rfl).trans rfl | exact (sy_n0 rfl).trans (sy_n0 rfl).symm | (simp [sy_n, sy_ev]; done) | (simp [sy_n, sy_ev]; omega)⟩, rfl, ⟨rfl, rfl, by first | rfl | exact (sy_n0 rfl).trans rfl | exact (sy_n0 rfl).trans (sy_n0 rfl).symm | (simp [sy_n, sy_ev]; done) | (simp [sy_n, sy_ev]; omega)⟩, rfl, ⟨rfl, rfl, by first | rfl | exact (sy_n0 rfl).trans rfl | exact (sy_n0 rfl).trans (sy_n0 rfl).symm | (simp [sy_n, sy_ev]; done) | (simp [sy_n, sy_ev]; omega)⟩, rfl, ⟨rfl, rfl, by first | rfl | exact (sy_n0 rfl).trans rfl | exact (sy_n0 rfl).trans (sy_n0 rfl).symm | (simp [sy_n, sy_ev]; done) | (simp [sy_n, sy_ev]; omega)⟩, rfl, ⟨rfl, rfl, by first | rfl | exact (sy_n0 rfl).trans rfl | exact (sy_n0 rfl).trans (sy_n0 rfl).symm | (simp [sy_n, sy_ev]; done) | (simp [sy_n, sy_ev]; omega)⟩, rfl, ⟨rfl, rfl, by first | rfl | exact (sy_n0 rfl).trans rfl | exact (sy_n0 rfl).trans (sy_n0 rfl).symm | (simp [sy_n, sy_ev]; done) | (simp [sy_n, sy_ev]; omega)⟩, rfl, ⟨rfl, rfl, by first | rfl | exact (sy_n0 rfl).trans rfl | exact (sy_n0 rfl).trans (sy_n0 rfl).symm | (simp [sy_n, sy_ev]; done) | (simp [sy_n, sy_ev]; omega)⟩, trivial⟩, trivial, trivial⟩ g2
      have f5 : sy_Fs (sy_ev [(n : Int), 0, k9, 500, 0, 0, 0, 0, 0, 0, 0, 0, 0, 0, 0, 0, 0, x5]) mid jz_F15d c3.1 := sy_b_F (m := [2, 3, 4]) (by exact aa.mem ⟨rfl, rfl, rfl, trivial⟩) jz_F15b f4
      have f6 : lg01_C0 n k9 500 0 x5 [] c3.1 := sy_b_F (m := [0, 2, 3, 4, 17]) (by exact aa.mem ⟨rfl, rfl, rfl, rfl, rfl, trivial⟩) lg01_C0b (sy_Fs_join g4 f5)
      have m4 : sy_me (sy_ev [0, s9]) lg01_c0_D c3.2 := sy_lM0_ok (G := ([], [])) sg_0 ((lw_hb l3.1).app (sy_b_m (pw := sy_ev [0, s9]) (m := [1]) (by exact aa.mem ⟨rfl, trivial⟩) jz_bKT m3.1)) (by decide +kernel)
      obtain ⟨c4, r4, f7, m5, t5, e4, ch4⟩ := lg01_c0_m (Nat.zero_le _) l3.1.E ⟨by omega, by omega⟩ hs9 hk9 ⟨by decide, by decide⟩ ⟨by decide, by decide⟩ hx5 f6 m4 m3.2
      have l4 : LN L xs n fa c4 := l3.st e4 ch4 (by decide +kernel) m5 (by decide +kernel)
      have t4 := t5
      exact ⟨c4, rr.tr r4, l4, Or.inr ⟨hg, f7⟩, t4⟩
theorem lu_02 {L : Nat} {xs : Nat → Int32} {n : Nat} {fa : Fa} {c : MsC} {a0 a1 a2 x5 : Int} (hL : LN L xs n fa c) (hF : ((jp_gd n fa = true ∧ lg01_Z n 1 x5 [] c.1) ∨ (jp_gd n fa = false ∧ lg01_Z n 0 x5 [] c.1))) (ht : (c.2.2.2.1 : Int) = a0 ∧ (c.2.2.2.2.1 : Int) = a1 ∧ (c.2.2.2.2.2 : Int) = a2) (b0 : 54 ≤ a0 ∧ a0 ≤ 900000) (b1 : 0 ≤ a1 ∧ a1 ≤ 900000) (b2 : 0 ≤ a2 ∧ a2 ≤ 900000) (hx5 : 54 ≤ x5 ∧ x5 ≤ 900000) : ∃ c', rch c c' ∧ LN L xs n fa c' ∧ (lg02_Z [] c'.1) ∧ ((c'.2.2.2.1 : Int) = a0 + 2 ∧ (c'.2.2.2.2.1 : Int) = a1 + 2 ∧ (c'.2.2.2.2.2 : Int) = a2 + 10) := by
  have hn := hL.1.nr
  rcases hF with ⟨hg, hF⟩ | ⟨hg, hF⟩
  · obtain ⟨c1, r1, f1, p1, k1, t1, -⟩ := ak_02 hL hF ht b0 b1 b2
    have hm1 := hn
    obtain ⟨y1, y2, y3⟩ := t1
    rw [y1, y2, y3] at k1
    have a9 : sy_me (sy_ev []) lg02_a_D c1.2 := (sy_lM0_ok (G := ([], [])) sg_0 ((lw_hb p1).app k1) (by decide +kernel)).const (by decide +kernel)
    obtain ⟨c2, r2, f2, s2, e2⟩ := lg02_a_m (Nat.zero_le _) p1.E ⟨by omega, by omega⟩ ⟨by decide, by decide⟩ hx5 f1 a9
    have p2 := p1.sm s2 e2
    obtain ⟨mid, g2, g3⟩ := sy_Fs_app (A := lg_F0c) (B := lg02_Rsd.tail) f2
    have f3 : jz_F15 0 500 0 mid c2.1 := lg_cv15 g3 rfl
    have hml := sy_Fs.len g2
    have hml : mid.length = 2 := hml
    have t2 : (c2.2.2.2.1 : Int) = a0 + 2 ∧ (c2.2.2.2.2.1 : Int) = a1 + 2 ∧ (c2.2.2.2.2.2 : Int) = a2 + 10 := by
      rw [s2.2]
      exact ⟨y1, y2, y3⟩
    obtain ⟨c5, r5, p5, f5, k5, em5⟩ := jz_n02_m (by omega) p2 jp_ko ⟨by decide, by decide⟩ f3 (k1.sm s2) t2
    obtain ⟨k9, s9, c3, r3, p3, f4, hk9, hs9, hz⟩ := lv_p2 (by omega) p5 em5 f5 k5
    have rr := r1.tr (r2.tr (r5.tr r3))
    rcases hz with ⟨hg2, m3⟩ | ⟨hg2, m3⟩
    · have l3 : LN L xs n fa c3 := LN.ofK p3 m3.1 (by decide +kernel) (by decide +kernel)
      have g4 : sy_Fs (sy_ev [(n : Int), 0, k9, 500, 0, 0, 0, 0, 0, 0, 0, 0, 0, 0, 0, 0, 0, x5]) [] lg02_C1d.tail mid := sq_Fs.ok (r := lg02_Rd) (pv := sy_ev [(n : Int), 0, 0, 500, 0, 0, 1, 0, 0, 0, 0, 0, 0, 0, 0, 0, 0, x5]) ⟨rfl, rfl, ⟨rfl, ⟨rfl, rfl, by first | rfl | exact (sy_n0 rfl).trans rfl | exact (sy_n0 rfl).trans (sy_n0 rfl).symm | (simp [sy_n, sy_ev]; done) | (simp [sy_n, sy_ev]; omega)⟩, rfl, ⟨rfl, rfl, by first | rfl | exact (sy_n0 rfl).trans rfl | exact (sy_n0 rfl).trans (sy_n0 rfl).symm | (simp [sy_n, sy_ev]; done) | (simp [sy_n, sy_ev]; omega)⟩, trivial⟩, trivial, rfl, rfl, ⟨rfl, ⟨rfl, rfl, by first | rfl | exact (sy_n0 rfl).trans rfl | exact (sy_n0 rfl).trans (sy_n0 rfl).symm | (simp [sy_n, sy_ev]; done) | (simp [sy_n, sy_ev]; omega)⟩, rfl, ⟨rfl, rfl, by first | rfl | exact (sy_n0 rfl).trans rfl | exact (sy_n0 rfl).trans (sy_n0 rfl).symm | (simp [sy_n, sy_ev]; done) | (simp [sy_n, sy_ev]; omega)⟩, rfl, ⟨rfl, rfl, by first | rfl | exact (sy_n0 rfl).trans rfl | exact (sy_n0 rfl).trans (sy_n0 rfl).symm | (simp [sy_n, sy_ev]; done) | (simp [sy_n, sy_ev]; omega)⟩, rfl, ⟨rfl, rfl, by first | rfl | exact (sy_n0 rfl).trans rfl | exact (sy_n0 rfl).trans (sy_n0 rfl).symm | (simp [sy_n, sy_ev]; done) | (simp [sy_n, sy_ev]; omega)⟩, rfl, ⟨rfl, rfl, by first | rfl | exact (sy_n0 rfl).trans rfl | exact (sy_n0 rfl).trans (sy_n0 rfl).symm | (simp [sy_n, sy_ev]; done) | (simp [sy_n, sy_ev]; omega)⟩, rfl, ⟨rfl, rfl, by first | rfl | exact (sy_n0 rfl).trans rfl | exact (sy_n0 rfl).trans (sy_n0 rfl).symm | (simp [sy_n, sy_ev]; done) | (simp [sy_n, sy_ev]; omega)⟩, rfl, ⟨rfl, rfl, by first | rfl | exact (sy_n0 rfl).trans rfl | exact (sy_n0 rfl).trans (sy_n0 rfl).symm | (simp [sy_n, sy_ev]; done) | (simp [sy_n, sy_ev]; omega)⟩, trivial⟩, trivial, trivial⟩ g2
      have f5 : sy_Fs (sy_ev [(n : Int), 0, k9, 500, 0, 0, 0, 0, 0, 0, 0, 0, 0, 0, 0, 0, 0, x5]) mid jz_F15d c3.1 := sy_b_F (m := [2, 3, 4]) (by exact aa.mem ⟨rfl, rfl, rfl, trivial⟩) jz_F15b f4
      have f6 : lg02_C1 n k9 500 0 x5 [] c3.1 := sy_b_F (m := [0, 2, 3, 4, 17]) (by exact aa.mem ⟨rfl, rfl, rfl, rfl, rfl, trivial⟩) lg02_C1b (sy_Fs_join g4 f5)
      have m4 : sy_me (sy_ev [0, s9]) lg02_c1_D c3.2 := sy_lM0_ok (G := ([], [])) sg_0 ((lw_hb l3.1).app (sy_b_m (pw := sy_ev [0, s9]) (m := [1]) (by exact aa.mem ⟨rfl, trivial⟩) jz_bKT m3.1)) (by decide +kernel)
      obtain ⟨c4, r4, f7, s4, e4⟩ := lg02_c1_m (Nat.zero_le _) l3.1.E ⟨by omega, by omega⟩ hs9 hk9 ⟨by decide, by decide⟩ ⟨by decide, by decide⟩ hx5 f6 m4
      have l4 : LN L xs n fa c4 := l3.sm s4 e4
      have t4 : (c4.2.2.2.1 : Int) = a0 + 2 ∧ (c4.2.2.2.2.1 : Int) = a1 + 2 ∧ (c4.2.2.2.2.2 : Int) = a2 + 10 := by
        rw [s4.2]
        exact m3.2
      exact ⟨c4, rr.tr r4, l4, f7, t4⟩
    · rw [hg] at hg2
      cases hg2
  · obtain ⟨c1, r1, f1, p1, k1, t1, -⟩ := ak_02 hL hF ht b0 b1 b2
    have hm1 := hn
    obtain ⟨y1, y2, y3⟩ := t1
    rw [y1, y2, y3] at k1
    have a9 : sy_me (sy_ev []) lg02_a_D c1.2 := (sy_lM0_ok (G := ([], [])) sg_0 ((lw_hb p1).app k1) (by decide +kernel)).const (by decide +kernel)
    obtain ⟨c2, r2, f2, s2, e2⟩ := lg02_a_m (Nat.zero_le _) p1.E ⟨by omega, by omega⟩ ⟨by decide, by decide⟩ hx5 f1 a9
    have p2 := p1.sm s2 e2
    obtain ⟨mid, g2, g3⟩ := sy_Fs_app (A := lg_F0c) (B := lg02_Rsd.tail) f2
    have f3 : jz_F15 0 500 0 mid c2.1 := lg_cv15 g3 rfl
    have hml := sy_Fs.len g2
    have hml : mid.length = 2 := hml
    have t2 : (c2.2.2.2.1 : Int) = a0 + 2 ∧ (c2.2.2.2.2.1 : Int) = a1 + 2 ∧ (c2.2.2.2.2.2 : Int) = a2 + 10 := by
      rw [s2.2]
      exact ⟨y1, y2, y3⟩
    obtain ⟨c5, r5, p5, f5, k5, em5⟩ := jz_n02_m (by omega) p2 jp_ko ⟨by decide, by decide⟩ f3 (k1.sm s2) t2
    obtain ⟨k9, s9, c3, r3, p3, f4, hk9, hs9, hz⟩ := lv_p2 (by omega) p5 em5 f5 k5
    have rr := r1.tr (r2.tr (r5.tr r3))
    rcases hz with ⟨hg2, m3⟩ | ⟨hg2, m3⟩
    · rw [hg] at hg2
      cases hg2
    · have l3 : LN L xs n fa c3 := LN.ofK p3 m3.1 (by decide +kernel) (by decide +kernel)
      have g4 : sy_Fs (sy_ev [(n : Int), 0, k9, 500, 0, 0, 0, 0, 0, 0, 0, 0, 0, 0, 0, 0, 0, x5]) [] lg02_C0d.tail mid := sq_Fs.ok (r := lg02_Rd) (pv := sy_ev [(n : Int), 0, 0, 500, 0, 0, 0, 0, 0, 0, 0, 0, 0, 0, 0, 0, 0, x5]) ⟨rfl, rfl, ⟨rfl, ⟨rfl, rfl, by first | rfl | exact (sy_n0 rfl).trans rfl | exact (sy_n0 rfl).trans (sy_n0 rfl).symm | (simp [sy_n, sy_ev]; done) | (simp [sy_n, sy_ev]; omega)⟩, rfl, ⟨rfl, rfl, by first | rfl | exact (sy_n0 rfl).trans rfl | exact (sy_n0 rfl).trans (sy_n0 rfl).symm | (simp [sy_n, sy_ev]; done) | (simp [sy_n, sy_ev]; omega)⟩, trivial⟩, trivial, rfl, rfl, ⟨rfl, ⟨rfl, rfl, by first | rfl | exact (sy_n0 rfl).trans rfl | exact (sy_n0 rfl).trans (sy_n0 rfl).symm | (simp [sy_n, sy_ev]; done) | (simp [sy_n, sy_ev]; omega)⟩, rfl, ⟨rfl, rfl, by first | rfl | exact (sy_n0 rfl).trans rfl | exact (sy_n0 rfl).trans (sy_n0 rfl).symm | (simp [sy_n, sy_ev]; done) | (simp [sy_n, sy_ev]; omega)⟩, rfl, ⟨rfl, rfl, by first | rfl | exact (sy_n0 rfl).trans rfl | exact (sy_n0 rfl).trans (sy_n0 rfl).symm | (simp [sy_n, sy_ev]; done) | (simp [sy_n, sy_ev]; omega)⟩, rfl, ⟨rfl, rfl, by first | rfl | exact (sy_n0 rfl).trans rfl | exact (sy_n0 rfl).trans (sy_n0 rfl).symm | (simp [sy_n, sy_ev]; done) | (simp [sy_n, sy_ev]; omega)⟩, rfl, ⟨rfl, rfl, by first | rfl | exact (sy_n0 rfl).trans rfl | exact (sy_n0 rfl).trans (sy_n0 rfl).symm | (simp [sy_n, sy_ev]; done) | (simp [sy_n, sy_ev]; omega)⟩, rfl, ⟨rfl, rfl, by first | rfl | exact (sy_n0 rfl).trans rfl | exact (sy_n0 rfl).trans (sy_n0 rfl).symm | (simp [sy_n, sy_ev]; done) | (simp [sy_n, sy_ev]; omega)⟩, rfl, ⟨rfl, rfl, by first | rfl | exact (sy_n0 rfl).trans rfl | exact (sy_n0 rfl).trans (sy_n0 rfl).symm | (simp [sy_n, sy_ev]; done) | (simp [sy_n, sy_ev]; omega)⟩, trivial⟩, trivial, trivial⟩ g2
      have f5 : sy_Fs (sy_ev [(n : Int), 0, k9, 500, 0, 0, 0, 0, 0, 0, 0, 0, 0, 0, 0, 0, 0, x5]) mid jz_F15d c3.1 := sy_b_F (m := [2, 3, 4]) (by exact aa.mem ⟨rfl, rfl, rfl, trivial⟩) jz_F15b f4
      have f6 : lg02_C0 n k9 500 0 x5 [] c3.1 := sy_b_F (m := [0, 2, 3, 4, 17]) (by exact aa.mem ⟨rfl, rfl, rfl, rfl, rfl, trivial⟩) lg02_C0b (sy_Fs_join g4 f5)
      have m4 : sy_me (sy_ev [0, s9]) lg02_c0_D c3.2 := sy_lM0_ok (G := ([], [])) sg_0 ((lw_hb l3.1).app (sy_b_m (pw := sy_ev [0, s9]) (m := [1]) (by exact aa.mem ⟨rfl, trivial⟩) jz_bKO m3.1)) (by decide +kernel)
      obtain ⟨c4, r4, f7, s4, e4⟩ := lg02_c0_m (Nat.zero_le _) l3.1.E ⟨by omega, by omega⟩ hs9 hk9 ⟨by decide, by decide⟩ ⟨by decide, by decide⟩ hx5 f6 m4
      have l4 : LN L xs n fa c4 := l3.sm s4 e4
      have t4 : (c4.2.2.2.1 : Int) = a0 + 2 ∧ (c4.2.2.2.2.1 : Int) = a1 + 2 ∧ (c4.2.2.2.2.2 : Int) = a2 + 10 := by
        rw [s4.2]
        exact m3.2
      exact ⟨c4, rr.tr r4, l4, f7, t4⟩
theorem lu_10 {L : Nat} {xs : Nat → Int32} {n : Nat} {fa : Fa} {c : MsC} {a0 a1 a2 x5 : Int} (hL : LN L xs n fa c) (hF : lg_T1 n x5 [] c.1) (ht : (c.2.2.2.1 : Int) = a0 ∧ (c.2.2.2.2.1 : Int) = a1 ∧ (c.2.2.2.2.2 : Int) = a2) (b0 : 54 ≤ a0 ∧ a0 ≤ 900000) (b1 : 0 ≤ a1 ∧ a1 ≤ 900000) (b2 : 0 ≤ a2 ∧ a2 ≤ 900000) (hx5 : 54 ≤ x5 ∧ x5 ≤ 900000) : ∃ c', rch c c' ∧ LN L xs n fa c' ∧ ((jq_gd n fa = true ∧ lg10_Z n 1 x5 [] c'.1) ∨ (jq_gd n fa = false ∧ lg10_Z n 0 x5 [] c'.1)) ∧ ((c'.2.2.2.1 : Int) = a0 + 1 ∧ (c'.2.2.2.2.1 : Int) = a1 + 1 ∧ (c'.2.2.2.2.2 : Int) = a2 + 5) := by
  have hn := hL.1.nr
  obtain ⟨c1, r1, f1, p1, k1, t1, -⟩ := ak_10 hL hF ht b0 b1 b2
  have hm1 := hn
  obtain ⟨y1, y2, y3⟩ := t1
  have hsu : sy_pv (sy_ev [0, 1, 0, 0, 0, 0, 0, 0, 0, 0, 0, 0, 0, 0, 0, 0, 0, 0, (-1), 0, (a0 + 1), (a1 + 1), (a2 + 5), 0, 0]) [(1, (0, 1, 0, 0))] = sy_ev [0, 1, 0, 0, 0, 0, 0, 0, 0, 0, 0, 0, 0, 0, 0, 0, 0, 0, (-1), 0, (a0 + 1), (a1 + 1), (a2 + 5), 0, 0] := su_id (by intro q hq; rcases List.mem_cons.mp hq with rfl | hq; exact sy_n0 rfl; cases hq)
  have a9 : sy_me (sy_ev []) lg10_a_D c1.2 := (sy_lM0_ok (G := ([], [])) (pv := sy_ev [0, 1, 0, 0, 0, 0, 0, 0, 0, 0, 0, 0, 0, 0, 0, 0, 0, 0, (-1), 0, (a0 + 1), (a1 + 1), (a2 + 5), 0, 0]) sg_0 ((lw_hb p1).app (k1.1.su hsu (by decide +kernel))) (by decide +kernel)).const (by decide +kernel)
  obtain ⟨c2, r2, f2, s2, e2⟩ := lg10_a_m (Nat.zero_le _) p1.E ⟨by omega, by omega⟩ hx5 f1 a9
  have p2 := p1.sm s2 e2
  obtain ⟨mid, g2, g3⟩ := sy_Fs_app (A := lg_F0c) (B := lg10_Rsd.tail) f2
  have f3 : jz_F15 0 500 0 mid c2.1 := lg_cv15 g3 rfl
  have hml := sy_Fs.len g2
  have hml : mid.length = 2 := hml
  have t2 : (c2.2.2.2.1 : Int) = a0 + 1 ∧ (c2.2.2.2.2.1 : Int) = a1 + 1 ∧ (c2.2.2.2.2.2 : Int) = a2 + 5 := by
    rw [s2.2]
    exact ⟨y1, y2, y3⟩
  obtain ⟨k9, s9, c3, r3, p3, f4, hk9, hs9, hz⟩ := lv_q0 (by omega) p2 f3 (mm.sm k1 s2)
  have rr := r1.tr (r2.tr r3)
  rcases hz with ⟨hg, m3⟩ | ⟨hg, m3⟩
  · have l3 : LN L xs n fa c3 := LN.ofK p3 m3.1 (by decide +kernel) (by decide +kernel)
    have g4 : sy_Fs (sy_ev [(n : Int), 0, k9, 500, 0, 0, 0, 0, 0, 0, 0, 0, 0, 0, 0, 0, 0, x5]) [] lg10_Rd mid := sy_b_F (m := [0, 3, 17]) (by exact aa.mem ⟨rfl, rfl, rfl, trivial⟩) lg10_Rb g2
    have f5 : sy_Fs (sy_ev [(n : Int), 0, k9, 500, 0, 0, 0, 0, 0, 0, 0, 0, 0, 0, 0, 0, 0, x5]) mid jz_F15d c3.1 := sy_b_F (m := [2, 3, 4]) (by exact aa.mem ⟨rfl, rfl, rfl, trivial⟩) jz_F15b f4
    have f6 : lg10_C1 n k9 500 0 x5 [] c3.1 := sy_b_F (m := [0, 2, 3, 4, 17]) (by exact aa.mem ⟨rfl, rfl, rfl, rfl, rfl, trivial⟩) lg10_C1b (sy_Fs_join g4 f5)
    have m4 : sy_me (sy_ev [0, s9]) lg10_c1_D c3.2 := sy_lM0_ok (G := ([], [])) sg_0 ((lw_hb l3.1).app (sy_b_m (pw := sy_ev [0, s9]) (m := [1]) (by exact aa.mem ⟨rfl, trivial⟩) jz_bKS m3.1)) (by decide +kernel)
    obtain ⟨c4, r4, f7, s4, e4⟩ := lg10_c1_m (Nat.zero_le _) l3.1.E ⟨by omega, by omega⟩ hs9 hk9 ⟨by decide, by decide⟩ ⟨by decide, by decide⟩ hx5 f6 m4
    have l4 : LN L xs n fa c4 := l3.sm s4 e4
    have t4 : (c4.2.2.2.1 : Int) = a0 + 1 ∧ (c4.2.2.2.2.1 : Int) = a1 + 1 ∧ (c4.2.2.2.2.2 : Int) = a2 + 5 := by
      rw [s4.2]
      exact m3.2
    exact ⟨c4, rr.tr r4, l4, Or.inl ⟨hg, f7⟩, t4⟩
  · have l3 : LN L xs n fa c3 := LN.ofK p3 m3.1 (by decide +kernel) (by decide +kernel)
    have g4 : sy_Fs (sy_ev [(n : Int), 0, k9, 500, 0, 0, 0, 0, 0, 0, 0, 0, 0, 0, 0, 0, 0, x5]) [] lg10_Rd mid := sy_b_F (m := [0, 3, 17]) (by exact aa.mem ⟨rfl, rfl, rfl, trivial⟩) lg10_Rb g2
    have f5 : sy_Fs (sy_ev [(n : Int), 0, k9, 500, 0, 0, 0, 0, 0, 0, 0, 0, 0, 0, 0, 0, 0, x5]) mid jz_F15d c3.1 := sy_b_F (m := [2, 3, 4]) (by exact aa.mem ⟨rfl, rfl, rfl, trivial⟩) jz_F15b f4
    have f6 : lg10_C0 n k9 500 0 x5 [] c3.1 := sy_b_F (m := [0, 2, 3, 4, 17]) (by exact aa.mem ⟨rfl, rfl, rfl, rfl, rfl, trivial⟩) lg10_C0b (sy_Fs_join g4 f5)
    have m4 : sy_me (sy_ev [0, s9]) lg10_c0_D c3.2 := sy_lM0_ok (G := ([], [])) sg_0 ((lw_hb l3.1).app (sy_b_m (pw := sy_ev [0, s9]) (m := [1]) (by exact aa.mem ⟨rfl, trivial⟩) jz_bKO m3.1)) (by decide +kernel)
    obtain ⟨c4, r4, f7, s4, e4⟩ := lg10_c0_m (Nat.zero_le _) l3.1.E ⟨by omega, by omega⟩ hs9 hk9 ⟨by decide, by decide⟩ ⟨by decide, by decide⟩ hx5 f6 m4
    have l4 : LN L xs n fa c4 := l3.sm s4 e4
    have t4 : (c4.2.2.2.1 : Int) = a0 + 1 ∧ (c4.2.2.2.2.1 : Int) = a1 + 1 ∧ (c4.2.2.2.2.2 : Int) = a2 + 5 := by
      rw [s4.2]
      exact m3.2
    exact ⟨c4, rr.tr r4, l4, Or.inr ⟨hg, f7⟩, t4⟩
theorem lu_11 {L : Nat} {xs : Nat → Int32} {n : Nat} {fa : Fa} {c : MsC} {a0 a1 a2 x5 : Int} (hL : LN L xs n fa c) (hF : ((jq_gd n fa = true ∧ lg10_Z n 1 x5 [] c.1) ∨ (jq_gd n fa = false ∧ lg10_Z n 0 x5 [] c.1))) (ht : (c.2.2.2.1 : Int) = a0 ∧ (c.2.2.2.2.1 : Int) = a1 ∧ (c.2.2.2.2.2 : Int) = a2) (b0 : 54 ≤ a0 ∧ a0 ≤ 900000) (b1 : 0 ≤ a1 ∧ a1 ≤ 900000) (b2 : 0 ≤ a2 ∧ a2 ≤ 900000) (hx5 : 54 ≤ x5 ∧ x5 ≤ 900000) : ∃ c', rch c c' ∧ LN L xs n fa c' ∧ ((jq_gd n fa = true ∧ lg11_Z n 1 x5 [] c'.1) ∨ (jq_gd n fa = false ∧ lg11_Z n 0 x5 [] c'.1)) ∧ ((c'.2.2.2.1 : Int) = a0 + 1 ∧ (c'.2.2.2.2.1 : Int) = a1 + 1 ∧ (c'.2.2.2.2.2 : Int) = a2 + 5) := by
  have hn := hL.1.nr
  rcases hF with ⟨hg, hF⟩ | ⟨hg, hF⟩
  · obtain ⟨c1, r1, f1, p1, k1, t1, -⟩ := ak_11 hL hF ht b0 b1 b2
    have hm1 := hn
    obtain ⟨y1, y2, y3⟩ := t1
    rw [y1, y2, y3] at k1
    have a9 : sy_me (sy_ev []) lg11_a_D c1.2 := (sy_lM0_ok (G := ([], [])) sg_0 ((lw_hb p1).app k1) (by decide +kernel)).const (by decide +kernel)
    obtain ⟨c2, r2, f2, s2, e2⟩ := lg11_a_m (Nat.zero_le _) p1.E ⟨by omega, by omega⟩ ⟨by decide, by decide⟩ hx5 f1 a9
    have p2 := p1.sm s2 e2
    obtain ⟨mid, g2, g3⟩ := sy_Fs_app (A := lg_F0c) (B := lg11_Rsd.tail) f2
    have f3 : jz_F15 0 500 0 mid c2.1 := lg_cv15 g3 rfl
    have hml := sy_Fs.len g2
    have hml : mid.length = 2 := hml
    have t2 : (c2.2.2.2.1 : Int) = a0 + 1 ∧ (c2.2.2.2.2.1 : Int) = a1 + 1 ∧ (c2.2.2.2.2.2 : Int) = a2 + 5 := by
      rw [s2.2]
      exact ⟨y1, y2, y3⟩
    obtain ⟨c5, r5, p5, f5, k5, em5⟩ := jz_n11_m (by omega) p2 jq_ko ⟨by decide, by decide⟩ f3 (k1.sm s2) t2
    obtain ⟨k9, s9, c3, r3, p3, f4, hk9, hs9, hz⟩ := lv_q1 (by omega) p5 em5 f5 k5
    have rr := r1.tr (r2.tr (r5.tr r3))
    rcases hz with ⟨hg2, m3⟩ | ⟨hg2, m3⟩
    · have l3 : LN L xs n fa c3 := LN.ofK p3 m3.1 (by decide +kernel) (by decide +kernel)
      have g4 : sy_Fs (sy_ev [(n : Int), 0, k9, 500, 0, 0, 0, 0, 0, 0, 0, 0, 0, 0, 0, 0, 0, x5]) [] lg11_C1d.tail mid := sq_Fs.ok (r := lg11_Rd) (pv := sy_ev [(n : Int), 0, 0, 500, 0, 0, 1, 0, 0, 0, 0, 0, 0, 0, 0, 0, 0, x5]) ⟨rfl, rfl, ⟨rfl, ⟨rfl, rfl, by first | rfl | exact (sy_n0 rfl).trans rfl | exact (sy_n0 rfl).trans (sy_n0 rfl).symm | (simp [sy_n, sy_ev]; done) | (simp [sy_n, sy_ev]; omega)⟩, rfl, ⟨rfl, rfl, by first | rfl | exact (sy_n0 rfl).trans rfl | exact (sy_n0 rfl).trans (sy_n0 rfl).symm | (simp [sy_n, sy_ev]; done) | (simp [sy_n, sy_ev]; omega)⟩, trivial⟩, trivial, rfl, rfl, ⟨rfl, ⟨rfl, rfl, by first | rfl | exact (sy_n0 rfl).trans rfl | exact (sy_n0 rfl).trans (sy_n0 rfl).symm | (simp [sy_n, sy_ev]; done) | (simp [sy_n, sy_ev]; omega)⟩, rfl, ⟨rfl, rfl, by first | rfl | exact (sy_n0 rfl).trans rfl | exact (sy_n0 rfl).trans (sy_n0 rfl).symm | (simp [sy_n, sy_ev]; done) | (simp [sy_n, sy_ev]; omega)⟩, rfl, ⟨rfl, rfl, by first | rfl | exact (sy_n0 rfl).trans rfl | exact (sy_n0 rfl).trans (sy_n0 rfl).symm | (simp [sy_n, sy_ev]; done) | (simp [sy_n, sy_ev]; omega)⟩, rfl, ⟨rfl, rfl, by first | rfl | exact (sy_n0 rfl).trans rfl | exact (sy_n0 rfl).trans (sy_n0 rfl).symm | (simp [sy_n, sy_ev]; done) | (simp [sy_n, sy_ev]; omega)⟩, rfl, ⟨rfl, rfl, by first | rfl | exact (sy_n0 rfl).trans rfl | exact (sy_n0 rfl).trans (sy_n0 rfl).symm | (simp [sy_n, sy_ev]; done) | (simp [sy_n, sy_ev]; omega)⟩, rfl, ⟨rfl, rfl, by first | rfl | exact (sy_n0 rfl).trans rfl | exact (sy_n0 rfl).trans (sy_n0 rfl).symm | (simp [sy_n, sy_ev]; done) | (simp [sy_n, sy_ev]; omega)⟩, rfl, ⟨rfl, rfl, by first | rfl | exact (sy_n0 rfl).trans rfl | exact (sy_n0 rfl).trans (sy_n0 rfl).symm | (simp [sy_n, sy_ev]; done) | (simp [sy_n, sy_ev]; omega)⟩, trivial⟩, trivial, trivial⟩ g2
      have f5 : sy_Fs (sy_ev [(n : Int), 0, k9, 500, 0, 0, 0, 0, 0, 0, 0, 0, 0, 0, 0, 0, 0, x5]) mid jz_F15d c3.1 := sy_b_F (m := [2, 3, 4]) (by exact aa.mem ⟨rfl, rfl, rfl, trivial⟩) jz_F15b f4
      have f6 : lg11_C1 n k9 500 0 x5 [] c3.1 := sy_b_F (m := [0, 2, 3, 4, 17]) (by exact aa.mem ⟨rfl, rfl, rfl, rfl, rfl, trivial⟩) lg11_C1b (sy_Fs_join g4 f5)
      have m4 : sy_me (sy_ev [0, s9]) lg11_c1_D c3.2 := sy_lM0_ok (G := ([], [])) sg_0 ((lw_hb l3.1).app (sy_b_m (pw := sy_ev [0, s9]) (m := [1]) (by exact aa.mem ⟨rfl, trivial⟩) jz_bKO m3.1)) (by decide +kernel)
      obtain ⟨c4, r4, f7, s4, e4⟩ := lg11_c1_m (Nat.zero_le _) l3.1.E ⟨by omega, by omega⟩ hs9 hk9 ⟨by decide, by decide⟩ ⟨by decide, by decide⟩ hx5 f6 m4
      have l4 : LN L xs n fa c4 := l3.sm s4 e4
      have t4 : (c4.2.2.2.1 : Int) = a0 + 1 ∧ (c4.2.2.2.2.1 : Int) = a1 + 1 ∧ (c4.2.2.2.2.2 : Int) = a2 + 5 := by
        rw [s4.2]
        exact m3.2
      exact ⟨c4, rr.tr r4, l4, Or.inl ⟨hg, f7⟩, t4⟩
    · rw [hg] at hg2
      cases hg2
  · obtain ⟨c1, r1, f1, p1, k1, t1, -⟩ := ak_11 hL hF ht b0 b1 b2
    have hm1 := hn
    obtain ⟨y1, y2, y3⟩ := t1
    rw [y1, y2, y3] at k1
    have a9 : sy_me (sy_ev []) lg11_a_D c1.2 := (sy_lM0_ok (G := ([], [])) sg_0 ((lw_hb p1).app k1) (by decide +kernel)).const (by decide +kernel)
    obtain ⟨c2, r2, f2, s2, e2⟩ := lg11_a_m (Nat.zero_le _) p1.E ⟨by omega, by omega⟩ ⟨by decide, by decide⟩ hx5 f1 a9
    have p2 := p1.sm s2 e2
    obtain ⟨mid, g2, g3⟩ := sy_Fs_app (A := lg_F0c) (B := lg11_Rsd.tail) f2
    have f3 : jz_F15 0 500 0 mid c2.1 := lg_cv15 g3 rfl
    have hml := sy_Fs.len g2
    have hml : mid.length = 2 := hml
    have t2 : (c2.2.2.2.1 : Int) = a0 + 1 ∧ (c2.2.2.2.2.1 : Int) = a1 + 1 ∧ (c2.2.2.2.2.2 : Int) = a2 + 5 := by
      rw [s2.2]
      exact ⟨y1, y2, y3⟩
    obtain ⟨c5, r5, p5, f5, k5, em5⟩ := jz_n11_m (by omega) p2 jq_ko ⟨by decide, by decide⟩ f3 (k1.sm s2) t2
    obtain ⟨k9, s9, c3, r3, p3, f4, hk9, hs9, hz⟩ := lv_q1 (by omega) p5 em5 f5 k5
    have rr := r1.tr (r2.tr (r5.tr r3))
    rcases hz with ⟨hg2, m3⟩ | ⟨hg2, m3⟩
    · rw [hg] at hg2
      cases hg2
    · have l3 : LN L xs n fa c3 := LN.ofK p3 m3.1 (by decide +kernel) (by decide +kernel)
      have g4 : sy_Fs (sy_ev [(n : Int), 0, k9, 500, 0, 0, 0, 0, 0, 0, 0, 0, 0, 0, 0, 0, 0, x5]) [] lg11_C0d.tail mid := sq_Fs.ok (r := lg11_Rd) (pv := sy_ev [(n : Int), 0, 0, 500, 0, 0, 0, 0, 0, 0, 0, 0, 0, 0, 0, 0, 0, x5]) ⟨rfl, rfl, ⟨rfl, ⟨rfl, rfl, by first | rfl | exact (sy_n0 rfl).trans rfl | exact (sy_n0 rfl).trans (sy_n0 rfl).symm | (simp [sy_n, sy_ev]; done) | (simp [sy_n, sy_ev]; omega)⟩, rfl, ⟨rfl, rfl, by first | rfl | exact (sy_n0 rfl).trans rfl | exact (sy_n0 rfl).trans (sy_n0 rfl).symm | (simp [sy_n, sy_ev]; done) | (simp [sy_n, sy_ev]; omega)⟩, trivial⟩, trivial, rfl, rfl, ⟨rfl, ⟨rfl, rfl, by first | rfl | exact (sy_n0 rfl).trans rfl | exact (sy_n0 rfl).trans (sy_n0 rfl).symm | (simp [sy_n, sy_ev]; done) | (simp [sy_n, sy_ev]; omega)⟩, rfl, ⟨rfl, rfl, by first | rfl | exact (sy_n0 rfl).trans rfl | exact (sy_n0 rfl).trans (sy_n0 rfl).symm | (simp [sy_n, sy_ev]; done) | (simp [sy_n, sy_ev]; omega)⟩, rfl, ⟨rfl, rfl, by first | rfl | exact (sy_n0 rfl).trans rfl | exact (sy_n0 rfl).trans (sy_n0 rfl).symm | (simp [sy_n, sy_ev]; done) | (simp [sy_n, sy_ev]; omega)⟩, rfl, ⟨rfl, rfl, by first | rfl | exact (sy_n0 rfl).trans rfl | exact (sy_n0 rfl).trans (sy_n0 rfl).symm | (simp [sy_n, sy_ev]; done) | (simp [sy_n, sy_ev]; omega)⟩, rfl, ⟨rfl, rfl, by first | rfl | exact (sy_n0 rfl).trans rfl | exact (sy_n0 rfl).trans (sy_n0 rfl).symm | (simp [sy_n, sy_ev]; done) | (simp [sy_n, sy_ev]; omega)⟩, rfl, ⟨rfl, rfl, by first | rfl | exact (sy_n0 rfl).trans rfl | exact (sy_n0 rfl).trans (sy_n0 rfl).symm | (simp [sy_n, sy_ev]; done) | (simp [sy_n, sy_ev]; omega)⟩, rfl, ⟨rfl, rfl, by first | rfl | exact (sy_n0 rfl).trans rfl | exact (sy_n0 rfl).trans (sy_n0 rfl).symm | (simp [sy_n, sy_ev]; done) | (simp [sy_n, sy_ev]; omega)⟩, trivial⟩, trivial, trivial⟩ g2
      have f5 : sy_Fs (sy_ev [(n : Int), 0, k9, 500, 0, 0, 0, 0, 0, 0, 0, 0, 0, 0, 0, 0, 0, x5]) mid jz_F15d c3.1 := sy_b_F (m := [2, 3, 4]) (by exact aa.mem ⟨rfl, rfl, rfl, trivial⟩) jz_F15b f4
      have f6 : lg11_C0 n k9 500 0 x5 [] c3.1 := sy_b_F (m := [0, 2, 3, 4, 17]) (by exact aa.mem ⟨rfl, rfl, rfl, rfl, rfl, trivial⟩) lg11_C0b (sy_Fs_join g4 f5)
      have m4 : sy_me (sy_ev [0, s9]) lg11_c0_D c3.2 := sy_lM0_ok (G := ([], [])) sg_0 ((lw_hb l3.1).app (sy_b_m (pw := sy_ev [0, s9]) (m := [1]) (by exact aa.mem ⟨rfl, trivial⟩) jz_bKT m3.1)) (by decide +kernel)
      obtain ⟨c4, r4, f7, m5, t5, e4, ch4⟩ := lg11_c0_m (Nat.zero_le _) l3.1.E ⟨by omega, by omega⟩ hs9 hk9 ⟨by decide, by decide⟩ ⟨by decide, by decide⟩ hx5 f6 m4 m3.2
      have l4 : LN L xs n fa c4 := l3.st e4 ch4 (by decide +kernel) m5 (by decide +kernel)
      have t4 := t5
      exact ⟨c4, rr.tr r4, l4, Or.inr ⟨hg, f7⟩, t4⟩
theorem lu_12 {L : Nat} {xs : Nat → Int32} {n : Nat} {fa : Fa} {c : MsC} {a0 a1 a2 x5 : Int} (hL : LN L xs n fa c) (hF : ((jq_gd n fa = true ∧ lg11_Z n 1 x5 [] c.1) ∨ (jq_gd n fa = false ∧ lg11_Z n 0 x5 [] c.1))) (ht : (c.2.2.2.1 : Int) = a0 ∧ (c.2.2.2.2.1 : Int) = a1 ∧ (c.2.2.2.2.2 : Int) = a2) (b0 : 54 ≤ a0 ∧ a0 ≤ 900000) (b1 : 0 ≤ a1 ∧ a1 ≤ 900000) (b2 : 0 ≤ a2 ∧ a2 ≤ 900000) (hx5 : 54 ≤ x5 ∧ x5 ≤ 900000) : ∃ c', rch c c' ∧ LN L xs n fa c' ∧ (lg12_Z [] c'.1) ∧ ((c'.2.2.2.1 : Int) = a0 + 2 ∧ (c'.2.2.2.2.1 : Int) = a1 + 2 ∧ (c'.2.2.2.2.2 : Int) = a2 + 10) := by
  have hn := hL.1.nr
  rcases hF with ⟨hg, hF⟩ | ⟨hg, hF⟩
  · obtain ⟨c1, r1, f1, p1, k1, t1, -⟩ := ak_12 hL hF ht b0 b1 b2
    have hm1 := hn
    obtain ⟨y1, y2, y3⟩ := t1
    rw [y1, y2, y3] at k1
    have a9 : sy_me (sy_ev []) lg12_a_D c1.2 := (sy_lM0_ok (G := ([], [])) sg_0 ((lw_hb p1).app k1) (by decide +kernel)).const (by decide +kernel)
    obtain ⟨c2, r2, f2, s2, e2⟩ := lg12_a_m (Nat.zero_le _) p1.E ⟨by omega, by omega⟩ ⟨by decide, by decide⟩ hx5 f1 a9
    have p2 := p1.sm s2 e2
    obtain ⟨mid, g2, g3⟩ := sy_Fs_app (A := lg_F0c) (B := lg12_Rsd.tail) f2
    have f3 : jz_F15 0 500 0 mid c2.1 := lg_cv15 g3 rfl
    have hml := sy_Fs.len g2
    have hml : mid.length = 2 := hml
    have t2 : (c2.2.2.2.1 : Int) = a0 + 2 ∧ (c2.2.2.2.2.1 : Int) = a1 + 2 ∧ (c2.2.2.2.2.2 : Int) = a2 + 10 := by
      rw [s2.2]
      exact ⟨y1, y2, y3⟩
    obtain ⟨c5, r5, p5, f5, k5, em5⟩ := jz_n12_m (by omega) p2 jq_ko ⟨by decide, by decide⟩ f3 (k1.sm s2) t2
    obtain ⟨k9, s9, c3, r3, p3, f4, hk9, hs9, hz⟩ := lv_q2 (by omega) p5 em5 f5 k5
    have rr := r1.tr (r2.tr (r5.tr r3))
    rcases hz with ⟨hg2, m3⟩ | ⟨hg2, m3⟩
    · have l3 : LN L xs n fa c3 := LN.ofK p3 m3.1 (by decide +kernel) (by decide +kernel)
      have g4 : sy_Fs (sy_ev [(n : Int), 0, k9, 500, 0, 0, 0, 0, 0, 0, 0, 0, 0, 0, 0, 0, 0, x5]) [] lg12_C1d.tail mid := sq_Fs.ok (r := lg12_Rd) (pv := sy_ev [(n : Int), 0, 0, 500, 0, 0, 1, 0, 0, 0, 0, 0, 0, 0, 0, 0, 0, x5]) ⟨rfl, rfl, ⟨rfl, ⟨rfl, rfl, by first | rfl | exact (sy_n0 rfl).trans rfl | exact (sy_n0 rfl).trans (sy_n0 rfl).symm | (simp [sy_n, sy_ev]; done) | (simp [sy_n, sy_ev]; omega)⟩, rfl, ⟨rfl, rfl, by first | rfl | exact (sy_n0 rfl).trans rfl | exact (sy_n0 rfl).trans (sy_n0 rfl).symm | (simp [sy_n, sy_ev]; done) | (simp [sy_n, sy_ev]; omega)⟩, trivial⟩, trivial, rfl, rfl, ⟨rfl, ⟨rfl, rfl, by first | rfl | exact (sy_n0 rfl).trans rfl | exact (sy_n0 rfl).trans (sy_n0 rfl).symm | (simp [sy_n, sy_ev]; done) | (simp [sy_n, sy_ev]; omega)⟩, rfl, ⟨rfl, rfl, by first | rfl | exact (sy_n0 rfl).trans rfl | exact (sy_n0 rfl).trans (sy_n0 rfl).symm | (simp [sy_n, sy_ev]; done) | (simp [sy_n, sy_ev]; omega)⟩, rfl, ⟨rfl, rfl, by first | rfl | exact (sy_n0 rfl).trans rfl | exact (sy_n0 rfl).trans (sy_n0 rfl).symm | (simp [sy_n, sy_ev]; done) | (simp [sy_n, sy_ev]; omega)⟩, rfl, ⟨rfl, rfl, by first | rfl | exact (sy_n0 rfl).trans rfl | exact (sy_n0 rfl).trans (sy_n0 rfl).symm | (simp [sy_n, sy_ev]; done) | (simp [sy_n, sy_ev]; omega)⟩, rfl, ⟨rfl, rfl, by first | rfl | exact (sy_n0 rfl).trans rfl | exact (sy_n0 rfl).trans (sy_n0 rfl).symm | (simp [sy_n, sy_ev]; done) | (simp [sy_n, sy_ev]; omega)⟩, rfl, ⟨rfl, rfl, by first | rfl | exact (sy_n0 rfl).trans rfl | exact (sy_n0 rfl).trans (sy_n0 rfl).symm | (simp [sy_n, sy_ev]; done) | (simp [sy_n, sy_ev]; omega)⟩, rfl, ⟨rfl, rfl, by first | rfl | exact (sy_n0 rfl).trans rfl | exact (sy_n0 rfl).trans (sy_n0 rfl).symm | (simp [sy_n, sy_ev]; done) | (simp [sy_n, sy_ev]; omega)⟩, trivial⟩, trivial, trivial⟩ g2
      have f5 : sy_Fs (sy_ev [(n : Int), 0, k9, 500, 0, 0, 0, 0, 0, 0, 0, 0, 0, 0, 0, 0, 0, x5]) mid jz_F15d c3.1 := sy_b_F (m := [2, 3, 4]) (by exact aa.mem ⟨rfl, rfl, rfl, trivial⟩) jz_F15b f4
      have f6 : lg12_C1 n k9 500 0 x5 [] c3.1 := sy_b_F (m := [0, 2, 3, 4, 17]) (by exact aa.mem ⟨rfl, rfl, rfl, rfl, rfl, trivial⟩) lg12_C1b (sy_Fs_join g4 f5)
      have m4 : sy_me (sy_ev [0, s9]) lg12_c1_D c3.2 := sy_lM0_ok (G := ([], [])) sg_0 ((lw_hb l3.1).app (sy_b_m (pw := sy_ev [0, s9]) (m := [1]) (by exact aa.mem ⟨rfl, trivial⟩) jz_bKT m3.1)) (by decide +kernel)
      obtain ⟨c4, r4, f7, s4, e4⟩ := lg12_c1_m (Nat.zero_le _) l3.1.E ⟨by omega, by omega⟩ hs9 hk9 ⟨by decide, by decide⟩ ⟨by decide, by decide⟩ hx5 f6 m4
      have l4 : LN L xs n fa c4 := l3.sm s4 e4
      have t4 : (c4.2.2.2.1 : Int) = a0 + 2 ∧ (c4.2.2.2.2.1 : Int) = a1 + 2 ∧ (c4.2.2.2.2.2 : Int) = a2 + 10 := by
        rw [s4.2]
        exact m3.2
      exact ⟨c4, rr.tr r4, l4, f7, t4⟩
    · rw [hg] at hg2
      cases hg2
  · obtain ⟨c1, r1, f1, p1, k1, t1, -⟩ := ak_12 hL hF ht b0 b1 b2
    have hm1 := hn
    obtain ⟨y1, y2, y3⟩ := t1
    rw [y1, y2, y3] at k1
    have a9 : sy_me (sy_ev []) lg12_a_D c1.2 := (sy_lM0_ok (G := ([], [])) sg_0 ((lw_hb p1).app k1) (by decide +kernel)).const (by decide +kernel)
    obtain ⟨c2, r2, f2, s2, e2⟩ := lg12_a_m (Nat.zero_le _) p1.E ⟨by omega, by omega⟩ ⟨by decide, by decide⟩ hx5 f1 a9
    have p2 := p1.sm s2 e2
    obtain ⟨mid, g2, g3⟩ := sy_Fs_app (A := lg_F0c) (B := lg12_Rsd.tail) f2
    have f3 : jz_F15 0 500 0 mid c2.1 := lg_cv15 g3 rfl
    have hml := sy_Fs.len g2
    have hml : mid.length = 2 := hml
    have t2 : (c2.2.2.2.1 : Int) = a0 + 2 ∧ (c2.2.2.2.2.1 : Int) = a1 + 2 ∧ (c2.2.2.2.2.2 : Int) = a2 + 10 := by
      rw [s2.2]
      exact ⟨y1, y2, y3⟩
    obtain ⟨c5, r5, p5, f5, k5, em5⟩ := jz_n12_m (by omega) p2 jq_ko ⟨by decide, by decide⟩ f3 (k1.sm s2) t2
    obtain ⟨k9, s9, c3, r3, p3, f4, hk9, hs9, hz⟩ := lv_q2 (by omega) p5 em5 f5 k5
    have rr := r1.tr (r2.tr (r5.tr r3))
    rcases hz with ⟨hg2, m3⟩ | ⟨hg2, m3⟩
    · rw [hg] at hg2
      cases hg2
    · have l3 : LN L xs n fa c3 := LN.ofK p3 m3.1 (by decide +kernel) (by decide +kernel)
      have g4 : sy_Fs (sy_ev [(n : Int), 0, k9, 500, 0, 0, 0, 0, 0, 0, 0, 0, 0, 0, 0, 0, 0, x5]) [] lg12_C0d.tail mid := sq_Fs.ok (r := lg12_Rd) (pv := sy_ev [(n : Int), 0, 0, 500, 0, 0, 0, 0, 0, 0, 0, 0, 0, 0, 0, 0, 0, x5]) ⟨rfl, rfl, ⟨rfl, ⟨rfl, rfl, by first | rfl | exact (sy_n0 rfl).trans rfl | exact (sy_n0 rfl).trans (sy_n0 rfl).symm | (simp [sy_n, sy_ev]; done) | (simp [sy_n, sy_ev]; omega)⟩, rfl, ⟨rfl, rfl, by first | rfl | exact (sy_n0 rfl).trans rfl | exact (sy_n0 rfl).trans (sy_n0 rfl).symm | (simp [sy_n, sy_ev]; done) | (simp [sy_n, sy_ev]; omega)⟩, trivial⟩, trivial, rfl, rfl, ⟨rfl, ⟨rfl, rfl, by first | rfl | exact (sy_n0 rfl).trans rfl | exact (sy_n0 rfl).trans (sy_n0 rfl).symm | (simp [sy_n, sy_ev]; done) | (simp [sy_n, sy_ev]; omega)⟩, rfl, ⟨rfl, rfl, by first | rfl | exact (sy_n0 rfl).trans rfl | exact (sy_n0 rfl).trans (sy_n0 rfl).symm | (simp [sy_n, sy_ev]; done) | (simp [sy_n, sy_ev]; omega)⟩, rfl, ⟨rfl, rfl, by first | rfl | exact (sy_n0 rfl).trans rfl | exact (sy_n0 rfl).trans (sy_n0 rfl).symm | (simp [sy_n, sy_ev]; done) | (simp [sy_n, sy_ev]; omega)⟩, rfl, ⟨rfl, rfl, by first | rfl | exact (sy_n0 rfl).trans rfl | exact (sy_n0 rfl).trans (sy_n0 rfl).symm | (simp [sy_n, sy_ev]; done) | (simp [sy_n, sy_ev]; omega)⟩, rfl, ⟨rfl, rfl, by first | rfl | exact (sy_n0 rfl).trans rfl | exact (sy_n0 rfl).trans (sy_n0 rfl).symm | (simp [sy_n, sy_ev]; done) | (simp [sy_n, sy_ev]; omega)⟩, rfl, ⟨rfl, rfl, by first | rfl | exact (sy_n0 rfl).trans rfl | exact (sy_n0 rfl).trans (sy_n0 rfl).symm | (simp [sy_n, sy_ev]; done) | (simp [sy_n, sy_ev]; omega)⟩, rfl, ⟨rfl, rfl, by first | rfl | exact (sy_n0 rfl).trans rfl | exact (sy_n0 rfl).trans (sy_n0 rfl).symm | (simp [sy_n, sy_ev]; done) | (simp [sy_n, sy_ev]; omega)⟩, trivial⟩, trivial, trivial⟩ g2
      have f5 : sy_Fs (sy_ev [(n : Int), 0, k9, 500, 0, 0, 0, 0, 0, 0, 0, 0, 0, 0, 0, 0, 0, x5]) mid jz_F15d c3.1 := sy_b_F (m := [2, 3, 4]) (by exact aa.mem ⟨rfl, rfl, rfl, trivial⟩) jz_F15b f4
      have f6 : lg12_C0 n k9 500 0 x5 [] c3.1 := sy_b_F (m := [0, 2, 3, 4, 17]) (by exact aa.mem ⟨rfl, rfl, rfl, rfl, rfl, trivial⟩) lg12_C0b (sy_Fs_join g4 f5)
      have m4 : sy_me (sy_ev [0, s9]) lg12_c0_D c3.2 := sy_lM0_ok (G := ([], [])) sg_0 ((lw_hb l3.1).app (sy_b_m (pw := sy_ev [0, s9]) (m := [1]) (by exact aa.mem ⟨rfl, trivial⟩) jz_bKO m3.1)) (by decide +kernel)
      obtain ⟨c4, r4, f7, s4, e4⟩ := lg12_c0_m (Nat.zero_le _) l3.1.E ⟨by omega, by omega⟩ hs9 hk9 ⟨by decide, by decide⟩ ⟨by decide, by decide⟩ hx5 f6 m4
      have l4 : LN L xs n fa c4 := l3.sm s4 e4
      have t4 : (c4.2.2.2.1 : Int) = a0 + 2 ∧ (c4.2.2.2.2.1 : Int) = a1 + 2 ∧ (c4.2.2.2.2.2 : Int) = a2 + 10 := by
        rw [s4.2]
        exact m3.2
      exact ⟨c4, rr.tr r4, l4, f7, t4⟩
theorem lu_20 {L : Nat} {xs : Nat → Int32} {n : Nat} {fa : Fa} {c : MsC} {a0 a1 a2 x5 : Int} (hL : LN L xs n fa c) (hF : lg_T2 n x5 [] c.1) (ht : (c.2.2.2.1 : Int) = a0 ∧ (c.2.2.2.2.1 : Int) = a1 ∧ (c.2.2.2.2.2 : Int) = a2) (b0 : 54 ≤ a0 ∧ a0 ≤ 900000) (b1 : 0 ≤ a1 ∧ a1 ≤ 900000) (b2 : 0 ≤ a2 ∧ a2 ≤ 900000) (hx5 : 54 ≤ x5 ∧ x5 ≤ 900000) : ∃ c', rch c c' ∧ LN L xs n fa c' ∧ ((ja_gd n fa = true ∧ lg20_Z n 1 x5 [] c'.1) ∨ (ja_gd n fa = false ∧ lg20_Z n 0 x5 [] c'.1)) ∧ ((c'.2.2.2.1 : Int) = a0 + 1 ∧ (c'.2.2.2.2.1 : Int) = a1 + 1 ∧ (c'.2.2.2.2.2 : Int) = a2 + 5) := by
  have hn := hL.1.nr
  obtain ⟨c1, r1, f1, p1, k1, t1, -⟩ := ak_20 hL hF ht b0 b1 b2
  have hm1 := hn
  obtain ⟨y1, y2, y3⟩ := t1
  have hsu : sy_pv (sy_ev [0, 0, 0, 0, 0, 0, 0, 0, 0, 0, 0, 0, 0, 0, 0, 0, 0, 0, (-1), 0, (a0 + 1), (a1 + 1), (a2 + 5), 0, 0, 1]) [(25, (0, 1, 0, 0))] = sy_ev [0, 0, 0, 0, 0, 0, 0, 0, 0, 0, 0, 0, 0, 0, 0, 0, 0, 0, (-1), 0, (a0 + 1), (a1 + 1), (a2 + 5), 0, 0, 1] := su_id (by intro q hq; rcases List.mem_cons.mp hq with rfl | hq; exact sy_n0 rfl; cases hq)
  have a9 : sy_me (sy_ev []) lg20_a_D c1.2 := (sy_lM0_ok (G := ([], [])) (pv := sy_ev [0, 0, 0, 0, 0, 0, 0, 0, 0, 0, 0, 0, 0, 0, 0, 0, 0, 0, (-1), 0, (a0 + 1), (a1 + 1), (a2 + 5), 0, 0, 1]) sg_0 ((lw_hb p1).app (k1.1.su hsu (by decide +kernel))) (by decide +kernel)).const (by decide +kernel)
  obtain ⟨c2, r2, f2, s2, e2⟩ := lg20_a_m (Nat.zero_le _) p1.E ⟨by omega, by omega⟩ hx5 f1 a9
  have p2 := p1.sm s2 e2
  obtain ⟨mid, g2, g3⟩ := sy_Fs_app (A := lg_F0c) (B := lg20_Rsd.tail) f2
  have f3 : jz_F15 0 500 0 mid c2.1 := lg_cv15 g3 rfl
  have hml := sy_Fs.len g2
  have hml : mid.length = 2 := hml
  have t2 : (c2.2.2.2.1 : Int) = a0 + 1 ∧ (c2.2.2.2.2.1 : Int) = a1 + 1 ∧ (c2.2.2.2.2.2 : Int) = a2 + 5 := by
    rw [s2.2]
    exact ⟨y1, y2, y3⟩
  obtain ⟨k9, s9, c3, r3, p3, f4, hk9, hs9, hz⟩ := lv_a0 (by omega) p2 f3 (mm.sm k1 s2)
  have rr := r1.tr (r2.tr r3)
  rcases hz with ⟨hg, m3⟩ | ⟨hg, m3⟩
  · have l3 : LN L xs n fa c3 := LN.ofK p3 m3.1 (by decide +kernel) (by decide +kernel)
    have g4 : sy_Fs (sy_ev [(n : Int), 0, k9, 500, 0, 0, 0, 0, 0, 0, 0, 0, 0, 0, 0, 0, 0, x5]) [] lg20_Rd mid := sy_b_F (m := [0, 3, 17]) (by exact aa.mem ⟨rfl, rfl, rfl, trivial⟩) lg20_Rb g2
    have f5 : sy_Fs (sy_ev [(n : Int), 0, k9, 500, 0, 0, 0, 0, 0, 0, 0, 0, 0, 0, 0, 0, 0, x5]) mid jz_F15d c3.1 := sy_b_F (m := [2, 3, 4]) (by exact aa.mem ⟨rfl, rfl, rfl, trivial⟩) jz_F15b f4
    have f6 : lg20_C1 n k9 500 0 x5 [] c3.1 := sy_b_F (m := [0, 2, 3, 4, 17]) (by exact aa.mem ⟨rfl, rfl, rfl, rfl, rfl, trivial⟩) lg20_C1b (sy_Fs_join g4 f5)
    have m4 : sy_me (sy_ev [0, s9]) lg20_c1_D c3.2 := sy_lM0_ok (G := ([], [])) sg_0 ((lw_hb l3.1).app (sy_b_m (pw := sy_ev [0, s9]) (m := [1]) (by exact aa.mem ⟨rfl, trivial⟩) jz_bKS m3.1)) (by decide +kernel)
    obtain ⟨c4, r4, f7, s4, e4⟩ := lg20_c1_m (Nat.zero_le _) l3.1.E ⟨by omega, by omega⟩ hs9 hk9 ⟨by decide, by decide⟩ ⟨by decide, by decide⟩ hx5 f6 m4
    have l4 : LN L xs n fa c4 := l3.sm s4 e4
    have t4 : (c4.2.2.2.1 : Int) = a0 + 1 ∧ (c4.2.2.2.2.1 : Int) = a1 + 1 ∧ (c4.2.2.2.2.2 : Int) = a2 + 5 := by
      rw [s4.2]
      exact m3.2
    exact ⟨c4, rr.tr r4, l4, Or.inl ⟨hg, f7⟩, t4⟩
  · have l3 : LN L xs n fa c3 := LN.ofK p3 m3.1 (by decide +kernel) (by decide +kernel)
    have g4 : sy_Fs (sy_ev [(n : Int), 0, k9, 500, 0, 0, 0, 0, 0, 0, 0, 0, 0, 0, 0, 0, 0, x5]) [] lg20_Rd mid := sy_b_F (m := [0, 3, 17]) (by exact aa.mem ⟨rfl, rfl, rfl, trivial⟩) lg20_Rb g2
    have f5 : sy_Fs (sy_ev [(n : Int), 0, k9, 500, 0, 0, 0, 0, 0, 0, 0, 0, 0, 0, 0, 0, 0, x5]) mid jz_F15d c3.1 := sy_b_F (m := [2, 3, 4]) (by exact aa.mem ⟨rfl, rfl, rfl, trivial⟩) jz_F15b f4
    have f6 : lg20_C0 n k9 500 0 x5 [] c3.1 := sy_b_F (m := [0, 2, 3, 4, 17]) (by exact aa.mem ⟨rfl, rfl, rfl, rfl, rfl, trivial⟩) lg20_C0b (sy_Fs_join g4 f5)
    have m4 : sy_me (sy_ev [0, s9]) lg20_c0_D c3.2 := sy_lM0_ok (G := ([], [])) sg_0 ((lw_hb l3.1).app (sy_b_m (pw := sy_ev [0, s9]) (m := [1]) (by exact aa.mem ⟨rfl, trivial⟩) jz_bKO m3.1)) (by decide +kernel)
    obtain ⟨c4, r4, f7, s4, e4⟩ := lg20_c0_m (Nat.zero_le _) l3.1.E ⟨by omega, by omega⟩ hs9 hk9 ⟨by decide, by decide⟩ ⟨by decide, by decide⟩ hx5 f6 m4
    have l4 : LN L xs n fa c4 := l3.sm s4 e4
    have t4 : (c4.2.2.2.1 : Int) = a0 + 1 ∧ (c4.2.2.2.2.1 : Int) = a1 + 1 ∧ (c4.2.2.2.2.2 : Int) = a2 + 5 := by
      rw [s4.2]
      exact m3.2
    exact ⟨c4, rr.tr r4, l4, Or.inr ⟨hg, f7⟩, t4⟩
theorem lu_21 {L : Nat} {xs : Nat → Int32} {n : Nat} {fa : Fa} {c : MsC} {a0 a1 a2 x5 : Int} (hL : LN L xs n fa c) (hF : ((ja_gd n fa = true ∧ lg20_Z n 1 x5 [] c.1) ∨ (ja_gd n fa = false ∧ lg20_Z n 0 x5 [] c.1))) (ht : (c.2.2.2.1 : Int) = a0 ∧ (c.2.2.2.2.1 : Int) = a1 ∧ (c.2.2.2.2.2 : Int) = a2) (b0 : 54 ≤ a0 ∧ a0 ≤ 900000) (b1 : 0 ≤ a1 ∧ a1 ≤ 900000) (b2 : 0 ≤ a2 ∧ a2 ≤ 900000) (hx5 : 54 ≤ x5 ∧ x5 ≤ 900000) : ∃ c', rch c c' ∧ LN L xs n fa c' ∧ ((ja_gd n fa = true ∧ lg21_Z n 1 x5 [] c'.1) ∨ (ja_gd n fa = false ∧ lg21_Z n 0 x5 [] c'.1)) ∧ ((c'.2.2.2.1 : Int) = a0 + 1 ∧ (c'.2.2.2.2.1 : Int) = a1 + 1 ∧ (c'.2.2.2.2.2 : Int) = a2 + 5) := by
  have hn := hL.1.nr
  rcases hF with ⟨hg, hF⟩ | ⟨hg, hF⟩
  · obtain ⟨c1, r1, f1, p1, k1, t1, -⟩ := ak_21 hL hF ht b0 b1 b2
    have hm1 := hn
    obtain ⟨y1, y2, y3⟩ := t1
    rw [y1, y2, y3] at k1
    have a9 : sy_me (sy_ev []) lg21_a_D c1.2 := (sy_lM0_ok (G := ([], [])) sg_0 ((lw_hb p1).app k1) (by decide +kernel)).const (by decide +kernel)
    obtain ⟨c2, r2, f2, s2, e2⟩ := lg21_a_m (Nat.zero_le _) p1.E ⟨by omega, by omega⟩ ⟨by decide, by decide⟩ hx5 f1 a9
    have p2 := p1.sm s2 e2
    obtain ⟨mid, g2, g3⟩ := sy_Fs_app (A := lg_F0c) (B := lg21_Rsd.tail) f2
    have f3 : jz_F15 0 500 0 mid c2.1 := lg_cv15 g3 rfl
    have hml := sy_Fs.len g2
    have hml : mid.length = 2 := hml
    have t2 : (c2.2.2.2.1 : Int) = a0 + 1 ∧ (c2.2.2.2.2.1 : Int) = a1 + 1 ∧ (c2.2.2.2.2.2 : Int) = a2 + 5 := by
      rw [s2.2]
      exact ⟨y1, y2, y3⟩
    obtain ⟨c5, r5, p5, f5, k5, em5⟩ := jz_n21_m (by omega) p2 ja_ko ⟨by decide, by decide⟩ f3 (k1.sm s2) t2
    obtain ⟨k9, s9, c3, r3, p3, f4, hk9, hs9, hz⟩ := lv_a1 (by omega) p5 em5 f5 k5
    have rr := r1.tr (r2.tr (r5.tr r3))
    rcases hz with ⟨hg2, m3⟩ | ⟨hg2, m3⟩
    · have l3 : LN L xs n fa c3 := LN.ofK p3 m3.1 (by decide +kernel) (by decide +kernel)
      have g4 : sy_Fs (sy_ev [(n : Int), 0, k9, 500, 0, 0, 0, 0, 0, 0, 0, 0, 0, 0, 0, 0, 0, x5]) [] lg21_C1d.tail mid := sq_Fs.ok (r := lg21_Rd) (pv := sy_ev [(n : Int), 0, 0, 500, 0, 0, 1, 0, 0, 0, 0, 0, 0, 0, 0, 0, 0, x5]) ⟨rfl, rfl, ⟨rfl, ⟨rfl, rfl, by first | rfl | exact (sy_n0 rfl).trans rfl | exact (sy_n0 rfl).trans (sy_n0 rfl).symm | (simp [sy_n, sy_ev]; done) | (simp [sy_n, sy_ev]; omega)⟩, rfl, ⟨rfl, rfl, by first | rfl | exact (sy_n0 rfl).trans rfl | exact (sy_n0 rfl).trans (sy_n0 rfl).symm | (simp [sy_n, sy_ev]; done) | (simp [sy_n, sy_ev]; omega)⟩, trivial⟩, trivial, rfl, rfl, ⟨rfl, ⟨rfl, rfl, by first | rfl | exact (sy_n0 rfl).trans rfl | exact (sy_n0 rfl).trans (sy_n0 rfl).symm | (simp [sy_n, sy_ev]; done) | (simp [sy_n, sy_ev]; omega)⟩, rfl, ⟨rfl, rfl, by first | rfl | exact (sy_n0 rfl).trans rfl | exact (sy_n0 rfl).trans (sy_n0 rfl).symm | (simp [sy_n, sy_ev]; done) | (simp [sy_n, sy_ev]; omega)⟩, rfl, ⟨rfl, rfl, by first | rfl | exact (sy_n0 rfl).trans rfl | exact (sy_n0 rfl).trans (sy_n0 rfl).symm | (simp [sy_n, sy_ev]; done) | (simp [sy_n, sy_ev]; omega)⟩, rfl, ⟨rfl, rfl, by first | rfl | exact (sy_n0 rfl).trans rfl | exact (sy_n0 rfl).trans (sy_n0 rfl).symm | (simp [sy_n, sy_ev]; done) | (simp [sy_n, sy_ev]; omega)⟩, rfl, ⟨rfl, rfl, by first | rfl | exact (sy_n0 rfl).trans rfl | exact (sy_n0 rfl).trans (sy_n0 rfl).symm | (simp [sy_n, sy_ev]; done) | (simp [sy_n, sy_ev]; omega)⟩, rfl, ⟨rfl, rfl, by first | rfl | exact (sy_n0 rfl).trans rfl | exact (sy_n0 rfl).trans (sy_n0 rfl).symm | (simp [sy_n, sy_ev]; done) | (simp [sy_n, sy_ev]; omega)⟩, rfl, ⟨rfl, rfl, by first | rfl | exact (sy_n0 rfl).trans rfl | exact (sy_n0 rfl).trans (sy_n0 rfl).symm | (simp [sy_n, sy_ev]; done) | (simp [sy_n, sy_ev]; omega)⟩, trivial⟩, trivial, trivial⟩ g2
      have f5 : sy_Fs (sy_ev [(n : Int), 0, k9, 500, 0, 0, 0, 0, 0, 0, 0, 0, 0, 0, 0, 0, 0, x5]) mid jz_F15d c3.1 := sy_b_F (m := [2, 3, 4]) (by exact aa.mem ⟨rfl, rfl, rfl, trivial⟩) jz_F15b f4
      have f6 : lg21_C1 n k9 500 0 x5 [] c3.1 := sy_b_F (m := [0, 2, 3, 4, 17]) (by exact aa.mem ⟨rfl, rfl, rfl, rfl, rfl, trivial⟩) lg21_C1b (sy_Fs_join g4 f5)
      have m4 : sy_me (sy_ev [0, s9]) lg21_c1_D c3.2 := sy_lM0_ok (G := ([], [])) sg_0 ((lw_hb l3.1).app (sy_b_m (pw := sy_ev [0, s9]) (m := [1]) (by exact aa.mem ⟨rfl, trivial⟩) jz_bKO m3.1)) (by decide +kernel)
      obtain ⟨c4, r4, f7, s4, e4⟩ := lg21_c1_m (Nat.zero_le _) l3.1.E ⟨by omega, by omega⟩ hs9 hk9 ⟨by decide, by decide⟩ ⟨by decide, by decide⟩ hx5 f6 m4
      have l4 : LN L xs n fa c4 := l3.sm s4 e4
      have t4 : (c4.2.2.2.1 : Int) = a0 + 1 ∧ (c4.2.2.2.2.1 : Int) = a1 + 1 ∧ (c4.2.2.2.2.2 : Int) = a2 + 5 := by
        rw [s4.2]
        exact m3.2
      exact ⟨c4, rr.tr r4, l4, Or.inl ⟨hg, f7⟩, t4⟩
    · rw [hg] at hg2
      cases hg2
  · obtain ⟨c1, r1, f1, p1, k1, t1, -⟩ := ak_21 hL hF ht b0 b1 b2
    have hm1 := hn
    obtain ⟨y1, y2, y3⟩ := t1
    rw [y1, y2, y3] at k1
    have a9 : sy_me (sy_ev []) lg21_a_D c1.2 := (sy_lM0_ok (G := ([], [])) sg_0 ((lw_hb p1).app k1) (by decide +kernel)).const (by decide +kernel)
    obtain ⟨c2, r2, f2, s2, e2⟩ := lg21_a_m (Nat.zero_le _) p1.E ⟨by omega, by omega⟩ ⟨by decide, by decide⟩ hx5 f1 a9
    have p2 := p1.sm s2 e2
    obtain ⟨mid, g2, g3⟩ := sy_Fs_app (A := lg_F0c) (B := lg21_Rsd.tail) f2
    have f3 : jz_F15 0 500 0 mid c2.1 := lg_cv15 g3 rfl
    have hml := sy_Fs.len g2
    have hml : mid.length = 2 := hml
    have t2 : (c2.2.2.2.1 : Int) = a0 + 1 ∧ (c2.2.2.2.2.1 : Int) = a1 + 1 ∧ (c2.2.2.2.2.2 : Int) = a2 + 5 := by
      rw [s2.2]
      exact ⟨y1, y2, y3⟩
    obtain ⟨c5, r5, p5, f5, k5, em5⟩ := jz_n21_m (by omega) p2 ja_ko ⟨by decide, by decide⟩ f3 (k1.sm s2) t2
    obtain ⟨k9, s9, c3, r3, p3, f4, hk9, hs9, hz⟩ := lv_a1 (by omega) p5 em5 f5 k5
    have rr := r1.tr (r2.tr (r5.tr r3))
    rcases hz with ⟨hg2, m3⟩ | ⟨hg2, m3⟩
    · rw [hg] at hg2
      cases hg2
    · have l3 : LN L xs n fa c3 := LN.ofK p3 m3.1 (by decide +kernel) (by decide +kernel)
      have g4 : sy_Fs (sy_ev [(n : Int), 0, k9, 500, 0, 0, 0, 0, 0, 0, 0, 0, 0, 0, 0, 0, 0, x5]) [] lg21_C0d.tail mid := sq_Fs.ok (r := lg21_Rd) (pv := sy_ev [(n : Int), 0, 0, 500, 0, 0, 0, 0, 0, 0, 0, 0, 0, 0, 0, 0, 0, x5]) ⟨rfl, rfl, ⟨rfl, ⟨rfl, rfl, by first | rfl | exact (sy_n0 rfl).trans rfl | exact (sy_n0 rfl).trans (sy_n0 rfl).symm | (simp [sy_n, sy_ev]; done) | (simp [sy_n, sy_ev]; omega)⟩, rfl, ⟨rfl, rfl, by first | rfl | exact (sy_n0 rfl).trans rfl | exact (sy_n0 rfl).trans (sy_n0 rfl).symm | (simp [sy_n, sy_ev]; done) | (simp [sy_n, sy_ev]; omega)⟩, trivial⟩, trivial, rfl, rfl, ⟨rfl, ⟨rfl, rfl, by first | rfl | exact (sy_n0 rfl).trans rfl | exact (sy_n0 rfl).trans (sy_n0 rfl).symm | (simp [sy_n, sy_ev]; done) | (simp [sy_n, sy_ev]; omega)⟩, rfl, ⟨rfl, rfl, by first | rfl | exact (sy_n0 rfl).trans rfl | exact (sy_n0 rfl).trans (sy_n0 rfl).symm | (simp [sy_n, sy_ev]; done) | (simp [sy_n, sy_ev]; omega)⟩, rfl, ⟨rfl, rfl, by first | rfl | exact (sy_n0 rfl).trans rfl | exact (sy_n0 rfl).trans (sy_n0 rfl).symm | (simp [sy_n, sy_ev]; done) | (simp [sy_n, sy_ev]; omega)⟩, rfl, ⟨rfl, rfl, by first | rfl | exact (sy_n0 rfl).trans rfl | exact (sy_n0 rfl).trans (sy_n0 rfl).symm | (simp [sy_n, sy_ev]; done) | (simp [sy_n, sy_ev]; omega)⟩, rfl, ⟨rfl, rfl, by first | rfl | exact (sy_n0 rfl).trans rfl | exact (sy_n0 rfl).trans (sy_n0 rfl).symm | (simp [sy_n, sy_ev]; done) | (simp [sy_n, sy_ev]; omega)⟩, rfl, ⟨rfl, rfl, by first | rfl | exact (sy_n0 rfl).trans rfl | exact (sy_n0 rfl).trans (sy_n0 rfl).symm | (simp [sy_n, sy_ev]; done) | (simp [sy_n, sy_ev]; omega)⟩, rfl, ⟨rfl, rfl, by first | rfl | exact (sy_n0 rfl).trans rfl | exact (sy_n0 rfl).trans (sy_n0 rfl).symm | (simp [sy_n, sy_ev]; done) | (simp [sy_n, sy_ev]; omega)⟩, trivial⟩, trivial, trivial⟩ g2
      have f5 : sy_Fs (sy_ev [(n : Int), 0, k9, 500, 0, 0, 0, 0, 0, 0, 0, 0, 0, 0, 0, 0, 0, x5]) mid jz_F15d c3.1 := sy_b_F (m := [2, 3, 4]) (by exact aa.mem ⟨rfl, rfl, rfl, trivial⟩) jz_F15b f4
      have f6 : lg21_C0 n k9 500 0 x5 [] c3.1 := sy_b_F (m := [0, 2, 3, 4, 17]) (by exact aa.mem ⟨rfl, rfl, rfl, rfl, rfl, trivial⟩) lg21_C0b (sy_Fs_join g4 f5)
      have m4 : sy_me (sy_ev [0, s9]) lg21_c0_D c3.2 := sy_lM0_ok (G := ([], [])) sg_0 ((lw_hb l3.1).app (sy_b_m (pw := sy_ev [0, s9]) (m := [1]) (by exact aa.mem ⟨rfl, trivial⟩) jz_bKT m3.1)) (by decide +kernel)
      obtain ⟨c4, r4, f7, m5, t5, e4, ch4⟩ := lg21_c0_m (Nat.zero_le _) l3.1.E ⟨by omega, by omega⟩ hs9 hk9 ⟨by decide, by decide⟩ ⟨by decide, by decide⟩ hx5 f6 m4 m3.2
      have l4 : LN L xs n fa c4 := l3.st e4 ch4 (by decide +kernel) m5 (by decide +kernel)
      have t4 := t5
      exact ⟨c4, rr.tr r4, l4, Or.inr ⟨hg, f7⟩, t4⟩
theorem lu_22 {L : Nat} {xs : Nat → Int32} {n : Nat} {fa : Fa} {c : MsC} {a0 a1 a2 x5 : Int} (hL : LN L xs n fa c) (hF : ((ja_gd n fa = true ∧ lg21_Z n 1 x5 [] c.1) ∨ (ja_gd n fa = false ∧ lg21_Z n 0 x5 [] c.1))) (ht : (c.2.2.2.1 : Int) = a0 ∧ (c.2.2.2.2.1 : Int) = a1 ∧ (c.2.2.2.2.2 : Int) = a2) (b0 : 54 ≤ a0 ∧ a0 ≤ 900000) (b1 : 0 ≤ a1 ∧ a1 ≤ 900000) (b2 : 0 ≤ a2 ∧ a2 ≤ 900000) (hx5 : 54 ≤ x5 ∧ x5 ≤ 900000) : ∃ c', rch c c' ∧ LN L xs n fa c' ∧ (lg22_Z [] c'.1) ∧ ((c'.2.2.2.1 : Int) = a0 + 2 ∧ (c'.2.2.2.2.1 : Int) = a1 + 2 ∧ (c'.2.2.2.2.2 : Int) = a2 + 10) := by
  have hn := hL.1.nr
  rcases hF with ⟨hg, hF⟩ | ⟨hg, hF⟩
  · obtain ⟨c1, r1, f1, p1, k1, t1, -⟩ := ak_22 hL hF ht b0 b1 b2
    have hm1 := hn
    obtain ⟨y1, y2, y3⟩ := t1
    rw [y1, y2, y3] at k1
    have a9 : sy_me (sy_ev []) lg22_a_D c1.2 := (sy_lM0_ok (G := ([], [])) sg_0 ((lw_hb p1).app k1) (by decide +kernel)).const (by decide +kernel)
    obtain ⟨c2, r2, f2, s2, e2⟩ := lg22_a_m (Nat.zero_le _) p1.E ⟨by omega, by omega⟩ ⟨by decide, by decide⟩ hx5 f1 a9
    have p2 := p1.sm s2 e2
    obtain ⟨mid, g2, g3⟩ := sy_Fs_app (A := lg_F0c) (B := lg22_Rsd.tail) f2
    have f3 : jz_F15 0 500 0 mid c2.1 := lg_cv15 g3 rfl
    have hml := sy_Fs.len g2
    have hml : mid.length = 2 := hml
    have t2 : (c2.2.2.2.1 : Int) = a0 + 2 ∧ (c2.2.2.2.2.1 : Int) = a1 + 2 ∧ (c2.2.2.2.2.2 : Int) = a2 + 10 := by
      rw [s2.2]
      exact ⟨y1, y2, y3⟩
    obtain ⟨c5, r5, p5, f5, k5, em5⟩ := jz_n22_m (by omega) p2 ja_ko ⟨by decide, by decide⟩ f3 (k1.sm s2) t2
    obtain ⟨k9, s9, c3, r3, p3, f4, hk9, hs9, hz⟩ := lv_a2 (by omega) p5 em5 f5 k5
    have rr := r1.tr (r2.tr (r5.tr r3))
    rcases hz with ⟨hg2, m3⟩ | ⟨hg2, m3⟩
    · have l3 : LN L xs n fa c3 := LN.ofK p3 m3.1 (by decide +kernel) (by decide +kernel)
      have g4 : sy_Fs (sy_ev [(n : Int), 0, k9, 500, 0, 0, 0, 0, 0, 0, 0, 0, 0, 0, 0, 0, 0, x5]) [] lg22_C1d.tail mid := sq_Fs.ok (r := lg22_Rd) (pv := sy_ev [(n : Int), 0, 0, 500, 0, 0, 1, 0, 0, 0, 0, 0, 0, 0, 0, 0, 0, x5]) ⟨rfl, rfl, ⟨rfl, ⟨rfl, rfl, by first | rfl | exact (sy_n0 rfl).trans rfl | exact (sy_n0 rfl).trans (sy_n0 rfl).symm | (simp [sy_n, sy_ev]; done) | (simp [sy_n, sy_ev]; omega)⟩, rfl, ⟨rfl, rfl, by first | rfl | exact (sy_n0 rfl).trans rfl | exact (sy_n0 rfl).trans (sy_n0 rfl).symm | (simp [sy_n, sy_ev]; done) | (simp [sy_n, sy_ev]; omega)⟩, trivial⟩, trivial, rfl, rfl, ⟨rfl, ⟨rfl, rfl, by first | rfl | exact (sy_n0 rfl).trans rfl | exact (sy_n0 rfl).trans (sy_n0 rfl).symm | (simp [sy_n, sy_ev]; done) | (simp [sy_n, sy_ev]; omega)⟩, rfl, ⟨rfl, rfl, by first | rfl | exact (sy_n0 rfl).trans rfl | exact (sy_n0 rfl).trans (sy_n0 rfl).symm | (simp [sy_n, sy_ev]; done) | (simp [sy_n, sy_ev]; omega)⟩, rfl, ⟨rfl, rfl, by first | rfl | exact (sy_n0 rfl).trans rfl | exact (sy_n0 rfl).trans (sy_n0 rfl).symm | (simp [sy_n, sy_ev]; done) | (simp [sy_n, sy_ev]; omega)⟩, rfl, ⟨rfl, rfl, by first | rfl | exact (sy_n0 rfl).trans rfl | exact (sy_n0 rfl).trans (sy_n0 rfl).symm | (simp [sy_n, sy_ev]; done) | (simp [sy_n, sy_ev]; omega)⟩, rfl, ⟨rfl, rfl, by first | rfl | exact (sy_n0 rfl).trans rfl | exact (sy_n0 rfl).trans (sy_n0 rfl).symm | (simp [sy_n, sy_ev]; done) | (simp [sy_n, sy_ev]; omega)⟩, rfl, ⟨rfl, rfl, by first | rfl | exact (sy_n0 rfl).trans rfl | exact (sy_n0 rfl).trans (sy_n0 rfl).symm | (simp [sy_n, sy_ev]; done) | (simp [sy_n, sy_ev]; omega)⟩, rfl, ⟨rfl, rfl, by first | rfl | exact (sy_n0 rfl).trans rfl | exact (sy_n0 rfl).trans (sy_n0 rfl).symm | (simp [sy_n, sy_ev]; done) | (simp [sy_n, sy_ev]; omega)⟩, trivial⟩, trivial, trivial⟩ g2
      have f5 : sy_Fs (sy_ev [(n : Int), 0, k9, 500, 0, 0, 0, 0, 0, 0, 0, 0, 0, 0, 0, 0, 0, x5]) mid jz_F15d c3.1 := sy_b_F (m := [2, 3, 4]) (by exact aa.mem ⟨rfl, rfl, rfl, trivial⟩) jz_F15b f4
      have f6 : lg22_C1 n k9 500 0 x5 [] c3.1 := sy_b_F (m := [0, 2, 3, 4, 17]) (by exact aa.mem ⟨rfl, rfl, rfl, rfl, rfl, trivial⟩) lg22_C1b (sy_Fs_join g4 f5)
      have m4 : sy_me (sy_ev [0, s9]) lg22_c1_D c3.2 := sy_lM0_ok (G := ([], [])) sg_0 ((lw_hb l3.1).app (sy_b_m (pw := sy_ev [0, s9]) (m := [1]) (by exact aa.mem ⟨rfl, trivial⟩) jz_bKT m3.1)) (by decide +kernel)
      obtain ⟨c4, r4, f7, s4, e4⟩ := lg22_c1_m (Nat.zero_le _) l3.1.E ⟨by omega, by omega⟩ hs9 hk9 ⟨by decide, by decide⟩ ⟨by decide, by decide⟩ hx5 f6 m4
      have l4 : LN L xs n fa c4 := l3.sm s4 e4
      have t4 : (c4.2.2.2.1 : Int) = a0 + 2 ∧ (c4.2.2.2.2.1 : Int) = a1 + 2 ∧ (c4.2.2.2.2.2 : Int) = a2 + 10 := by
        rw [s4.2]
        exact m3.2
      exact ⟨c4, rr.tr r4, l4, f7, t4⟩
    · rw [hg] at hg2
      cases hg2
  · obtain ⟨c1, r1, f1, p1, k1, t1, -⟩ := ak_22 hL hF ht b0 b1 b2
    have hm1 := hn
    obtain ⟨y1, y2, y3⟩ := t1
    rw [y1, y2, y3] at k1
    have a9 : sy_me (sy_ev []) lg22_a_D c1.2 := (sy_lM0_ok (G := ([], [])) sg_0 ((lw_hb p1).app k1) (by decide +kernel)).const (by decide +kernel)
    obtain ⟨c2, r2, f2, s2, e2⟩ := lg22_a_m (Nat.zero_le _) p1.E ⟨by omega, by omega⟩ ⟨by decide, by decide⟩ hx5 f1 a9
    have p2 := p1.sm s2 e2
    obtain ⟨mid, g2, g3⟩ := sy_Fs_app (A := lg_F0c) (B := lg22_Rsd.tail) f2
    have f3 : jz_F15 0 500 0 mid c2.1 := lg_cv15 g3 rfl
    have hml := sy_Fs.len g2
    have hml : mid.length = 2 := hml
    have t2 : (c2.2.2.2.1 : Int) = a0 + 2 ∧ (c2.2.2.2.2.1 : Int) = a1 + 2 ∧ (c2.2.2.2.2.2 : Int) = a2 + 10 := by
      rw [s2.2]
      exact ⟨y1, y2, y3⟩
    obtain ⟨c5, r5, p5, f5, k5, em5⟩ := jz_n22_m (by omega) p2 ja_ko ⟨by decide, by decide⟩ f3 (k1.sm s2) t2
    obtain ⟨k9, s9, c3, r3, p3, f4, hk9, hs9, hz⟩ := lv_a2 (by omega) p5 em5 f5 k5
    have rr := r1.tr (r2.tr (r5.tr r3))
    rcases hz with ⟨hg2, m3⟩ | ⟨hg2, m3⟩
    · rw [hg] at hg2
      cases hg2
    · have l3 : LN L xs n fa c3 := LN.ofK p3 m3.1 (by decide +kernel) (by decide +kernel)
      have g4 : sy_Fs (sy_ev [(n : Int), 0, k9, 500, 0, 0, 0, 0, 0, 0, 0, 0, 0, 0, 0, 0, 0, x5]) [] lg22_C0d.tail mid := sq_Fs.ok (r := lg22_Rd) (pv := sy_ev [(n : Int), 0, 0, 500, 0, 0, 0, 0, 0, 0, 0, 0, 0, 0, 0, 0, 0, x5]) ⟨rfl, rfl, ⟨rfl, ⟨rfl, rfl, by first | rfl | exact (sy_n0 rfl).trans rfl | exact (sy_n0 rfl).trans (sy_n0 rfl).symm | (simp [sy_n, sy_ev]; done) | (simp [sy_n, sy_ev]; omega)⟩, rfl, ⟨rfl, rfl, by first | rfl | exact (sy_n0 rfl).trans rfl | exact (sy_n0 rfl).trans (sy_n0 rfl).symm | (simp [sy_n, sy_ev]; done) | (simp [sy_n, sy_ev]; omega)⟩, trivial⟩, trivial, rfl, rfl, ⟨rfl, ⟨rfl, rfl, by first | rfl | exact (sy_n0 rfl).trans rfl | exact (sy_n0 rfl).trans (sy_n0 rfl).symm | (simp [sy_n, sy_ev]; done) | (simp [sy_n, sy_ev]; omega)⟩, rfl, ⟨rfl, rfl, by first | rfl | exact (sy_n0 rfl).trans rfl | exact (sy_n0 rfl).trans (sy_n0 rfl).symm | (simp [sy_n, sy_ev]; done) | (simp [sy_n, sy_ev]; omega)⟩, rfl, ⟨rfl, rfl, by first | rfl | exact (sy_n0 rfl).trans rfl | exact (sy_n0 rfl).trans (sy_n0 rfl).symm | (simp [sy_n, sy_ev]; done) | (simp [sy_n, sy_ev]; omega)⟩, rfl, ⟨rfl, rfl, by first | rfl | exact (sy_n0 rfl).trans rfl | exact (sy_n0 rfl).trans (sy_n0 rfl).symm | (simp [sy_n, sy_ev]; done) | (simp [sy_n, sy_ev]; omega)⟩, rfl, ⟨rfl, rfl, by first | rfl | exact (sy_n0 rfl).trans rfl | exact (sy_n0 rfl).trans (sy_n0 rfl).symm | (simp [sy_n, sy_ev]; done) | (simp [sy_n, sy_ev]; omega)⟩, rfl, ⟨rfl, rfl, by first | rfl | exact (sy_n0 rfl).trans rfl | exact (sy_n0 rfl).trans (sy_n0 rfl).symm | (simp [sy_n, sy_ev]; done) | (simp [sy_n, sy_ev]; omega)⟩, rfl, ⟨rfl, rfl, by first | rfl | exact (sy_n0 rfl).trans rfl | exact (sy_n0 rfl).trans (sy_n0 rfl).symm | (simp [sy_n, sy_ev]; done) | (simp [sy_n, sy_ev]; omega)⟩, trivial⟩, trivial, trivial⟩ g2
      have f5 : sy_Fs (sy_ev [(n : Int), 0, k9, 500, 0, 0, 0, 0, 0, 0, 0, 0, 0, 0, 0, 0, 0, x5]) mid jz_F15d c3.1 := sy_b_F (m := [2, 3, 4]) (by exact aa.mem ⟨rfl, rfl, rfl, trivial⟩) jz_F15b f4
      have f6 : lg22_C0 n k9 500 0 x5 [] c3.1 := sy_b_F (m := [0, 2, 3, 4, 17]) (by exact aa.mem ⟨rfl, rfl, rfl, rfl, rfl, trivial⟩) lg22_C0b (sy_Fs_join g4 f5)
      have m4 : sy_me (sy_ev [0, s9]) lg22_c0_D c3.2 := sy_lM0_ok (G := ([], [])) sg_0 ((lw_hb l3.1).app (sy_b_m (pw := sy_ev [0, s9]) (m := [1]) (by exact aa.mem ⟨rfl, trivial⟩) jz_bKO m3.1)) (by decide +kernel)
      obtain ⟨c4, r4, f7, s4, e4⟩ := lg22_c0_m (Nat.zero_le _) l3.1.E ⟨by omega, by omega⟩ hs9 hk9 ⟨by decide, by decide⟩ ⟨by decide, by decide⟩ hx5 f6 m4
      have l4 : LN L xs n fa c4 := l3.sm s4 e4
      have t4 : (c4.2.2.2.1 : Int) = a0 + 2 ∧ (c4.2.2.2.2.1 : Int) = a1 + 2 ∧ (c4.2.2.2.2.2 : Int) = a2 + 10 := by
        rw [s4.2]
        exact m3.2
      exact ⟨c4, rr.tr r4, l4, f7, t4⟩
theorem lu_30 {L : Nat} {xs : Nat → Int32} {n : Nat} {fa : Fa} {c : MsC} {a0 a1 a2 x5 : Int} (hL : LN L xs n fa c) (hF : lg_T3 n x5 [] c.1) (ht : (c.2.2.2.1 : Int) = a0 ∧ (c.2.2.2.2.1 : Int) = a1 ∧ (c.2.2.2.2.2 : Int) = a2) (b0 : 54 ≤ a0 ∧ a0 ≤ 900000) (b1 : 0 ≤ a1 ∧ a1 ≤ 900000) (b2 : 0 ≤ a2 ∧ a2 ≤ 900000) (hx5 : 54 ≤ x5 ∧ x5 ≤ 900000) : ∃ c', rch c c' ∧ LN L xs n fa c' ∧ ((jx_gd n fa = true ∧ lg30_Z n 1 x5 [] c'.1) ∨ (jx_gd n fa = false ∧ lg30_Z n 0 x5 [] c'.1)) ∧ ((c'.2.2.2.1 : Int) = a0 + 1 ∧ (c'.2.2.2.2.1 : Int) = a1 + 1 ∧ (c'.2.2.2.2.2 : Int) = a2 + 5) := by
  have hn := hL.1.nr
  obtain ⟨c1, r1, f1, p1, k1, t1, -⟩ := ak_30 hL hF ht b0 b1 b2
  have hm1 := hn
  obtain ⟨y1, y2, y3⟩ := t1
  have hsu : sy_pv (sy_ev [0, 1, 0, 0, 0, 0, 0, 0, 0, 0, 0, 0, 0, 0, 0, 0, 0, 0, (-1), 0, (a0 + 1), (a1 + 1), (a2 + 5), 0, 0]) [(1, (0, 1, 0, 0))] = sy_ev [0, 1, 0, 0, 0, 0, 0, 0, 0, 0, 0, 0, 0, 0, 0, 0, 0, 0, (-1), 0, (a0 + 1), (a1 + 1), (a2 + 5), 0, 0] := su_id (by intro q hq; rcases List.mem_cons.mp hq with rfl | hq; exact sy_n0 rfl; cases hq)
  have a9 : sy_me (sy_ev []) lg30_a_D c1.2 := (sy_lM0_ok (G := ([], [])) (pv := sy_ev [0, 1, 0, 0, 0, 0, 0, 0, 0, 0, 0, 0, 0, 0, 0, 0, 0, 0, (-1), 0, (a0 + 1), (a1 + 1), (a2 + 5), 0, 0]) sg_0 ((lw_hb p1).app (k1.1.su hsu (by decide +kernel))) (by decide +kernel)).const (by decide +kernel)
  obtain ⟨c2, r2, f2, s2, e2⟩ := lg30_a_m (Nat.zero_le _) p1.E ⟨by omega, by omega⟩ hx5 f1 a9
  have p2 := p1.sm s2 e2
  obtain ⟨mid, g2, g3⟩ := sy_Fs_app (A := lg_F0c) (B := lg30_Rsd.tail) f2
  have f3 : jz_F15 0 500 0 mid c2.1 := lg_cv15 g3 rfl
  have hml := sy_Fs.len g2
  have hml : mid.length = 2 := hml
  have t2 : (c2.2.2.2.1 : Int) = a0 + 1 ∧ (c2.2.2.2.2.1 : Int) = a1 + 1 ∧ (c2.2.2.2.2.2 : Int) = a2 + 5 := by
    rw [s2.2]
    exact ⟨y1, y2, y3⟩
  obtain ⟨k9, s9, c3, r3, p3, f4, hk9, hs9, hz⟩ := lv_x0 (by omega) p2 f3 (mm.sm k1 s2)
  have rr := r1.tr (r2.tr r3)
  rcases hz with ⟨hg, m3⟩ | ⟨hg, m3⟩
  · have l3 : LN L xs n fa c3 := LN.ofK p3 m3.1 (by decide +kernel) (by decide +kernel)
    have g4 : sy_Fs (sy_ev [(n : Int), 0, k9, 500, 0, 0, 0, 0, 0, 0, 0, 0, 0, 0, 0, 0, 0, x5]) [] lg30_Rd mid := sy_b_F (m := [0, 3, 17]) (by exact aa.mem ⟨rfl, rfl, rfl, trivial⟩) lg30_Rb g2
    have f5 : sy_Fs (sy_ev [(n : Int), 0, k9, 500, 0, 0, 0, 0, 0, 0, 0, 0, 0, 0, 0, 0, 0, x5]) mid jz_F15d c3.1 := sy_b_F (m := [2, 3, 4]) (by exact aa.mem ⟨rfl, rfl, rfl, trivial⟩) jz_F15b f4
    have f6 : lg30_C1 n k9 500 0 x5 [] c3.1 := sy_b_F (m := [0, 2, 3, 4, 17]) (by exact aa.mem ⟨rfl, rfl, rfl, rfl, rfl, trivial⟩) lg30_C1b (sy_Fs_join g4 f5)
    have m4 : sy_me (sy_ev [0, s9]) lg30_c1_D c3.2 := sy_lM0_ok (G := ([], [])) sg_0 ((lw_hb l3.1).app (sy_b_m (pw := sy_ev [0, s9]) (m := [1]) (by exact aa.mem ⟨rfl, trivial⟩) jz_bKS m3.1)) (by decide +kernel)
    obtain ⟨c4, r4, f7, s4, e4⟩ := lg30_c1_m (Nat.zero_le _) l3.1.E ⟨by omega, by omega⟩ hs9 hk9 ⟨by decide, by decide⟩ ⟨by decide, by decide⟩ hx5 f6 m4
    have l4 : LN L xs n fa c4 := l3.sm s4 e4
    have t4 : (c4.2.2.2.1 : Int) = a0 + 1 ∧ (c4.2.2.2.2.1 : Int) = a1 + 1 ∧ (c4.2.2.2.2.2 : Int) = a2 + 5 := by
      rw [s4.2]
      exact m3.2
    exact ⟨c4, rr.tr r4, l4, Or.inl ⟨hg, f7⟩, t4⟩
  · have l3 : LN L xs n fa c3 := LN.ofK p3 m3.1 (by decide +kernel) (by decide +kernel)
    have g4 : sy_Fs (sy_ev [(n : Int), 0, k9, 500, 0, 0, 0, 0, 0, 0, 0, 0, 0, 0, 0, 0, 0, x5]) [] lg30_Rd mid := sy_b_F (m := [0, 3, 17]) (by exact aa.mem ⟨rfl, rfl, rfl, trivial⟩) lg30_Rb g2
    have f5 : sy_Fs (sy_ev [(n : Int), 0, k9, 500, 0, 0, 0, 0, 0, 0, 0, 0, 0, 0, 0, 0, 0, x5]) mid jz_F15d c3.1 := sy_b_F (m := [2, 3, 4]) (by exact aa.mem ⟨rfl, rfl, rfl, trivial⟩) jz_F15b f4
    have f6 : lg30_C0 n k9 500 0 x5 [] c3.1 := sy_b_F (m := [0, 2, 3, 4, 17]) (by exact aa.mem ⟨rfl, rfl, rfl, rfl, rfl, trivial⟩) lg30_C0b (sy_Fs_join g4 f5)
    have m4 : sy_me (sy_ev [0, s9]) lg30_c0_D c3.2 := sy_lM0_ok (G := ([], [])) sg_0 ((lw_hb l3.1).app (sy_b_m (pw := sy_ev [0, s9]) (m := [1]) (by exact aa.mem ⟨rfl, trivial⟩) jz_bKO m3.1)) (by decide +kernel)
    obtain ⟨c4, r4, f7, s4, e4⟩ := lg30_c0_m (Nat.zero_le _) l3.1.E ⟨by omega, by omega⟩ hs9 hk9 ⟨by decide, by decide⟩ ⟨by decide, by decide⟩ hx5 f6 m4
    have l4 : LN L xs n fa c4 := l3.sm s4 e4
    have t4 : (c4.2.2.2.1 : Int) = a0 + 1 ∧ (c4.2.2.2.2.1 : Int) = a1 + 1 ∧ (c4.2.2.2.2.2 : Int) = a2 + 5 := by
      rw [s4.2]
      exact m3.2
    exact ⟨c4, rr.tr r4, l4, Or.inr ⟨hg, f7⟩, t4⟩
theorem lu_31 {L : Nat} {xs : Nat → Int32} {n : Nat} {fa : Fa} {c : MsC} {a0 a1 a2 x5 : Int} (hL : LN L xs n fa c) (hF : ((jx_gd n fa = true ∧ lg30_Z n 1 x5 [] c.1) ∨ (jx_gd n fa = false ∧ lg30_Z n 0 x5 [] c.1))) (ht : (c.2.2.2.1 : Int) = a0 ∧ (c.2.2.2.2.1 : Int) = a1 ∧ (c.2.2.2.2.2 : Int) = a2) (b0 : 54 ≤ a0 ∧ a0 ≤ 900000) (b1 : 0 ≤ a1 ∧ a1 ≤ 900000) (b2 : 0 ≤ a2 ∧ a2 ≤ 900000) (hx5 : 54 ≤ x5 ∧ x5 ≤ 900000) : ∃ c', rch c c' ∧ LN L xs n fa c' ∧ ((jx_gd n fa = true ∧ lg31_Z n 1 x5 [] c'.1) ∨ (jx_gd n fa = false ∧ lg31_Z n 0 x5 [] c'.1)) ∧ ((c'.2.2.2.1 : Int) = a0 + 2 ∧ (c'.2.2.2.2.1 : Int) = a1 + 2 ∧ (c'.2.2.2.2.2 : Int) = a2 + 10) := by
  have hn := hL.1.nr
  rcases hF with ⟨hg, hF⟩ | ⟨hg, hF⟩
  · obtain ⟨c1, r1, f1, p1, k1, t1, -⟩ := ak_31 hL hF ht b0 b1 b2
    have hm1 := hn
    obtain ⟨y1, y2, y3⟩ := t1
    rw [y1, y2, y3] at k1
    have a9 : sy_me (sy_ev []) lg31_a_D c1.2 := (sy_lM0_ok (G := ([], [])) sg_0 ((lw_hb p1).app k1) (by decide +kernel)).const (by decide +kernel)
    obtain ⟨c2, r2, f2, s2, e2⟩ := lg31_a_m (Nat.zero_le _) p1.E ⟨by omega, by omega⟩ ⟨by decide, by decide⟩ hx5 f1 a9
    have p2 := p1.sm s2 e2
    obtain ⟨mid, g2, g3⟩ := sy_Fs_app (A := lg_F0c) (B := lg31_Rsd.tail) f2
    have f3 : jz_F15 0 500 0 mid c2.1 := lg_cv15 g3 rfl
    have hml := sy_Fs.len g2
    have hml : mid.length = 2 := hml
    have t2 : (c2.2.2.2.1 : Int) = a0 + 2 ∧ (c2.2.2.2.2.1 : Int) = a1 + 2 ∧ (c2.2.2.2.2.2 : Int) = a2 + 10 := by
      rw [s2.2]
      exact ⟨y1, y2, y3⟩
    obtain ⟨c5, r5, p5, f5, k5, em5⟩ := jz_n31_m (by omega) p2 jx_ko ⟨by decide, by decide⟩ f3 (k1.sm s2) t2
    obtain ⟨k9, s9, c3, r3, p3, f4, hk9, hs9, hz⟩ := lv_x1 (by omega) p5 em5 f5 k5
    have rr := r1.tr (r2.tr (r5.tr r3))
    rcases hz with ⟨hg2, m3⟩ | ⟨hg2, m3⟩
    · have l3 : LN L xs n fa c3 := LN.ofK p3 m3.1 (by decide +kernel) (by decide +kernel)
      have g4 : sy_Fs (sy_ev [(n : Int), 0, k9, 500, 0, 0, 0, 0, 0, 0, 0, 0, 0, 0, 0, 0, 0, x5]) [] lg31_C1d.tail mid := sq_Fs.ok (r := lg31_Rd) (pv := sy_ev [(n : Int), 0, 0, 500, 0, 0, 1, 0, 0, 0, 0, 0, 0, 0, 0, 0, 0, x5]) ⟨rfl, rfl, ⟨rfl, ⟨rfl, rfl, by first | rfl | exact (sy_n0 rfl).trans rfl | exact (sy_n0 rfl).trans (sy_n0 rfl).symm | (simp [sy_n, sy_ev]; done) | (simp [sy_n, sy_ev]; omega)⟩, rfl, ⟨rfl, rfl, by first | rfl | exact (sy_n0 rfl).trans rfl | exact (sy_n0 rfl).trans (sy_n0 rfl).symm | (simp [sy_n, sy_ev]; done) | (simp [sy_n, sy_ev]; omega)⟩, trivial⟩, trivial, rfl, rfl, ⟨rfl, ⟨rfl, rfl, by first | rfl | exact (sy_n0 rfl).trans rfl | exact (sy_n0 rfl).trans (sy_n0 rfl).symm | (simp [sy_n, sy_ev]; done) | (simp [sy_n, sy_ev]; omega)⟩, rfl, ⟨rfl, rfl, by first | rfl | exact (sy_n0 rfl).trans rfl | exact (sy_n0 rfl).trans (sy_n0 rfl).symm | (simp [sy_n, sy_ev]; done) | (simp [sy_n, sy_ev]; omega)⟩, rfl, ⟨rfl, rfl, by first | rfl | exact (sy_n0 rfl).trans rfl | exact (sy_n0 rfl).trans (sy_n0 rfl).symm | (simp [sy_n, sy_ev]; done) | (simp [sy_n, sy_ev]; omega)⟩, rfl, ⟨rfl, rfl, by first | rfl | exact (sy_n0 rfl).trans rfl | exact (sy_n0 rfl).trans (sy_n0 rfl).symm | (simp [sy_n, sy_ev]; done) | (simp [sy_n, sy_ev]; omega)⟩, rfl, ⟨rfl, rfl, by first | rfl | exact (sy_n0 rfl).trans rfl | exact (sy_n0 rfl).trans (sy_n0 rfl).symm | (simp [sy_n, sy_ev]; done) | (simp [sy_n, sy_ev]; omega)⟩, rfl, ⟨rfl, rfl, by first | rfl | exact (sy_n0 rfl).trans rfl | exact (sy_n0 rfl).trans (sy_n0 rfl).symm | (simp [sy_n, sy_ev]; done) | (simp [sy_n, sy_ev]; omega)⟩, rfl, ⟨rfl, rfl, by first | rfl | exact (sy_n0 rfl).trans rfl | exact (sy_n0 rfl).trans (sy_n0 rfl).symm | (simp [sy_n, sy_ev]; done) | (simp [sy_n, sy_ev]; omega)⟩, trivial⟩, trivial, trivial⟩ g2
      have f5 : sy_Fs (sy_ev [(n : Int), 0, k9, 500, 0, 0, 0, 0, 0, 0, 0, 0, 0, 0, 0, 0, 0, x5]) mid jz_F15d c3.1 := sy_b_F (m := [2, 3, 4]) (by exact aa.mem ⟨rfl, rfl, rfl, trivial⟩) jz_F15b f4
      have f6 : lg31_C1 n k9 500 0 x5 [] c3.1 := sy_b_F (m := [0, 2, 3, 4, 17]) (by exact aa.mem ⟨rfl, rfl, rfl, rfl, rfl, trivial⟩) lg31_C1b (sy_Fs_join g4 f5)
      have m4 : sy_me (sy_ev [0, s9]) lg31_c1_D c3.2 := sy_lM0_ok (G := ([], [])) sg_0 ((lw_hb l3.1).app (sy_b_m (pw := sy_ev [0, s9]) (m := [1]) (by exact aa.mem ⟨rfl, trivial⟩) jz_bKO m3.1)) (by decide +kernel)
      obtain ⟨c4, r4, f7, s4, e4⟩ := lg31_c1_m (Nat.zero_le _) l3.1.E ⟨by omega, by omega⟩ hs9 hk9 ⟨by decide, by decide⟩ ⟨by decide, by decide⟩ hx5 f6 m4
      have l4 : LN L xs n fa c4 := l3.sm s4 e4
      have t4 : (c4.2.2.2.1 : Int) = a0 + 2 ∧ (c4.2.2.2.2.1 : Int) = a1 + 2 ∧ (c4.2.2.2.2.2 : Int) = a2 + 10 := by
        rw [s4.2]
        exact m3.2
      exact ⟨c4, rr.tr r4, l4, Or.inl ⟨hg, f7⟩, t4⟩
    · rw [hg] at hg2
      cases hg2
  · obtain ⟨c1, r1, f1, p1, k1, t1, -⟩ := ak_31 hL hF ht b0 b1 b2
    have hm1 := hn
    obtain ⟨y1, y2, y3⟩ := t1
    rw [y1, y2, y3] at k1
    have a9 : sy_me (sy_ev []) lg31_a_D c1.2 := (sy_lM0_ok (G := ([], [])) sg_0 ((lw_hb p1).app k1) (by decide +kernel)).const (by decide +kernel)
    obtain ⟨c2, r2, f2, s2, e2⟩ := lg31_a_m (Nat.zero_le _) p1.E ⟨by omega, by omega⟩ ⟨by decide, by decide⟩ hx5 f1 a9
    have p2 := p1.sm s2 e2
    obtain ⟨mid, g2, g3⟩ := sy_Fs_app (A := lg_F0c) (B := lg31_Rsd.tail) f2
    have f3 : jz_F15 0 500 0 mid c2.1 := lg_cv15 g3 rfl
    have hml := sy_Fs.len g2
    have hml : mid.length = 2 := hml
    have t2 : (c2.2.2.2.1 : Int) = a0 + 2 ∧ (c2.2.2.2.2.1 : Int) = a1 + 2 ∧ (c2.2.2.2.2.2 : Int) = a2 + 10 := by
      rw [s2.2]
      exact ⟨y1, y2, y3⟩
    obtain ⟨c5, r5, p5, f5, k5, em5⟩ := jz_n31_m (by omega) p2 jx_ko ⟨by decide, by decide⟩ f3 (k1.sm s2) t2
    obtain ⟨k9, s9, c3, r3, p3, f4, hk9, hs9, hz⟩ := lv_x1 (by omega) p5 em5 f5 k5
    have rr := r1.tr (r2.tr (r5.tr r3))
    rcases hz with ⟨hg2, m3⟩ | ⟨hg2, m3⟩
    · rw [hg] at hg2
      cases hg2
    · have l3 : LN L xs n fa c3 := LN.ofK p3 m3.1 (by decide +kernel) (by decide +kernel)
      have g4 : sy_Fs (sy_ev [(n : Int), 0, k9, 500, 0, 0, 0, 0, 0, 0, 0, 0, 0, 0, 0, 0, 0, x5]) [] lg31_C0d.tail mid := sq_Fs.ok (r := lg31_Rd) (pv := sy_ev [(n : Int), 0, 0, 500, 0, 0, 0, 0, 0, 0, 0, 0, 0, 0, 0, 0, 0, x5]) ⟨rfl, rfl, ⟨rfl, ⟨rfl, rfl, by first | rfl | exact (sy_n0 rfl).trans rfl | exact (sy_n0 rfl).trans (sy_n0 rfl).symm | (simp [sy_n, sy_ev]; done) | (simp [sy_n, sy_ev]; omega)⟩, rfl, ⟨rfl, rfl, by first | rfl | exact (sy_n0 rfl).trans rfl | exact (sy_n0 rfl).trans (sy_n0 rfl).symm | (simp [sy_n, sy_ev]; done) | (simp [sy_n, sy_ev]; omega)⟩, trivial⟩, trivial, rfl, rfl, ⟨rfl, ⟨rfl, rfl, by first | rfl | exact (sy_n0 rfl).trans rfl | exact (sy_n0 rfl).trans (sy_n0 rfl).symm | (simp [sy_n, sy_ev]; done) | (simp [sy_n, sy_ev]; omega)⟩, rfl, ⟨rfl, rfl, by first | rfl | exact (sy_n0 rfl).trans rfl | exact (sy_n0 rfl).trans (sy_n0 rfl).symm | (simp [sy_n, sy_ev]; done) | (simp [sy_n, sy_ev]; omega)⟩, rfl, ⟨rfl, rfl, by first | rfl | exact (sy_n0 rfl).trans rfl | exact (sy_n0 rfl).trans (sy_n0 rfl).symm | (simp [sy_n, sy_ev]; done) | (simp [sy_n, sy_ev]; omega)⟩, rfl, ⟨rfl, rfl, by first | rfl | exact (sy_n0 rfl).trans rfl | exact (sy_n0 rfl).trans (sy_n0 rfl).symm | (simp [sy_n, sy_ev]; done) | (simp [sy_n, sy_ev]; omega)⟩, rfl, ⟨rfl, rfl, by first | rfl | exact (sy_n0 rfl).trans rfl | exact (sy_n0 rfl).trans (sy_n0 rfl).symm | (simp [sy_n, sy_ev]; done) | (simp [sy_n, sy_ev]; omega)⟩, rfl, ⟨rfl, rfl, by first | rfl | exact (sy_n0 rfl).trans rfl | exact (sy_n0 rfl).trans (sy_n0 rfl).symm | (simp [sy_n, sy_ev]; done) | (simp [sy_n, sy_ev]; omega)⟩, rfl, ⟨rfl, rfl, by first | rfl | exact (sy_n0 rfl).trans rfl | exact (sy_n0 rfl).trans (sy_n0 rfl).symm | (simp [sy_n, sy_ev]; done) | (simp [sy_n, sy_ev]; omega)⟩, trivial⟩, trivial, trivial⟩ g2
      have f5 : sy_Fs (sy_ev [(n : Int), 0, k9, 500, 0, 0, 0, 0, 0, 0, 0, 0, 0, 0, 0, 0, 0, x5]) mid jz_F15d c3.1 := sy_b_F (m := [2, 3, 4]) (by exact aa.mem ⟨rfl, rfl, rfl, trivial⟩) jz_F15b f4
      have f6 : lg31_C0 n k9 500 0 x5 [] c3.1 := sy_b_F (m := [0, 2, 3, 4, 17]) (by exact aa.mem ⟨rfl, rfl, rfl, rfl, rfl, trivial⟩) lg31_C0b (sy_Fs_join g4 f5)
      have m4 : sy_me (sy_ev [0, s9]) lg31_c0_D c3.2 := sy_lM0_ok (G := ([], [])) sg_0 ((lw_hb l3.1).app (sy_b_m (pw := sy_ev [0, s9]) (m := [1]) (by exact aa.mem ⟨rfl, trivial⟩) jz_bKT m3.1)) (by decide +kernel)
      obtain ⟨c4, r4, f7, m5, t5, e4, ch4⟩ := lg31_c0_m (Nat.zero_le _) l3.1.E ⟨by omega, by omega⟩ hs9 hk9 ⟨by decide, by decide⟩ ⟨by decide, by decide⟩ hx5 f6 m4 m3.2
      have l4 : LN L xs n fa c4 := l3.st e4 ch4 (by decide +kernel) m5 (by decide +kernel)
      have t4 := t5
      exact ⟨c4, rr.tr r4, l4, Or.inr ⟨hg, f7⟩, t4⟩
theorem lu_32 {L : Nat} {xs : Nat → Int32} {n : Nat} {fa : Fa} {c : MsC} {a0 a1 a2 x5 : Int} (hL : LN L xs n fa c) (hF : ((jx_gd n fa = true ∧ lg31_Z n 1 x5 [] c.1) ∨ (jx_gd n fa = false ∧ lg31_Z n 0 x5 [] c.1))) (ht : (c.2.2.2.1 : Int) = a0 ∧ (c.2.2.2.2.1 : Int) = a1 ∧ (c.2.2.2.2.2 : Int) = a2) (b0 : 54 ≤ a0 ∧ a0 ≤ 900000) (b1 : 0 ≤ a1 ∧ a1 ≤ 900000) (b2 : 0 ≤ a2 ∧ a2 ≤ 900000) (hx5 : 54 ≤ x5 ∧ x5 ≤ 900000) : ∃ c', rch c c' ∧ LN L xs n fa c' ∧ (lg32_Z [] c'.1) ∧ ((c'.2.2.2.1 : Int) = a0 + 2 ∧ (c'.2.2.2.2.1 : Int) = a1 + 2 ∧ (c'.2.2.2.2.2 : Int) = a2 + 10) := by
  have hn := hL.1.nr
  rcases hF with ⟨hg, hF⟩ | ⟨hg, hF⟩
  · obtain ⟨c1, r1, f1, p1, k1, t1, -⟩ := ak_32 hL hF ht b0 b1 b2
    have hm1 := hn
    obtain ⟨y1, y2, y3⟩ := t1
    rw [y1, y2, y3] at k1
    have a9 : sy_me (sy_ev []) lg32_a_D c1.2 := (sy_lM0_ok (G := ([], [])) sg_0 ((lw_hb p1).app k1) (by decide +kernel)).const (by decide +kernel)
    obtain ⟨c2, r2, f2, s2, e2⟩ := lg32_a_m (Nat.zero_le _) p1.E ⟨by omega, by omega⟩ ⟨by decide, by decide⟩ hx5 f1 a9
    have p2 := p1.sm s2 e2
    obtain ⟨mid, g2, g3⟩ := sy_Fs_app (A := lg_F0c) (B := lg32_Rsd.tail) f2
    have f3 : jz_F15 0 500 0 mid c2.1 := lg_cv15 g3 rfl
    have hml := sy_Fs.len g2
    have hml : mid.length = 2 := hml
    have t2 : (c2.2.2.2.1 : Int) = a0 + 2 ∧ (c2.2.2.2.2.1 : Int) = a1 + 2 ∧ (c2.2.2.2.2.2 : Int) = a2 + 10 := by
      rw [s2.2]
      exact ⟨y1, y2, y3⟩
    obtain ⟨c5, r5, p5, f5, k5, em5⟩ := jz_n32_m (by omega) p2 jx_ko ⟨by decide, by decide⟩ f3 (k1.sm s2) t2
    obtain ⟨k9, s9, c3, r3, p3, f4, hk9, hs9, hz⟩ := lv_x2 (by omega) p5 em5 f5 k5
    have rr := r1.tr (r2.tr (r5.tr r3))
    rcases hz with ⟨hg2, m3⟩ | ⟨hg2, m3⟩
    · have l3 : LN L xs n fa c3 := LN.ofK p3 m3.1 (by decide +kernel) (by decide +kernel)
      have g4 : sy_Fs (sy_ev [(n : Int), 0, k9, 500, 0, 0, 0, 0, 0, 0, 0, 0, 0, 0, 0, 0, 0, x5]) [] lg32_C1d.tail mid := sq_Fs.ok (r := lg32_Rd) (pv := sy_ev [(n : Int), 0, 0, 500, 0, 0, 1, 0, 0, 0, 0, 0, 0, 0, 0, 0, 0, x5]) ⟨rfl, rfl, ⟨rfl, ⟨rfl, rfl, by first | rfl | exact (sy_n0 rfl).trans rfl | exact (sy_n0 rfl).trans (sy_n0 rfl).symm | (simp [sy_n, sy_ev]; done) | (simp [sy_n, sy_ev]; omega)⟩, rfl, ⟨rfl, rfl, by first | rfl | exact (sy_n0 rfl).trans rfl | exact (sy_n0 rfl).trans (sy_n0 rfl).symm | (simp [sy_n, sy_ev]; done) | (simp [sy_n, sy_ev]; omega)⟩, trivial⟩, trivial, rfl, rfl, ⟨rfl, ⟨rfl, rfl, by first | rfl | exact (sy_n0 rfl).trans rfl | exact (sy_n0 rfl).trans (sy_n0 rfl).symm | (simp [sy_n, sy_ev]; done) | (simp [sy_n, sy_ev]; omega)⟩, rfl, ⟨rfl, rfl, by first | rfl | exact (sy_n0 rfl).trans rfl | exact (sy_n0 rfl).trans (sy_n0 rfl).symm | (simp [sy_n, sy_ev]; done) | (simp [sy_n, sy_ev]; omega)⟩, rfl, ⟨rfl, rfl, by first | rfl | exact (sy_n0 rfl).trans rfl | exact (sy_n0 rfl).trans (sy_n0 rfl).symm | (simp [sy_n, sy_ev]; done) | (simp [sy_n, sy_ev]; omega)⟩, rfl, ⟨rfl, rfl, by first | rfl | exact (sy_n0 rfl).trans rfl | exact (sy_n0 rfl).trans (sy_n0 rfl).symm | (simp [sy_n, sy_ev]; done) | (simp [sy_n, sy_ev]; omega)⟩, rfl, ⟨rfl, rfl, by first | rfl | exact (sy_n0 rfl).trans rfl | exact (sy_n0 rfl).trans (sy_n0 rfl).symm | (simp [sy_n, sy_ev]; done) | (simp [sy_n, sy_ev]; omega)⟩, rfl, ⟨rfl, rfl, by first | rfl | exact (sy_n0 rfl).trans rfl | exact (sy_n0 rfl).trans (sy_n0 rfl).symm | (simp [sy_n, sy_ev]; done) | (simp [sy_n, sy_ev]; omega)⟩, rfl, ⟨rfl, rfl, by first | rfl | exact (sy_n0 rfl).trans rfl | exact (sy_n0 rfl).trans (sy_n0 rfl).symm | (simp [sy_n, sy_ev]; done) | (simp [sy_n, sy_ev]; omega)⟩, trivial⟩, trivial, trivial⟩ g2
      have f5 : sy_Fs (sy_ev [(n : Int), 0, k9, 500, 0, 0, 0, 0, 0, 0, 0, 0, 0, 0, 0, 0, 0, x5]) mid jz_F15d c3.1 := sy_b_F (m := [2, 3, 4]) (by exact aa.mem ⟨rfl, rfl, rfl, trivial⟩) jz_F15b f4
      have f6 : lg32_C1 n k9 500 0 x5 [] c3.1 := sy_b_F (m := [0, 2, 3, 4, 17]) (by exact aa.mem ⟨rfl, rfl, rfl, rfl, rfl, trivial⟩) lg32_C1b (sy_Fs_join g4 f5)
      have m4 : sy_me (sy_ev [0, s9]) lg32_c1_D c3.2 := sy_lM0_ok (G := ([], [])) sg_0 ((lw_hb l3.1).app (sy_b_m (pw := sy_ev [0, s9]) (m := [1]) (by exact aa.mem ⟨rfl, trivial⟩) jz_bKT m3.1)) (by decide +kernel)
      obtain ⟨c4, r4, f7, s4, e4⟩ := lg32_c1_m (Nat.zero_le _) l3.1.E ⟨by omega, by omega⟩ hs9 hk9 ⟨by decide, by decide⟩ ⟨by decide, by decide⟩ hx5 f6 m4
      have l4 : LN L xs n fa c4 := l3.sm s4 e4
      have t4 : (c4.2.2.2.1 : Int) = a0 + 2 ∧ (c4.2.2.2.2.1 : Int) = a1 + 2 ∧ (c4.2.2.2.2.2 : Int) = a2 + 10 := by
        rw [s4.2]
        exact m3.2
      exact ⟨c4, rr.tr r4, l4, f7, t4⟩
    · rw [hg] at hg2
      cases hg2
  · obtain ⟨c1, r1, f1, p1, k1, t1, -⟩ := ak_32 hL hF ht b0 b1 b2
    have hm1 := hn
    obtain ⟨y1, y2, y3⟩ := t1
    rw [y1, y2, y3] at k1
    have a9 : sy_me (sy_ev []) lg32_a_D c1.2 := (sy_lM0_ok (G := ([], [])) sg_0 ((lw_hb p1).app k1) (by decide +kernel)).const (by decide +kernel)
    obtain ⟨c2, r2, f2, s2, e2⟩ := lg32_a_m (Nat.zero_le _) p1.E ⟨by omega, by omega⟩ ⟨by decide, by decide⟩ hx5 f1 a9
    have p2 := p1.sm s2 e2
    obtain ⟨mid, g2, g3⟩ := sy_Fs_app (A := lg_F0c) (B := lg32_Rsd.tail) f2
    have f3 : jz_F15 0 500 0 mid c2.1 := lg_cv15 g3 rfl
    have hml := sy_Fs.len g2
    have hml : mid.length = 2 := hml
    have t2 : (c2.2.2.2.1 : Int) = a0 + 2 ∧ (c2.2.2.2.2.1 : Int) = a1 + 2 ∧ (c2.2.2.2.2.2 : Int) = a2 + 10 := by
      rw [s2.2]
      exact ⟨y1, y2, y3⟩
    obtain ⟨c5, r5, p5, f5, k5, em5⟩ := jz_n32_m (by omega) p2 jx_ko ⟨by decide, by decide⟩ f3 (k1.sm s2) t2
    obtain ⟨k9, s9, c3, r3, p3, f4, hk9, hs9, hz⟩ := lv_x2 (by omega) p5 em5 f5 k5
    have rr := r1.tr (r2.tr (r5.tr r3))
    rcases hz with ⟨hg2, m3⟩ | ⟨hg2, m3⟩
    · rw [hg] at hg2
      cases hg2
    · have l3 : LN L xs n fa c3 := LN.ofK p3 m3.1 (by decide +kernel) (by decide +kernel)
      have g4 : sy_Fs (sy_ev [(n : Int), 0, k9, 500, 0, 0, 0, 0, 0, 0, 0, 0, 0, 0, 0, 0, 0, x5]) [] lg32_C0d.tail mid := sq_Fs.ok (r := lg32_Rd) (pv := sy_ev [(n : Int), 0, 0, 500, 0, 0, 0, 0, 0, 0, 0, 0, 0, 0, 0, 0, 0, x5]) ⟨rfl, rfl, ⟨rfl, ⟨rfl, rfl, by first | rfl | exact (sy_n0 rfl).trans rfl | exact (sy_n0 rfl).trans (sy_n0 rfl).symm | (simp [sy_n, sy_ev]; done) | (simp [sy_n, sy_ev]; omega)⟩, rfl, ⟨rfl, rfl, by first | rfl | exact (sy_n0 rfl).trans rfl | exact (sy_n0 rfl).trans (sy_n0 rfl).symm | (simp [sy_n, sy_ev]; done) | (simp [sy_n, sy_ev]; omega)⟩, trivial⟩, trivial, rfl, rfl, ⟨rfl, ⟨rfl, rfl, by first | rfl | exact (sy_n0 rfl).trans rfl | exact (sy_n0 rfl).trans (sy_n0 rfl).symm | (simp [sy_n, sy_ev]; done) | (simp [sy_n, sy_ev]; omega)⟩, rfl, ⟨rfl, rfl, by first | rfl | exact (sy_n0 rfl).trans rfl | exact (sy_n0 rfl).trans (sy_n0 rfl).symm | (simp [sy_n, sy_ev]; done) | (simp [sy_n, sy_ev]; omega)⟩, rfl, ⟨rfl, rfl, by first | rfl | exact (sy_n0 rfl).trans rfl | exact (sy_n0 rfl).trans (sy_n0 rfl).symm | (simp [sy_n, sy_ev]; done) | (simp [sy_n, sy_ev]; omega)⟩, rfl, ⟨rfl, rfl, by first | rfl | exact (sy_n0 rfl).trans rfl | exact (sy_n0 rfl).trans (sy_n0 rfl).symm | (simp [sy_n, sy_ev]; done) | (simp [sy_n, sy_ev]; omega)⟩, rfl, ⟨rfl, rfl, by first | rfl | exact (sy_n0 rfl).trans rfl | exact (sy_n0 rfl).trans (sy_n0 rfl).symm | (simp [sy_n, sy_ev]; done) | (simp [sy_n, sy_ev]; omega)⟩, rfl, ⟨rfl, rfl, by first | rfl | exact (sy_n0 rfl).trans rfl | exact (sy_n0 rfl).trans (sy_n0 rfl).symm | (simp [sy_n, sy_ev]; done) | (simp [sy_n, sy_ev]; omega)⟩, rfl, ⟨rfl, rfl, by first | rfl | exact (sy_n0 rfl).trans rfl | exact (sy_n0 rfl).trans (sy_n0 rfl).symm | (simp [sy_n, sy_ev]; done) | (simp [sy_n, sy_ev]; omega)⟩, trivial⟩, trivial, trivial⟩ g2
      have f5 : sy_Fs (sy_ev [(n : Int), 0, k9, 500, 0, 0, 0, 0, 0, 0, 0, 0, 0, 0, 0, 0, 0, x5]) mid jz_F15d c3.1 := sy_b_F (m := [2, 3, 4]) (by exact aa.mem ⟨rfl, rfl, rfl, trivial⟩) jz_F15b f4
      have f6 : lg32_C0 n k9 500 0 x5 [] c3.1 := sy_b_F (m := [0, 2, 3, 4, 17]) (by exact aa.mem ⟨rfl, rfl, rfl, rfl, rfl, trivial⟩) lg32_C0b (sy_Fs_join g4 f5)
      have m4 : sy_me (sy_ev [0, s9]) lg32_c0_D c3.2 := sy_lM0_ok (G := ([], [])) sg_0 ((lw_hb l3.1).app (sy_b_m (pw := sy_ev [0, s9]) (m := [1]) (by exact aa.mem ⟨rfl, trivial⟩) jz_bKO m3.1)) (by decide +kernel)
      obtain ⟨c4, r4, f7, s4, e4⟩ := lg32_c0_m (Nat.zero_le _) l3.1.E ⟨by omega, by omega⟩ hs9 hk9 ⟨by decide, by decide⟩ ⟨by decide, by decide⟩ hx5 f6 m4
      have l4 : LN L xs n fa c4 := l3.sm s4 e4
      have t4 : (c4.2.2.2.1 : Int) = a0 + 2 ∧ (c4.2.2.2.2.1 : Int) = a1 + 2 ∧ (c4.2.2.2.2.2 : Int) = a2 + 10 := by
        rw [s4.2]
        exact m3.2
      exact ⟨c4, rr.tr r4, l4, f7, t4⟩
theorem lu_40 {L : Nat} {xs : Nat → Int32} {n : Nat} {fa : Fa} {c : MsC} {a0 a1 a2 x5 : Int} (hL : LN L xs n fa c) (hF : lg_T4 n x5 [] c.1) (ht : (c.2.2.2.1 : Int) = a0 ∧ (c.2.2.2.2.1 : Int) = a1 ∧ (c.2.2.2.2.2 : Int) = a2) (b0 : 54 ≤ a0 ∧ a0 ≤ 900000) (b1 : 0 ≤ a1 ∧ a1 ≤ 900000) (b2 : 0 ≤ a2 ∧ a2 ≤ 900000) (hx5 : 54 ≤ x5 ∧ x5 ≤ 900000) : ∃ c', rch c c' ∧ LN L xs n fa c' ∧ ((jb_gd n fa = true ∧ lg40_Z n 1 x5 [] c'.1) ∨ (jb_gd n fa = false ∧ lg40_Z n 0 x5 [] c'.1)) ∧ ((c'.2.2.2.1 : Int) = a0 + 1 ∧ (c'.2.2.2.2.1 : Int) = a1 + 1 ∧ (c'.2.2.2.2.2 : Int) = a2 + 5) := by
  have hn := hL.1.nr
  obtain ⟨c1, r1, f1, p1, k1, t1, -⟩ := ak_40 hL hF ht b0 b1 b2
  have hm1 := hn
  obtain ⟨y1, y2, y3⟩ := t1
  have hsu : sy_pv (sy_ev [0, 0, 0, 0, 0, 0, 0, 0, 0, 0, 0, 0, 0, 0, 0, 0, 0, 0, (-1), 0, (a0 + 1), (a1 + 1), (a2 + 5), 0, 0, 1]) [(25, (0, 1, 0, 0))] = sy_ev [0, 0, 0, 0, 0, 0, 0, 0, 0, 0, 0, 0, 0, 0, 0, 0, 0, 0, (-1), 0, (a0 + 1), (a1 + 1), (a2 + 5), 0, 0, 1] := su_id (by intro q hq; rcases List.mem_cons.mp hq with rfl | hq; exact sy_n0 rfl; cases hq)
  have a9 : sy_me (sy_ev []) lg40_a_D c1.2 := (sy_lM0_ok (G := ([], [])) (pv := sy_ev [0, 0, 0, 0, 0, 0, 0, 0, 0, 0, 0, 0, 0, 0, 0, 0, 0, 0, (-1), 0, (a0 + 1), (a1 + 1), (a2 + 5), 0, 0, 1]) sg_0 ((lw_hb p1).app (k1.1.su hsu (by decide +kernel))) (by decide +kernel)).const (by decide +kernel)
  obtain ⟨c2, r2, f2, s2, e2⟩ := lg40_a_m (Nat.zero_le _) p1.E ⟨by omega, by omega⟩ hx5 f1 a9
  have p2 := p1.sm s2 e2
  obtain ⟨mid, g2, g3⟩ := sy_Fs_app (A := lg_F0c) (B := lg40_Rsd.tail) f2
  have f3 : jz_F15 0 500 0 mid c2.1 := lg_cv15 g3 rfl
  have hml := sy_Fs.len g2
  have hml : mid.length = 2 := hml
  have t2 : (c2.2.2.2.1 : Int) = a0 + 1 ∧ (c2.2.2.2.2.1 : Int) = a1 + 1 ∧ (c2.2.2.2.2.2 : Int) = a2 + 5 := by
    rw [s2.2]
    exact ⟨y1, y2, y3⟩
  obtain ⟨k9, s9, c3, r3, p3, f4, hk9, hs9, hz⟩ := lv_b0 (by omega) p2 f3 (mm.sm k1 s2)
  have rr := r1.tr (r2.tr r3)
  rcases hz with ⟨hg, m3⟩ | ⟨hg, m3⟩
  · have l3 : LN L xs n fa c3 := LN.ofK p3 m3.1 (by decide +kernel) (by decide +kernel)
    have g4 : sy_Fs (sy_ev [(n : Int), 0, k9, 500, 0, 0, 0, 0, 0, 0, 0, 0, 0, 0, 0, 0, 0, x5]) [] lg40_Rd mid := sy_b_F (m := [0, 3, 17]) (by exact aa.mem ⟨rfl, rfl, rfl, trivial⟩) lg40_Rb g2
    have f5 : sy_Fs (sy_ev [(n : Int), 0, k9, 500, 0, 0, 0, 0, 0, 0, 0, 0, 0, 0, 0, 0, 0, x5]) mid jz_F15d c3.1 := sy_b_F (m := [2, 3, 4]) (by exact aa.mem ⟨rfl, rfl, rfl, trivial⟩) jz_F15b f4
    have f6 : lg40_C1 n k9 500 0 x5 [] c3.1 := sy_b_F (m := [0, 2, 3, 4, 17]) (by exact aa.mem ⟨rfl, rfl, rfl, rfl, rfl, trivial⟩) lg40_C1b (sy_Fs_join g4 f5)
    have m4 : sy_me (sy_ev [0, s9]) lg40_c1_D c3.2 := sy_lM0_ok (G := ([], [])) sg_0 ((lw_hb l3.1).app (sy_b_m (pw := sy_ev [0, s9]) (m := [1]) (by exact aa.mem ⟨rfl, trivial⟩) jz_bKS m3.1)) (by decide +kernel)
    obtain ⟨c4, r4, f7, s4, e4⟩ := lg40_c1_m (Nat.zero_le _) l3.1.E ⟨by omega, by omega⟩ hs9 hk9 ⟨by decide, by decide⟩ ⟨by decide, by decide⟩ hx5 f6 m4
    have l4 : LN L xs n fa c4 := l3.sm s4 e4
    have t4 : (c4.2.2.2.1 : Int) = a0 + 1 ∧ (c4.2.2.2.2.1 : Int) = a1 + 1 ∧ (c4.2.2.2.2.2 : Int) = a2 + 5 := by
      rw [s4.2]
      exact m3.2
    exact ⟨c4, rr.tr r4, l4, Or.inl ⟨hg, f7⟩, t4⟩
  · have l3 : LN L xs n fa c3 := LN.ofK p3 m3.1 (by decide +kernel) (by decide +kernel)
    have g4 : sy_Fs (sy_ev [(n : Int), 0, k9, 500, 0, 0, 0, 0, 0, 0, 0, 0, 0, 0, 0, 0, 0, x5]) [] lg40_Rd mid := sy_b_F (m := [0, 3, 17]) (by exact aa.mem ⟨rfl, rfl, rfl, trivial⟩) lg40_Rb g2
    have f5 : sy_Fs (sy_ev [(n : Int), 0, k9, 500, 0, 0, 0, 0, 0, 0, 0, 0, 0, 0, 0, 0, 0, x5]) mid jz_F15d c3.1 := sy_b_F (m := [2, 3, 4]) (by exact aa.mem ⟨rfl, rfl, rfl, trivial⟩) jz_F15b f4
    have f6 : lg40_C0 n k9 500 0 x5 [] c3.1 := sy_b_F (m := [0, 2, 3, 4, 17]) (by exact aa.mem ⟨rfl, rfl, rfl, rfl, rfl, trivial⟩) lg40_C0b (sy_Fs_join g4 f5)
    have m4 : sy_me (sy_ev [0, s9]) lg40_c0_D c3.2 := sy_lM0_ok (G := ([], [])) sg_0 ((lw_hb l3.1).app (sy_b_m (pw := sy_ev [0, s9]) (m := [1]) (by exact aa.mem ⟨rfl, trivial⟩) jz_bKO m3.1)) (by decide +kernel)
    obtain ⟨c4, r4, f7, s4, e4⟩ := lg40_c0_m (Nat.zero_le _) l3.1.E ⟨by omega, by omega⟩ hs9 hk9 ⟨by decide, by decide⟩ ⟨by decide, by decide⟩ hx5 f6 m4
    have l4 : LN L xs n fa c4 := l3.sm s4 e4
    have t4 : (c4.2.2.2.1 : Int) = a0 + 1 ∧ (c4.2.2.2.2.1 : Int) = a1 + 1 ∧ (c4.2.2.2.2.2 : Int) = a2 + 5 := by
      rw [s4.2]
      exact m3.2
    exact ⟨c4, rr.tr r4, l4, Or.inr ⟨hg, f7⟩, t4⟩
theorem lu_41 {L : Nat} {xs : Nat → Int32} {n : Nat} {fa : Fa} {c : MsC} {a0 a1 a2 x5 : Int} (hL : LN L xs n fa c) (hF : ((jb_gd n fa = true ∧ lg40_Z n 1 x5 [] c.1) ∨ (jb_gd n fa = false ∧ lg40_Z n 0 x5 [] c.1))) (ht : (c.2.2.2.1 : Int) = a0 ∧ (c.2.2.2.2.1 : Int) = a1 ∧ (c.2.2.2.2.2 : Int) = a2) (b0 : 54 ≤ a0 ∧ a0 ≤ 900000) (b1 : 0 ≤ a1 ∧ a1 ≤ 900000) (b2 : 0 ≤ a2 ∧ a2 ≤ 900000) (hx5 : 54 ≤ x5 ∧ x5 ≤ 900000) : ∃ c', rch c c' ∧ LN L xs n fa c' ∧ ((jb_gd n fa = true ∧ lg41_Z n 1 x5 [] c'.1) ∨ (jb_gd n fa = false ∧ lg41_Z n 0 x5 [] c'.1)) ∧ ((c'.2.2.2.1 : Int) = a0 + 1 ∧ (c'.2.2.2.2.1 : Int) = a1 + 1 ∧ (c'.2.2.2.2.2 : Int) = a2 + 5) := by
  have hn := hL.1.nr
  rcases hF with ⟨hg, hF⟩ | ⟨hg, hF⟩
  · obtain ⟨c1, r1, f1, p1, k1, t1, -⟩ := ak_41 hL hF ht b0 b1 b2
    have hm1 := hn
    obtain ⟨y1, y2, y3⟩ := t1
    rw [y1, y2, y3] at k1
    have a9 : sy_me (sy_ev []) lg41_a_D c1.2 := (sy_lM0_ok (G := ([], [])) sg_0 ((lw_hb p1).app k1) (by decide +kernel)).const (by decide +kernel)
    obtain ⟨c2, r2, f2, s2, e2⟩ := lg41_a_m (Nat.zero_le _) p1.E ⟨by omega, by omega⟩ ⟨by decide, by decide⟩ hx5 f1 a9
    have p2 := p1.sm s2 e2
    obtain ⟨mid, g2, g3⟩ := sy_Fs_app (A := lg_F0c) (B := lg41_Rsd.tail) f2
    have f3 : jz_F15 0 500 0 mid c2.1 := lg_cv15 g3 rfl
    have hml := sy_Fs.len g2
    have hml : mid.length = 2 := hml
    have t2 : (c2.2.2.2.1 : Int) = a0 + 1 ∧ (c2.2.2.2.2.1 : Int) = a1 + 1 ∧ (c2.2.2.2.2.2 : Int) = a2 + 5 := by
      rw [s2.2]
      exact ⟨y1, y2, y3⟩
    obtain ⟨c5, r5, p5, f5, k5, em5⟩ := jz_n41_m (by omega) p2 jb_ko ⟨by decide, by decide⟩ f3 (k1.sm s2) t2
    obtain ⟨k9, s9, c3, r3, p3, f4, hk9, hs9, hz⟩ := lv_b1 (by omega) p5 em5 f5 k5
    have rr := r1.tr (r2.tr (r5.tr r3))
    rcases hz with ⟨hg2, m3⟩ | ⟨hg2, m3⟩
    · have l3 : LN L xs n fa c3 := LN.ofK p3 m3.1 (by decide +kernel) (by decide +kernel)
      have g4 : sy_Fs (sy_ev [(n : Int), 0, k9, 500, 0, 0, 0, 0, 0, 0, 0, 0, 0, 0, 0, 0, 0, x5]) [] lg41_C1d.tail mid := sq_Fs.ok (r := lg41_Rd) (pv := sy_ev [(n : Int), 0, 0, 500, 0, 0, 1, 0, 0, 0, 0, 0, 0, 0, 0, 0, 0, x5]) ⟨rfl, rfl, ⟨rfl, ⟨rfl, rfl, by first | rfl | exact (sy_n0 rfl).trans rfl | exact (sy_n0 rfl).trans (sy_n0 rfl).symm | (simp [sy_n, sy_ev]; done) | (simp [sy_n, sy_ev]; omega)⟩, rfl, ⟨rfl, rfl, by first | rfl | exact (sy_n0 rfl).trans rfl | exact (sy_n0 rfl).trans (sy_n0 rfl).symm | (simp [sy_n, sy_ev]; done) | (simp [sy_n, sy_ev]; omega)⟩, trivial⟩, trivial, rfl, rfl, ⟨rfl, ⟨rfl, rfl, by first | rfl | exact (sy_n0 rfl).trans rfl | exact (sy_n0 rfl).trans (sy_n0 rfl).symm | (simp [sy_n, sy_ev]; done) | (simp [sy_n, sy_ev]; omega)⟩, rfl, ⟨rfl, rfl, by first | rfl | exact (sy_n0 rfl).trans rfl | exact (sy_n0 rfl).trans (sy_n0 rfl).symm | (simp [sy_n, sy_ev]; done) | (simp [sy_n, sy_ev]; omega)⟩, rfl, ⟨rfl, rfl, by first | rfl | exact (sy_n0 rfl).trans rfl | exact (sy_n0 rfl).trans (sy_n0 rfl).symm | (simp [sy_n, sy_ev]; done) | (simp [sy_n, sy_ev]; omega)⟩, rfl, ⟨rfl, rfl, by first | rfl | exact (sy_n0 rfl).trans rfl | exact (sy_n0 rfl).trans (sy_n0 rfl).symm | (simp [sy_n, sy_ev]; done) | (simp [sy_n, sy_ev]; omega)⟩, rfl, ⟨rfl, rfl, by first | rfl | exact (sy_n0 rfl).trans rfl | exact (sy_n0 rfl).trans (sy_n0 rfl).symm | (simp [sy_n, sy_ev]; done) | (simp [sy_n, sy_ev]; omega)⟩, rfl, ⟨rfl, rfl, by first | rfl | exact (sy_n0 rfl).trans rfl | exact (sy_n0 rfl).trans (sy_n0 rfl).symm | (simp [sy_n, sy_ev]; done) | (simp [sy_n, sy_ev]; omega)⟩, rfl, ⟨rfl, rfl, by first | rfl | exact (sy_n0 rfl).trans rfl | exact (sy_n0 rfl).trans (sy_n0 rfl).symm | (simp [sy_n, sy_ev]; done) | (simp [sy_n, sy_ev]; omega)⟩, trivial⟩, trivial, trivial⟩ g2
      have f5 : sy_Fs (sy_ev [(n : Int), 0, k9, 500, 0, 0, 0, 0, 0, 0, 0, 0, 0, 0, 0, 0, 0, x5]) mid jz_F15d c3.1 := sy_b_F (m := [2, 3, 4]) (by exact aa.mem ⟨rfl, rfl, rfl, trivial⟩) jz_F15b f4
      have f6 : lg41_C1 n k9 500 0 x5 [] c3.1 := sy_b_F (m := [0, 2, 3, 4, 17]) (by exact aa.mem ⟨rfl, rfl, rfl, rfl, rfl, trivial⟩) lg41_C1b (sy_Fs_join g4 f5)
      have m4 : sy_me (sy_ev [0, s9]) lg41_c1_D c3.2 := sy_lM0_ok (G := ([], [])) sg_0 ((lw_hb l3.1).app (sy_b_m (pw := sy_ev [0, s9]) (m := [1]) (by exact aa.mem ⟨rfl, trivial⟩) jz_bKO m3.1)) (by decide +kernel)
      obtain ⟨c4, r4, f7, s4, e4⟩ := lg41_c1_m (Nat.zero_le _) l3.1.E ⟨by omega, by omega⟩ hs9 hk9 ⟨by decide, by decide⟩ ⟨by decide, by decide⟩ hx5 f6 m4
      have l4 : LN L xs n fa c4 := l3.sm s4 e4
      have t4 : (c4.2.2.2.1 : Int) = a0 + 1 ∧ (c4.2.2.2.2.1 : Int) = a1 + 1 ∧ (c4.2.2.2.2.2 : Int) = a2 + 5 := by
        rw [s4.2]
        exact m3.2
      exact ⟨c4, rr.tr r4, l4, Or.inl ⟨hg, f7⟩, t4⟩
    · rw [hg] at hg2
      cases hg2
  · obtain ⟨c1, r1, f1, p1, k1, t1, -⟩ := ak_41 hL hF ht b0 b1 b2
    have hm1 := hn
    obtain ⟨y1, y2, y3⟩ := t1
    rw [y1, y2, y3] at k1
    have a9 : sy_me (sy_ev []) lg41_a_D c1.2 := (sy_lM0_ok (G := ([], [])) sg_0 ((lw_hb p1).app k1) (by decide +kernel)).const (by decide +kernel)
    obtain ⟨c2, r2, f2, s2, e2⟩ := lg41_a_m (Nat.zero_le _) p1.E ⟨by omega, by omega⟩ ⟨by decide, by decide⟩ hx5 f1 a9
    have p2 := p1.sm s2 e2
    obtain ⟨mid, g2, g3⟩ := sy_Fs_app (A := lg_F0c) (B := lg41_Rsd.tail) f2
    have f3 : jz_F15 0 500 0 mid c2.1 := lg_cv15 g3 rfl
    have hml := sy_Fs.len g2
    have hml : mid.length = 2 := hml
    have t2 : (c2.2.2.2.1 : Int) = a0 + 1 ∧ (c2.2.2.2.2.1 : Int) = a1 + 1 ∧ (c2.2.2.2.2.2 : Int) = a2 + 5 := by
      rw [s2.2]
      exact ⟨y1, y2, y3⟩
    obtain ⟨c5, r5, p5, f5, k5, em5⟩ := jz_n41_m (by omega) p2 jb_ko ⟨by decide, by decide⟩ f3 (k1.sm s2) t2
    obtain ⟨k9, s9, c3, r3, p3, f4, hk9, hs9, hz⟩ := lv_b1 (by omega) p5 em5 f5 k5
    have rr := r1.tr (r2.tr (r5.tr r3))
    rcases hz with ⟨hg2, m3⟩ | ⟨hg2, m3⟩
    · rw [hg] at hg2
      cases hg2
    · have l3 : LN L xs n fa c3 := LN.ofK p3 m3.1 (by decide +kernel) (by decide +kernel)
      have g4 : sy_Fs (sy_ev [(n : Int), 0, k9, 500, 0, 0, 0, 0, 0, 0, 0, 0, 0, 0, 0, 0, 0, x5]) [] lg41_C0d.tail mid := sq_Fs.ok (r := lg41_Rd) (pv := sy_ev [(n : Int), 0, 0, 500, 0, 0, 0, 0, 0, 0, 0, 0, 0, 0, 0, 0, 0, x5]) ⟨rfl, rfl, ⟨rfl, ⟨rfl, rfl, by first | rfl | exact (sy_n0 rfl).trans rfl | exact (sy_n0 rfl).trans (sy_n0 rfl).symm | (simp [sy_n, sy_ev]; done) | (simp [sy_n, sy_ev]; omega)⟩, rfl, ⟨rfl, rfl, by first | rfl | exact (sy_n0 rfl).trans rfl | exact (sy_n0 rfl).trans (sy_n0 rfl).symm | (simp [sy_n, sy_ev]; done) | (simp [sy_n, sy_ev]; omega)⟩, trivial⟩, trivial, rfl, rfl, ⟨rfl, ⟨rfl, rfl, by first | rfl | exact (sy_n0 rfl).trans rfl | exact (sy_n0 rfl).trans (sy_n0 rfl).symm | (simp [sy_n, sy_ev]; done) | (simp [sy_n, sy_ev]; omega)⟩, rfl, ⟨rfl, rfl, by first | rfl | exact (sy_n0 rfl).trans rfl | exact (sy_n0 rfl).trans (sy_n0 rfl).symm | (simp [sy_n, sy_ev]; done) | (simp [sy_n, sy_ev]; omega)⟩, rfl, ⟨rfl, rfl, by first | rfl | exact (sy_n0 rfl).trans rfl | exact (sy_n0 rfl).trans (sy_n0 rfl).symm | (simp [sy_n, sy_ev]; done) | (simp [sy_n, sy_ev]; omega)⟩, rfl, ⟨rfl, rfl, by first | rfl | exact (sy_n0 rfl).trans rfl | exact (sy_n0 rfl).trans (sy_n0 rfl).symm | (simp [sy_n, sy_ev]; done) | (simp [sy_n, sy_ev]; omega)⟩, rfl, ⟨rfl, rfl, by first | rfl | exact (sy_n0 rfl).trans rfl | exact (sy_n0 rfl).trans (sy_n0 rfl).symm | (simp [sy_n, sy_ev]; done) | (simp [sy_n, sy_ev]; omega)⟩, rfl, ⟨rfl, rfl, by first | rfl | exact (sy_n0 rfl).trans rfl | exact (sy_n0 rfl).trans (sy_n0 rfl).symm | (simp [sy_n, sy_ev]; done) | (simp [sy_n, sy_ev]; omega)⟩, rfl, ⟨rfl, rfl, by first | rfl | exact (sy_n0 rfl).trans rfl | exact (sy_n0 rfl).trans (sy_n0 rfl).symm | (simp [sy_n, sy_ev]; done) | (simp [sy_n, sy_ev]; omega)⟩, trivial⟩, trivial, trivial⟩ g2
      have f5 : sy_Fs (sy_ev [(n : Int), 0, k9, 500, 0, 0, 0, 0, 0, 0, 0, 0, 0, 0, 0, 0, 0, x5]) mid jz_F15d c3.1 := sy_b_F (m := [2, 3, 4]) (by exact aa.mem ⟨rfl, rfl, rfl, trivial⟩) jz_F15b f4
      have f6 : lg41_C0 n k9 500 0 x5 [] c3.1 := sy_b_F (m := [0, 2, 3, 4, 17]) (by exact aa.mem ⟨rfl, rfl, rfl, rfl, rfl, trivial⟩) lg41_C0b (sy_Fs_join g4 f5)
      have m4 : sy_me (sy_ev [0, s9]) lg41_c0_D c3.2 := sy_lM0_ok (G := ([], [])) sg_0 ((lw_hb l3.1).app (sy_b_m (pw := sy_ev [0, s9]) (m := [1]) (by exact aa.mem ⟨rfl, trivial⟩) jz_bKT m3.1)) (by decide +kernel)
      obtain ⟨c4, r4, f7, m5, t5, e4, ch4⟩ := lg41_c0_m (Nat.zero_le _) l3.1.E ⟨by omega, by omega⟩ hs9 hk9 ⟨by decide, by decide⟩ ⟨by decide, by decide⟩ hx5 f6 m4 m3.2
      have l4 : LN L xs n fa c4 := l3.st e4 ch4 (by decide +kernel) m5 (by decide +kernel)
      have t4 := t5
      exact ⟨c4, rr.tr r4, l4, Or.inr ⟨hg, f7⟩, t4⟩
theorem lu_42 {L : Nat} {xs : Nat → Int32} {n : Nat} {fa : Fa} {c : MsC} {a0 a1 a2 x5 : Int} (hL : LN L xs n fa c) (hF : ((jb_gd n fa = true ∧ lg41_Z n 1 x5 [] c.1) ∨ (jb_gd n fa = false ∧ lg41_Z n 0 x5 [] c.1))) (ht : (c.2.2.2.1 : Int) = a0 ∧ (c.2.2.2.2.1 : Int) = a1 ∧ (c.2.2.2.2.2 : Int) = a2) (b0 : 54 ≤ a0 ∧ a0 ≤ 900000) (b1 : 0 ≤ a1 ∧ a1 ≤ 900000) (b2 : 0 ≤ a2 ∧ a2 ≤ 900000) (hx5 : 54 ≤ x5 ∧ x5 ≤ 900000) : ∃ c', rch c c' ∧ LN L xs n fa c' ∧ (lg42_Z [] c'.1) ∧ ((c'.2.2.2.1 : Int) = a0 + 2 ∧ (c'.2.2.2.2.1 : Int) = a1 + 2 ∧ (c'.2.2.2.2.2 : Int) = a2 + 10) := by
  have hn := hL.1.nr
  rcases hF with ⟨hg, hF⟩ | ⟨hg, hF⟩
  · obtain ⟨c1, r1, f1, p1, k1, t1, -⟩ := ak_42 hL hF ht b0 b1 b2
    have hm1 := hn
    obtain ⟨y1, y2, y3⟩ := t1
    rw [y1, y2, y3] at k1
    have a9 : sy_me (sy_ev []) lg42_a_D c1.2 := (sy_lM0_ok (G := ([], [])) sg_0 ((lw_hb p1).app k1) (by decide +kernel)).const (by decide +kernel)
    obtain ⟨c2, r2, f2, s2, e2⟩ := lg42_a_m (Nat.zero_le _) p1.E ⟨by omega, by omega⟩ ⟨by decide, by decide⟩ hx5 f1 a9
    have p2 := p1.sm s2 e2
    obtain ⟨mid, g2, g3⟩ := sy_Fs_app (A := lg_F0c) (B := lg42_Rsd.tail) f2
    have f3 : jz_F15 0 500 0 mid c2.1 := lg_cv15 g3 rfl
    have hml := sy_Fs.len g2
    have hml : mid.length = 2 := hml
    have t2 : (c2.2.2.2.1 : Int) = a0 + 2 ∧ (c2.2.2.2.2.1 : Int) = a1 + 2 ∧ (c2.2.2.2.2.2 : Int) = a2 + 10 := by
      rw [s2.2]
      exact ⟨y1, y2, y3⟩
    obtain ⟨c5, r5, p5, f5, k5, em5⟩ := jz_n42_m (by omega) p2 jb_ko ⟨by decide, by decide⟩ f3 (k1.sm s2) t2
    obtain ⟨k9, s9, c3, r3, p3, f4, hk9, hs9, hz⟩ := lv_b2 (by omega) p5 em5 f5 k5
    have rr := r1.tr (r2.tr (r5.tr r3))
    rcases hz with ⟨hg2, m3⟩ | ⟨hg2, m3⟩
    · have l3 : LN L xs n fa c3 := LN.ofK p3 m3.1 (by decide +kernel) (by decide +kernel)
      have g4 : sy_Fs (sy_ev [(n : Int), 0, k9, 500, 0, 0, 0, 0, 0, 0, 0, 0, 0, 0, 0, 0, 0, x5]) [] lg42_C1d.tail mid := sq_Fs.ok (r := lg42_Rd) (pv := sy_ev [(n : Int), 0, 0, 500, 0, 0, 1, 0, 0, 0, 0, 0, 0, 0, 0, 0, 0, x5]) ⟨rfl, rfl, ⟨rfl, ⟨rfl, rfl, by first | rfl | exact (sy_n0 rfl).trans rfl | exact (sy_n0 rfl).trans (sy_n0 rfl).symm | (simp [sy_n, sy_ev]; done) | (simp [sy_n, sy_ev]; omega)⟩, rfl, ⟨rfl, rfl, by first | rfl | exact (sy_n0 rfl).trans rfl | exact (sy_n0 rfl).trans (sy_n0 rfl).symm | (simp [sy_n, sy_ev]; done) | (simp [sy_n, sy_ev]; omega)⟩, trivial⟩, trivial, rfl, rfl, ⟨rfl, ⟨rfl, rfl, by first | rfl | exact (sy_n0 rfl).trans rfl | exact (sy_n0 rfl).trans (sy_n0 rfl).symm | (simp [sy_n, sy_ev]; done) | (simp [sy_n, sy_ev]; omega)⟩, rfl, ⟨rfl, rfl, by first | rfl | exact (sy_n0 rfl).trans rfl | exact (sy_n0 rfl).trans (sy_n0 rfl).symm | (simp [sy_n, sy_ev]; done) | (simp [sy_n, sy_ev]; omega)⟩, rfl, ⟨rfl, rfl, by first | rfl | exact (sy_n0 rfl).trans rfl | exact (sy_n0 rfl).trans (sy_n0 rfl).symm | (simp [sy_n, sy_ev]; done) | (simp [sy_n, sy_ev]; omega)⟩, rfl, ⟨rfl, rfl, by first | rfl | exact (sy_n0 rfl).trans rfl | exact (sy_n0 rfl).trans (sy_n0 rfl).symm | (simp [sy_n, sy_ev]; done) | (simp [sy_n, sy_ev]; omega)⟩, rfl, ⟨rfl, rfl, by first | rfl | exact (sy_n0 rfl).trans rfl | exact (sy_n0 rfl).trans (sy_n0 rfl).symm | (simp [sy_n, sy_ev]; done) | (simp [sy_n, sy_ev]; omega)⟩, rfl, ⟨rfl, rfl, by first | rfl | exact (sy_n0 rfl).trans rfl | exact (sy_n0 rfl).trans (sy_n0 rfl).symm | (simp [sy_n, sy_ev]; done) | (simp [sy_n, sy_ev]; omega)⟩, rfl, ⟨rfl, rfl, by first | rfl | exact (sy_n0 rfl).trans rfl | exact (sy_n0 rfl).trans (sy_n0 rfl).symm | (simp [sy_n, sy_ev]; done) | (simp [sy_n, sy_ev]; omega)⟩, trivial⟩, trivial, trivial⟩ g2
      have f5 : sy_Fs (sy_ev [(n : Int), 0, k9, 500, 0, 0, 0, 0, 0, 0, 0, 0, 0, 0, 0, 0, 0, x5]) mid jz_F15d c3.1 := sy_b_F (m := [2, 3, 4]) (by exact aa.mem ⟨rfl, rfl, rfl, trivial⟩) jz_F15b f4
      have f6 : lg42_C1 n k9 500 0 x5 [] c3.1 := sy_b_F (m := [0, 2, 3, 4, 17]) (by exact aa.mem ⟨rfl, rfl, rfl, rfl, rfl, trivial⟩) lg42_C1b (sy_Fs_join g4 f5)
      have m4 : sy_me (sy_ev [0, s9]) lg42_c1_D c3.2 := sy_lM0_ok (G := ([], [])) sg_0 ((lw_hb l3.1).app (sy_b_m (pw := sy_ev [0, s9]) (m := [1]) (by exact aa.mem ⟨rfl, trivial⟩) jz_bKT m3.1)) (by decide +kernel)
      obtain ⟨c4, r4, f7, s4, e4⟩ := lg42_c1_m (Nat.zero_le _) l3.1.E ⟨by omega, by omega⟩ hs9 hk9 ⟨by decide, by decide⟩ ⟨by decide, by decide⟩ hx5 f6 m4
      have l4 : LN L xs n fa c4 := l3.sm s4 e4
      have t4 : (c4.2.2.2.1 : Int) = a0 + 2 ∧ (c4.2.2.2.2.1 : Int) = a1 + 2 ∧ (c4.2.2.2.2.2 : Int) = a2 + 10 := by
        rw [s4.2]
        exact m3.2
      exact ⟨c4, rr.tr r4, l4, f7, t4⟩
    · rw [hg] at hg2
      cases hg2
  · obtain ⟨c1, r1, f1, p1, k1, t1, -⟩ := ak_42 hL hF ht b0 b1 b2
    have hm1 := hn
    obtain ⟨y1, y2, y3⟩ := t1
    rw [y1, y2, y3] at k1
    have a9 : sy_me (sy_ev []) lg42_a_D c1.2 := (sy_lM0_ok (G := ([], [])) sg_0 ((lw_hb p1).app k1) (by decide +kernel)).const (by decide +kernel)
    obtain ⟨c2, r2, f2, s2, e2⟩ := lg42_a_m (Nat.zero_le _) p1.E ⟨by omega, by omega⟩ ⟨by decide, by decide⟩ hx5 f1 a9
    have p2 := p1.sm s2 e2
    obtain ⟨mid, g2, g3⟩ := sy_Fs_app (A := lg_F0c) (B := lg42_Rsd.tail) f2
    have f3 : jz_F15 0 500 0 mid c2.1 := lg_cv15 g3 rfl
    have hml := sy_Fs.len g2
    have hml : mid.length = 2 := hml
    have t2 : (c2.2.2.2.1 : Int) = a0 + 2 ∧ (c2.2.2.2.2.1 : Int) = a1 + 2 ∧ (c2.2.2.2.2.2 : Int) = a2 + 10 := by
      rw [s2.2]
      exact ⟨y1, y2, y3⟩
    obtain ⟨c5, r5, p5, f5, k5, em5⟩ := jz_n42_m (by omega) p2 jb_ko ⟨by decide, by decide⟩ f3 (k1.sm s2) t2
    obtain ⟨k9, s9, c3, r3, p3, f4, hk9, hs9, hz⟩ := lv_b2 (by omega) p5 em5 f5 k5
    have rr := r1.tr (r2.tr (r5.tr r3))
    rcases hz with ⟨hg2, m3⟩ | ⟨hg2, m3⟩
    · rw [hg] at hg2
      cases hg2
    · have l3 : LN L xs n fa c3 := LN.ofK p3 m3.1 (by decide +kernel) (by decide +kernel)
      have g4 : sy_Fs (sy_ev [(n : Int), 0, k9, 500, 0, 0, 0, 0, 0, 0, 0, 0, 0, 0, 0, 0, 0, x5]) [] lg42_C0d.tail mid := sq_Fs.ok (r := lg42_Rd) (pv := sy_ev [(n : Int), 0, 0, 500, 0, 0, 0, 0, 0, 0, 0, 0, 0, 0, 0, 0, 0, x5]) ⟨rfl, rfl, ⟨rfl, ⟨rfl, rfl, by first | rfl | exact (sy_n0 rfl).trans rfl | exact (sy_n0 rfl).trans (sy_n0 rfl).symm | (simp [sy_n, sy_ev]; done) | (simp [sy_n, sy_ev]; omega)⟩, rfl, ⟨rfl, rfl, by first | rfl | exact (sy_n0 rfl).trans rfl | exact (sy_n0 rfl).trans (sy_n0 rfl).symm | (simp [sy_n, sy_ev]; done) | (simp [sy_n, sy_ev]; omega)⟩, trivial⟩, trivial, rfl, rfl, ⟨rfl, ⟨rfl, rfl, by first | rfl | exact (sy_n0 rfl).trans rfl | exact (sy_n0 rfl).trans (sy_n0 rfl).symm | (simp [sy_n, sy_ev]; done) | (simp [sy_n, sy_ev]; omega)⟩, rfl, ⟨rfl, rfl, by first | rfl | exact (sy_n0 rfl).trans rfl | exact (sy_n0 rfl).trans (sy_n0 rfl).symm | (simp [sy_n, sy_ev]; done) | (simp [sy_n, sy_ev]; omega)⟩, rfl, ⟨rfl, rfl, by first | rfl | exact (sy_n0 rfl).trans rfl | exact (sy_n0 rfl).trans (sy_n0 rfl).symm | (simp [sy_n, sy_ev]; done) | (simp [sy_n, sy_ev]; omega)⟩, rfl, ⟨rfl, rfl, by first | rfl | exact (sy_n0 rfl).trans rfl | exact (sy_n0 rfl).trans (sy_n0 rfl).symm | (simp [sy_n, sy_ev]; done) | (simp [sy_n, sy_ev]; omega)⟩, rfl, ⟨rfl, rfl, by first | rfl | exact (sy_n0 rfl).trans rfl | exact (sy_n0 rfl).trans (sy_n0 rfl).symm | (simp [sy_n, sy_ev]; done) | (simp [sy_n, sy_ev]; omega)⟩, rfl, ⟨rfl, rfl, by first | rfl | exact (sy_n0 rfl).trans rfl | exact (sy_n0 rfl).trans (sy_n0 rfl).symm | (simp [sy_n, sy_ev]; done) | (simp [sy_n, sy_ev]; omega)⟩, rfl, ⟨rfl, rfl, by first | rfl | exact (sy_n0 rfl).trans rfl | exact (sy_n0 rfl).trans (sy_n0 rfl).symm | (simp [sy_n, sy_ev]; done) | (simp [sy_n, sy_ev]; omega)⟩, trivial⟩, trivial, trivial⟩ g2
      have f5 : sy_Fs (sy_ev [(n : Int), 0, k9, 500, 0, 0, 0, 0, 0, 0, 0, 0, 0, 0, 0, 0, 0, x5]) mid jz_F15d c3.1 := sy_b_F (m := [2, 3, 4]) (by exact aa.mem ⟨rfl, rfl, rfl, trivial⟩) jz_F15b f4
      have f6 : lg42_C0 n k9 500 0 x5 [] c3.1 := sy_b_F (m := [0, 2, 3, 4, 17]) (by exact aa.mem ⟨rfl, rfl, rfl, rfl, rfl, trivial⟩) lg42_C0b (sy_Fs_join g4 f5)
      have m4 : sy_me (sy_ev [0, s9]) lg42_c0_D c3.2 := sy_lM0_ok (G := ([], [])) sg_0 ((lw_hb l3.1).app (sy_b_m (pw := sy_ev [0, s9]) (m := [1]) (by exact aa.mem ⟨rfl, trivial⟩) jz_bKO m3.1)) (by decide +kernel)
      obtain ⟨c4, r4, f7, s4, e4⟩ := lg42_c0_m (Nat.zero_le _) l3.1.E ⟨by omega, by omega⟩ hs9 hk9 ⟨by decide, by decide⟩ ⟨by decide, by decide⟩ hx5 f6 m4
      have l4 : LN L xs n fa c4 := l3.sm s4 e4
      have t4 : (c4.2.2.2.1 : Int) = a0 + 2 ∧ (c4.2.2.2.2.1 : Int) = a1 + 2 ∧ (c4.2.2.2.2.2 : Int) = a2 + 10 := by
        rw [s4.2]
        exact m3.2
      exact ⟨c4, rr.tr r4, l4, f7, t4⟩
theorem lu_50 {L : Nat} {xs : Nat → Int32} {n : Nat} {fa : Fa} {c : MsC} {a0 a1 a2 x5 : Int} (hL : LN L xs n fa c) (hF : lg_T5 n x5 [] c.1) (ht : (c.2.2.2.1 : Int) = a0 ∧ (c.2.2.2.2.1 : Int) = a1 ∧ (c.2.2.2.2.2 : Int) = a2) (b0 : 54 ≤ a0 ∧ a0 ≤ 900000) (b1 : 0 ≤ a1 ∧ a1 ≤ 900000) (b2 : 0 ≤ a2 ∧ a2 ≤ 900000) (hx5 : 54 ≤ x5 ∧ x5 ≤ 900000) : ∃ c', rch c c' ∧ LN L xs n fa c' ∧ (lg50_Z n 0 x5 [] c'.1) ∧ ((c'.2.2.2.1 : Int) = a0 + 1 ∧ (c'.2.2.2.2.1 : Int) = a1 + 1 ∧ (c'.2.2.2.2.2 : Int) = a2 + 5) := by
  have hn := hL.1.nr
  obtain ⟨c1, r1, f1, p1, k1, t1, -⟩ := ak_50 hL hF ht b0 b1 b2
  have hm1 := hn
  obtain ⟨y1, y2, y3⟩ := t1
  rw [y1, y2, y3] at k1
  have a9 : sy_me (sy_ev []) lg50_a_D c1.2 := (sy_lM0_ok (G := ([], [])) sg_0 ((lw_hb p1).app k1) (by decide +kernel)).const (by decide +kernel)
  obtain ⟨c2, r2, f2, s2, e2⟩ := lg50_a_m (Nat.zero_le _) p1.E ⟨by omega, by omega⟩ hx5 f1 a9
  have p2 := p1.sm s2 e2
  obtain ⟨mid, g2, g3⟩ := sy_Fs_app (A := lg_F0c) (B := lg50_Rsd.tail) f2
  have f3 : jz_F15 0 500 0 mid c2.1 := lg_cv15 g3 rfl
  have hml := sy_Fs.len g2
  have hml : mid.length = 2 := hml
  have t2 : (c2.2.2.2.1 : Int) = a0 + 1 ∧ (c2.2.2.2.2.1 : Int) = a1 + 1 ∧ (c2.2.2.2.2.2 : Int) = a2 + 5 := by
    rw [s2.2]
    exact ⟨y1, y2, y3⟩
  obtain ⟨c3, r3, p3, f4, m3⟩ := jz_n50_m (by omega) p2 lw_ko ⟨by decide, by decide⟩ f3 (k1.sm s2) t2
  have rr := r1.tr (r2.tr r3)
  obtain ⟨k9, hk9, f4⟩ : ∃ k9 : Int, (0 ≤ k9 ∧ k9 ≤ 499) ∧ jz_F15 k9 500 0 mid c3.1 := ⟨0 + 1, ⟨by decide, by decide⟩, f4⟩
  obtain ⟨s9, hs9, m3⟩ : ∃ s9 : Int, (0 ≤ s9 ∧ s9 ≤ 999) ∧ jz_kKO s9 (a0 + 1) (a1 + 1) (a2 + 5) c3.2 := ⟨1, ⟨by decide, by decide⟩, m3⟩
  have l3 : LN L xs n fa c3 := LN.ofK p3 m3.1 (by decide +kernel) (by decide +kernel)
  have g4 : sy_Fs (sy_ev [(n : Int), 0, k9, 500, 0, 0, 0, 0, 0, 0, 0, 0, 0, 0, 0, 0, 0, x5]) [] lg50_Rd mid := sy_b_F (m := [0, 3, 17]) (by exact aa.mem ⟨rfl, rfl, rfl, trivial⟩) lg50_Rb g2
  have f5 : sy_Fs (sy_ev [(n : Int), 0, k9, 500, 0, 0, 0, 0, 0, 0, 0, 0, 0, 0, 0, 0, 0, x5]) mid jz_F15d c3.1 := sy_b_F (m := [2, 3, 4]) (by exact aa.mem ⟨rfl, rfl, rfl, trivial⟩) jz_F15b f4
  have f6 : lg50_C0 n k9 500 0 x5 [] c3.1 := sy_b_F (m := [0, 2, 3, 4, 17]) (by exact aa.mem ⟨rfl, rfl, rfl, rfl, rfl, trivial⟩) lg50_C0b (sy_Fs_join g4 f5)
  have m4 : sy_me (sy_ev [0, s9]) lg50_c0_D c3.2 := sy_lM0_ok (G := ([], [])) sg_0 ((lw_hb l3.1).app (sy_b_m (pw := sy_ev [0, s9]) (m := [1]) (by exact aa.mem ⟨rfl, trivial⟩) jz_bKO m3.1)) (by decide +kernel)
  obtain ⟨c4, r4, f7, s4, e4⟩ := lg50_c0_m (Nat.zero_le _) l3.1.E ⟨by omega, by omega⟩ hs9 hk9 ⟨by decide, by decide⟩ ⟨by decide, by decide⟩ hx5 f6 m4
  have l4 : LN L xs n fa c4 := l3.sm s4 e4
  have t4 : (c4.2.2.2.1 : Int) = a0 + 1 ∧ (c4.2.2.2.2.1 : Int) = a1 + 1 ∧ (c4.2.2.2.2.2 : Int) = a2 + 5 := by
    rw [s4.2]
    exact m3.2
  exact ⟨c4, rr.tr r4, l4, f7, t4⟩
theorem lu_51 {L : Nat} {xs : Nat → Int32} {n : Nat} {fa : Fa} {c : MsC} {a0 a1 a2 x5 : Int} (hL : LN L xs n fa c) (hF : (lg50_Z n 0 x5 [] c.1)) (ht : (c.2.2.2.1 : Int) = a0 ∧ (c.2.2.2.2.1 : Int) = a1 ∧ (c.2.2.2.2.2 : Int) = a2) (b0 : 54 ≤ a0 ∧ a0 ≤ 900000) (b1 : 0 ≤ a1 ∧ a1 ≤ 900000) (b2 : 0 ≤ a2 ∧ a2 ≤ 900000) (hx5 : 54 ≤ x5 ∧ x5 ≤ 900000) : ∃ c', rch c c' ∧ LN L xs n fa c' ∧ (lg51_Z n 0 x5 [] c'.1) ∧ ((c'.2.2.2.1 : Int) = a0 + 1 ∧ (c'.2.2.2.2.1 : Int) = a1 + 1 ∧ (c'.2.2.2.2.2 : Int) = a2 + 5) := by
  have hn := hL.1.nr
  obtain ⟨c1, r1, f1, p1, k1, t1, -⟩ := ak_51 hL hF ht b0 b1 b2
  have hm1 := hn
  obtain ⟨y1, y2, y3⟩ := t1
  rw [y1, y2, y3] at k1
  have a9 : sy_me (sy_ev []) lg51_a_D c1.2 := (sy_lM0_ok (G := ([], [])) sg_0 ((lw_hb p1).app k1) (by decide +kernel)).const (by decide +kernel)
  obtain ⟨c2, r2, f2, s2, e2⟩ := lg51_a_m (Nat.zero_le _) p1.E ⟨by omega, by omega⟩ ⟨by decide, by decide⟩ hx5 f1 a9
  have p2 := p1.sm s2 e2
  obtain ⟨mid, g2, g3⟩ := sy_Fs_app (A := lg_F0c) (B := lg51_Rsd.tail) f2
  have f3 : jz_F15 0 500 0 mid c2.1 := lg_cv15 g3 rfl
  have hml := sy_Fs.len g2
  have hml : mid.length = 2 := hml
  have t2 : (c2.2.2.2.1 : Int) = a0 + 1 ∧ (c2.2.2.2.2.1 : Int) = a1 + 1 ∧ (c2.2.2.2.2.2 : Int) = a2 + 5 := by
    rw [s2.2]
    exact ⟨y1, y2, y3⟩
  obtain ⟨c3, r3, p3, f4, m3⟩ := jz_n51_m (by omega) p2 lw_ko ⟨by decide, by decide⟩ f3 (k1.sm s2) t2
  have rr := r1.tr (r2.tr r3)
  obtain ⟨k9, hk9, f4⟩ : ∃ k9 : Int, (0 ≤ k9 ∧ k9 ≤ 499) ∧ jz_F15 k9 500 0 mid c3.1 := ⟨0 + 2, ⟨by decide, by decide⟩, f4⟩
  obtain ⟨s9, hs9, m3⟩ : ∃ s9 : Int, (0 ≤ s9 ∧ s9 ≤ 999) ∧ jz_kKT s9 (a0 + 1) (a1 + 1) (a2 + 5) c3.2 := ⟨2, ⟨by decide, by decide⟩, m3⟩
  have l3 : LN L xs n fa c3 := LN.ofK p3 m3.1 (by decide +kernel) (by decide +kernel)
  have g4 : sy_Fs (sy_ev [(n : Int), 0, k9, 500, 0, 0, 0, 0, 0, 0, 0, 0, 0, 0, 0, 0, 0, x5]) [] lg51_C0d.tail mid := sq_Fs.ok (r := lg51_Rd) (pv := sy_ev [(n : Int), 0, 0, 500, 0, 0, 0, 0, 0, 0, 0, 0, 0, 0, 0, 0, 0, x5]) ⟨rfl, rfl, ⟨rfl, ⟨rfl, rfl, by first | rfl | exact (sy_n0 rfl).trans rfl | exact (sy_n0 rfl).trans (sy_n0 rfl).symm | (simp [sy_n, sy_ev]; done) | (simp [sy_n, sy_ev]; omega)⟩, rfl, ⟨rfl, rfl, by first | rfl | exact (sy_n0 rfl).trans rfl | exact (sy_n0 rfl).trans (sy_n0 rfl).symm | (simp [sy_n, sy_ev]; done) | (simp [sy_n, sy_ev]; omega)⟩, trivial⟩, trivial, rfl, rfl, ⟨rfl, ⟨rfl, rfl, by first | rfl | exact (sy_n0 rfl).trans rfl | exact (sy_n0 rfl).trans (sy_n0 rfl).symm | (simp [sy_n, sy_ev]; done) | (simp [sy_n, sy_ev]; omega)⟩, rfl, ⟨rfl, rfl, by first | rfl | exact (sy_n0 rfl).trans rfl | exact (sy_n0 rfl).trans (sy_n0 rfl).symm | (simp [sy_n, sy_ev]; done) | (simp [sy_n, sy_ev]; omega)⟩, rfl, ⟨rfl, rfl, by first | rfl | exact (sy_n0 rfl).trans rfl | exact (sy_n0 rfl).trans (sy_n0 rfl).symm | (simp [sy_n, sy_ev]; done) | (simp [sy_n, sy_ev]; omega)⟩, rfl, ⟨rfl, rfl, by first | rfl | exact (sy_n0 rfl).trans rfl | exact (sy_n0 rfl).trans (sy_n0 rfl).symm | (simp [sy_n, sy_ev]; done) | (simp [sy_n, sy_ev]; omega)⟩, rfl, ⟨rfl, rfl, by first | rfl | exact (sy_n0 rfl).trans rfl | exact (sy_n0 rfl).trans (sy_n0 rfl).symm | (simp [sy_n, sy_ev]; done) | (simp [sy_n, sy_ev]; omega)⟩, rfl, ⟨rfl, rfl, by first | rfl | exact (sy_n0 rfl).trans rfl | exact (sy_n0 rfl).trans (sy_n0 rfl).symm | (simp [sy_n, sy_ev]; done) | (simp [sy_n, sy_ev]; omega)⟩, rfl, ⟨rfl, rfl, by first | rfl | exact (sy_n0 rfl).trans rfl | exact (sy_n0 rfl).trans (sy_n0 rfl).symm | (simp [sy_n, sy_ev]; done) | (simp [sy_n, sy_ev]; omega)⟩, trivial⟩, trivial, trivial⟩ g2
  have f5 : sy_Fs (sy_ev [(n : Int), 0, k9, 500, 0, 0, 0, 0, 0, 0, 0, 0, 0, 0, 0, 0, 0, x5]) mid jz_F15d c3.1 := sy_b_F (m := [2, 3, 4]) (by exact aa.mem ⟨rfl, rfl, rfl, trivial⟩) jz_F15b f4
  have f6 : lg51_C0 n k9 500 0 x5 [] c3.1 := sy_b_F (m := [0, 2, 3, 4, 17]) (by exact aa.mem ⟨rfl, rfl, rfl, rfl, rfl, trivial⟩) lg51_C0b (sy_Fs_join g4 f5)
  have m4 : sy_me (sy_ev [0, s9]) lg51_c0_D c3.2 := sy_lM0_ok (G := ([], [])) sg_0 ((lw_hb l3.1).app (sy_b_m (pw := sy_ev [0, s9]) (m := [1]) (by exact aa.mem ⟨rfl, trivial⟩) jz_bKT m3.1)) (by decide +kernel)
  obtain ⟨c4, r4, f7, m5, t5, e4, ch4⟩ := lg51_c0_m (Nat.zero_le _) l3.1.E ⟨by omega, by omega⟩ hs9 hk9 ⟨by decide, by decide⟩ ⟨by decide, by decide⟩ hx5 f6 m4 m3.2
  have l4 : LN L xs n fa c4 := l3.st e4 ch4 (by decide +kernel) m5 (by decide +kernel)
  have t4 := t5
  exact ⟨c4, rr.tr r4, l4, f7, t4⟩
theorem lu_52 {L : Nat} {xs : Nat → Int32} {n : Nat} {fa : Fa} {c : MsC} {a0 a1 a2 x5 : Int} (hL : LN L xs n fa c) (hF : (lg51_Z n 0 x5 [] c.1)) (ht : (c.2.2.2.1 : Int) = a0 ∧ (c.2.2.2.2.1 : Int) = a1 ∧ (c.2.2.2.2.2 : Int) = a2) (b0 : 54 ≤ a0 ∧ a0 ≤ 900000) (b1 : 0 ≤ a1 ∧ a1 ≤ 900000) (b2 : 0 ≤ a2 ∧ a2 ≤ 900000) (hx5 : 54 ≤ x5 ∧ x5 ≤ 900000) : ∃ c', rch c c' ∧ LN L xs n fa c' ∧ (lg52_Z [] c'.1) ∧ ((c'.2.2.2.1 : Int) = a0 + 2 ∧ (c'.2.2.2.2.1 : Int) = a1 + 2 ∧ (c'.2.2.2.2.2 : Int) = a2 + 10) := by
  have hn := hL.1.nr
  obtain ⟨c1, r1, f1, p1, k1, t1, -⟩ := ak_52 hL hF ht b0 b1 b2
  have hm1 := hn
  obtain ⟨y1, y2, y3⟩ := t1
  rw [y1, y2, y3] at k1
  have a9 : sy_me (sy_ev []) lg52_a_D c1.2 := (sy_lM0_ok (G := ([], [])) sg_0 ((lw_hb p1).app k1) (by decide +kernel)).const (by decide +kernel)
  obtain ⟨c2, r2, f2, s2, e2⟩ := lg52_a_m (Nat.zero_le _) p1.E ⟨by omega, by omega⟩ ⟨by decide, by decide⟩ hx5 f1 a9
  have p2 := p1.sm s2 e2
  obtain ⟨mid, g2, g3⟩ := sy_Fs_app (A := lg_F0c) (B := lg52_Rsd.tail) f2
  have f3 : jz_F15 0 500 0 mid c2.1 := lg_cv15 g3 rfl
  have hml := sy_Fs.len g2
  have hml : mid.length = 2 := hml
  have t2 : (c2.2.2.2.1 : Int) = a0 + 2 ∧ (c2.2.2.2.2.1 : Int) = a1 + 2 ∧ (c2.2.2.2.2.2 : Int) = a2 + 10 := by
    rw [s2.2]
    exact ⟨y1, y2, y3⟩
  obtain ⟨c3, r3, p3, f4, m3⟩ := jz_n52_m (by omega) p2 lw_ko ⟨by decide, by decide⟩ f3 (k1.sm s2) t2
  have rr := r1.tr (r2.tr r3)
  obtain ⟨k9, hk9, f4⟩ : ∃ k9 : Int, (0 ≤ k9 ∧ k9 ≤ 499) ∧ jz_F15 k9 500 0 mid c3.1 := ⟨0 + 4, ⟨by decide, by decide⟩, f4⟩
  obtain ⟨s9, hs9, m3⟩ : ∃ s9 : Int, (0 ≤ s9 ∧ s9 ≤ 999) ∧ jz_kKO s9 (a0 + 2) (a1 + 2) (a2 + 10) c3.2 := ⟨4, ⟨by decide, by decide⟩, m3⟩
  have l3 : LN L xs n fa c3 := LN.ofK p3 m3.1 (by decide +kernel) (by decide +kernel)
  have g4 : sy_Fs (sy_ev [(n : Int), 0, k9, 500, 0, 0, 0, 0, 0, 0, 0, 0, 0, 0, 0, 0, 0, x5]) [] lg52_C0d.tail mid := sq_Fs.ok (r := lg52_Rd) (pv := sy_ev [(n : Int), 0, 0, 500, 0, 0, 0, 0, 0, 0, 0, 0, 0, 0, 0, 0, 0, x5]) ⟨rfl, rfl, ⟨rfl, ⟨rfl, rfl, by first | rfl | exact (sy_n0 rfl).trans rfl | exact (sy_n0 rfl).trans (sy_n0 rfl).symm | (simp [sy_n, sy_ev]; done) | (simp [sy_n, sy_ev]; omega)⟩, rfl, ⟨rfl, rfl, by first | rfl | exact (sy_n0 rfl).trans rfl | exact (sy_n0 rfl).trans (sy_n0 rfl).symm | (simp [sy_n, sy_ev]; done) | (simp [sy_n, sy_ev]; omega)⟩, trivial⟩, trivial, rfl, rfl, ⟨rfl, ⟨rfl, rfl, by first | rfl | exact (sy_n0 rfl).trans rfl | exact (sy_n0 rfl).trans (sy_n0 rfl).symm | (simp [sy_n, sy_ev]; done) | (simp [sy_n, sy_ev]; omega)⟩, rfl, ⟨rfl, rfl, by first | rfl | exact (sy_n0 rfl).trans rfl | exact (sy_n0 rfl).trans (sy_n0 rfl).symm | (simp [sy_n, sy_ev]; done) | (simp [sy_n, sy_ev]; omega)⟩, rfl, ⟨rfl, rfl, by first | rfl | exact (sy_n0 rfl).trans rfl | exact (sy_n0 rfl).trans (sy_n0 rfl).symm | (simp [sy_n, sy_ev]; done) | (simp [sy_n, sy_ev]; omega)⟩, rfl, ⟨rfl, rfl, by first | rfl | exact (sy_n0 rfl).trans rfl | exact (sy_n0 rfl).trans (sy_n0 rfl).symm | (simp [sy_n, sy_ev]; done) | (simp [sy_n, sy_ev]; omega)⟩, rfl, ⟨rfl, rfl, by first | rfl | exact (sy_n0 rfl).trans rfl | exact (sy_n0 rfl).trans (sy_n0 rfl).symm | (simp [sy_n, sy_ev]; done) | (simp [sy_n, sy_ev]; omega)⟩, rfl, ⟨rfl, rfl, by first | rfl | exact (sy_n0 rfl).trans rfl | exact (sy_n0 rfl).trans (sy_n0 rfl).symm | (simp [sy_n, sy_ev]; done) | (simp [sy_n, sy_ev]; omega)⟩, rfl, ⟨rfl, rfl, by first | rfl | exact (sy_n0 rfl).trans rfl | exact (sy_n0 rfl).trans (sy_n0 rfl).symm | (simp [sy_n, sy_ev]; done) | (simp [sy_n, sy_ev]; omega)⟩, trivial⟩, trivial, trivial⟩ g2
  have f5 : sy_Fs (sy_ev [(n : Int), 0, k9, 500, 0, 0, 0, 0, 0, 0, 0, 0, 0, 0, 0, 0, 0, x5]) mid jz_F15d c3.1 := sy_b_F (m := [2, 3, 4]) (by exact aa.mem ⟨rfl, rfl, rfl, trivial⟩) jz_F15b f4
  have f6 : lg52_C0 n k9 500 0 x5 [] c3.1 := sy_b_F (m := [0, 2, 3, 4, 17]) (by exact aa.mem ⟨rfl, rfl, rfl, rfl, rfl, trivial⟩) lg52_C0b (sy_Fs_join g4 f5)
  have m4 : sy_me (sy_ev [0, s9]) lg52_c0_D c3.2 := sy_lM0_ok (G := ([], [])) sg_0 ((lw_hb l3.1).app (sy_b_m (pw := sy_ev [0, s9]) (m := [1]) (by exact aa.mem ⟨rfl, trivial⟩) jz_bKO m3.1)) (by decide +kernel)
  obtain ⟨c4, r4, f7, s4, e4⟩ := lg52_c0_m (Nat.zero_le _) l3.1.E ⟨by omega, by omega⟩ hs9 hk9 ⟨by decide, by decide⟩ ⟨by decide, by decide⟩ hx5 f6 m4
  have l4 : LN L xs n fa c4 := l3.sm s4 e4
  have t4 : (c4.2.2.2.1 : Int) = a0 + 2 ∧ (c4.2.2.2.2.1 : Int) = a1 + 2 ∧ (c4.2.2.2.2.2 : Int) = a2 + 10 := by
    rw [s4.2]
    exact m3.2
  exact ⟨c4, rr.tr r4, l4, f7, t4⟩
theorem lu_60 {L : Nat} {xs : Nat → Int32} {n : Nat} {fa : Fa} {c : MsC} {a0 a1 a2 x5 : Int} (hL : LN L xs n fa c) (hF : lg_T6 n x5 [] c.1) (ht : (c.2.2.2.1 : Int) = a0 ∧ (c.2.2.2.2.1 : Int) = a1 ∧ (c.2.2.2.2.2 : Int) = a2) (b0 : 54 ≤ a0 ∧ a0 ≤ 900000) (b1 : 0 ≤ a1 ∧ a1 ≤ 900000) (b2 : 0 ≤ a2 ∧ a2 ≤ 900000) (hx5 : 54 ≤ x5 ∧ x5 ≤ 900000) : ∃ c', rch c c' ∧ LN L xs n fa c' ∧ (lg60_Z n 1 x5 [] c'.1) ∧ ((c'.2.2.2.1 : Int) = a0 + 1 ∧ (c'.2.2.2.2.1 : Int) = a1 + 1 ∧ (c'.2.2.2.2.2 : Int) = a2 + 5) := by
  have hn := hL.1.nr
  obtain ⟨c1, r1, f1, p1, k1, t1, -⟩ := ak_60 hL hF ht b0 b1 b2
  have hm1 := hn
  obtain ⟨y1, y2, y3⟩ := t1
  rw [y1, y2, y3] at k1
  have a9 : sy_me (sy_ev []) lg60_a_D c1.2 := (sy_lM0_ok (G := ([], [])) sg_0 ((lw_hb p1).app k1) (by decide +kernel)).const (by decide +kernel)
  obtain ⟨c2, r2, f2, s2, e2⟩ := lg60_a_m (Nat.zero_le _) p1.E ⟨by omega, by omega⟩ hx5 f1 a9
  have p2 := p1.sm s2 e2
  obtain ⟨mid, g2, g3⟩ := sy_Fs_app (A := lg_F0c) (B := lg60_Rsd.tail) f2
  have f3 : jz_F15 0 500 0 mid c2.1 := lg_cv15 g3 rfl
  have hml := sy_Fs.len g2
  have hml : mid.length = 2 := hml
  have t2 : (c2.2.2.2.1 : Int) = a0 + 1 ∧ (c2.2.2.2.2.1 : Int) = a1 + 1 ∧ (c2.2.2.2.2.2 : Int) = a2 + 5 := by
    rw [s2.2]
    exact ⟨y1, y2, y3⟩
  obtain ⟨c3, r3, p3, f4, m3⟩ := jz_n60_m (by omega) p2 lw_ko ⟨by decide, by decide⟩ f3 (k1.sm s2) t2
  have rr := r1.tr (r2.tr r3)
  obtain ⟨k9, hk9, f4⟩ : ∃ k9 : Int, (0 ≤ k9 ∧ k9 ≤ 499) ∧ jz_F15 k9 500 0 mid c3.1 := ⟨0 + 2, ⟨by decide, by decide⟩, f4⟩
  obtain ⟨s9, hs9, m3⟩ : ∃ s9 : Int, (0 ≤ s9 ∧ s9 ≤ 999) ∧ jz_kKSc s9 (a0 + 1) (a1 + 1) (a2 + 5) c3.2 := ⟨2, ⟨by decide, by decide⟩, m3⟩
  have l3 : LN L xs n fa c3 := LN.ofK p3 m3.1 (by decide +kernel) (by decide +kernel)
  have g4 : sy_Fs (sy_ev [(n : Int), 0, k9, 500, 0, 0, 0, 0, 0, 0, 0, 0, 0, 0, 0, 0, 0, x5]) [] lg60_Rd mid := sy_b_F (m := [0, 3, 17]) (by exact aa.mem ⟨rfl, rfl, rfl, trivial⟩) lg60_Rb g2
  have f5 : sy_Fs (sy_ev [(n : Int), 0, k9, 500, 0, 0, 0, 0, 0, 0, 0, 0, 0, 0, 0, 0, 0, x5]) mid jz_F15d c3.1 := sy_b_F (m := [2, 3, 4]) (by exact aa.mem ⟨rfl, rfl, rfl, trivial⟩) jz_F15b f4
  have f6 : lg60_C1 n k9 500 0 x5 [] c3.1 := sy_b_F (m := [0, 2, 3, 4, 17]) (by exact aa.mem ⟨rfl, rfl, rfl, rfl, rfl, trivial⟩) lg60_C1b (sy_Fs_join g4 f5)
  have m4 : sy_me (sy_ev [0, s9]) lg60_c1_D c3.2 := sy_lM0_ok (G := ([], [])) sg_0 ((lw_hb l3.1).app (sy_b_m (pw := sy_ev [0, s9]) (m := [1]) (by exact aa.mem ⟨rfl, trivial⟩) jz_bKSc m3.1)) (by decide +kernel)
  obtain ⟨c4, r4, f7, s4, e4⟩ := lg60_c1_m (Nat.zero_le _) l3.1.E ⟨by omega, by omega⟩ hs9 hk9 ⟨by decide, by decide⟩ ⟨by decide, by decide⟩ hx5 f6 m4
  have l4 : LN L xs n fa c4 := l3.sm s4 e4
  have t4 : (c4.2.2.2.1 : Int) = a0 + 1 ∧ (c4.2.2.2.2.1 : Int) = a1 + 1 ∧ (c4.2.2.2.2.2 : Int) = a2 + 5 := by
    rw [s4.2]
    exact m3.2
  exact ⟨c4, rr.tr r4, l4, f7, t4⟩
theorem lu_61 {L : Nat} {xs : Nat → Int32} {n : Nat} {fa : Fa} {c : MsC} {a0 a1 a2 x5 : Int} (hL : LN L xs n fa c) (hF : (lg60_Z n 1 x5 [] c.1)) (ht : (c.2.2.2.1 : Int) = a0 ∧ (c.2.2.2.2.1 : Int) = a1 ∧ (c.2.2.2.2.2 : Int) = a2) (b0 : 54 ≤ a0 ∧ a0 ≤ 900000) (b1 : 0 ≤ a1 ∧ a1 ≤ 900000) (b2 : 0 ≤ a2 ∧ a2 ≤ 900000) (hx5 : 54 ≤ x5 ∧ x5 ≤ 900000) : ∃ c', rch c c' ∧ LN L xs n fa c' ∧ (lg61_Z n 1 x5 [] c'.1) ∧ ((c'.2.2.2.1 : Int) = a0 + 1 ∧ (c'.2.2.2.2.1 : Int) = a1 + 1 ∧ (c'.2.2.2.2.2 : Int) = a2 + 5) := by
  have hn := hL.1.nr
  obtain ⟨c1, r1, f1, p1, k1, t1, -⟩ := ak_61 hL hF ht b0 b1 b2
  have hm1 := hn
  obtain ⟨y1, y2, y3⟩ := t1
  rw [y1, y2, y3] at k1
  have a9 : sy_me (sy_ev []) lg61_a_D c1.2 := (sy_lM0_ok (G := ([], [])) sg_0 ((lw_hb p1).app k1) (by decide +kernel)).const (by decide +kernel)
  obtain ⟨c2, r2, f2, s2, e2⟩ := lg61_a_m (Nat.zero_le _) p1.E ⟨by omega, by omega⟩ ⟨by decide, by decide⟩ hx5 f1 a9
  have p2 := p1.sm s2 e2
  obtain ⟨mid, g2, g3⟩ := sy_Fs_app (A := lg_F0c) (B := lg61_Rsd.tail) f2
  have f3 : jz_F15 0 500 0 mid c2.1 := lg_cv15 g3 rfl
  have hml := sy_Fs.len g2
  have hml : mid.length = 2 := hml
  have t2 : (c2.2.2.2.1 : Int) = a0 + 1 ∧ (c2.2.2.2.2.1 : Int) = a1 + 1 ∧ (c2.2.2.2.2.2 : Int) = a2 + 5 := by
    rw [s2.2]
    exact ⟨y1, y2, y3⟩
  obtain ⟨c3, r3, p3, f4, m3⟩ := jz_n61_m (by omega) p2 lw_ko ⟨by decide, by decide⟩ f3 (k1.sm s2) t2
  have rr := r1.tr (r2.tr r3)
  obtain ⟨k9, hk9, f4⟩ : ∃ k9 : Int, (0 ≤ k9 ∧ k9 ≤ 499) ∧ jz_F15 k9 500 0 mid c3.1 := ⟨0 + 3, ⟨by decide, by decide⟩, f4⟩
  obtain ⟨s9, hs9, m3⟩ : ∃ s9 : Int, (0 ≤ s9 ∧ s9 ≤ 999) ∧ jz_kKOc s9 (a0 + 1) (a1 + 1) (a2 + 5) c3.2 := ⟨3, ⟨by decide, by decide⟩, m3⟩
  have l3 : LN L xs n fa c3 := LN.ofK p3 m3.1 (by decide +kernel) (by decide +kernel)
  have g4 : sy_Fs (sy_ev [(n : Int), 0, k9, 500, 0, 0, 0, 0, 0, 0, 0, 0, 0, 0, 0, 0, 0, x5]) [] lg61_C1d.tail mid := sq_Fs.ok (r := lg61_Rd) (pv := sy_ev [(n : Int), 0, 0, 500, 0, 0, 1, 0, 0, 0, 0, 0, 0, 0, 0, 0, 0, x5]) ⟨rfl, rfl, ⟨rfl, ⟨rfl, rfl, by first | rfl | exact (sy_n0 rfl).trans rfl | exact (sy_n0 rfl).trans (sy_n0 rfl).symm | (simp [sy_n, sy_ev]; done) | (simp [sy_n, sy_ev]; omega)⟩, rfl, ⟨rfl, rfl, by first | rfl | exact (sy_n0 rfl).trans rfl | exact (sy_n0 rfl).trans (sy_n0 rfl).symm | (simp [sy_n, sy_ev]; done) | (simp [sy_n, sy_ev]; omega)⟩, trivial⟩, trivial, rfl, rfl, ⟨rfl, ⟨rfl, rfl, by first | rfl | exact (sy_n0 rfl).trans rfl | exact (sy_n0 rfl).trans (sy_n0 rfl).symm | (simp [sy_n, sy_ev]; done) | (simp [sy_n, sy_ev]; omega)⟩, rfl, ⟨rfl, rfl, by first | rfl | exact (sy_n0 rfl).trans rfl | exact (sy_n0 rfl).trans (sy_n0 rfl).symm | (simp [sy_n, sy_ev]; done) | (simp [sy_n, sy_ev]; omega)⟩, rfl, ⟨rfl, rfl, by first | rfl | exact (sy_n0 rfl).trans rfl | exact (sy_n0 rfl).trans (sy_n0 rfl).symm | (simp [sy_n, sy_ev]; done) | (simp [sy_n, sy_ev]; omega)⟩, rfl, ⟨rfl, rfl, by first | rfl | exact (sy_n0 rfl).trans rfl | exact (sy_n0 rfl).trans (sy_n0 rfl).symm | (simp [sy_n, sy_ev]; done) | (simp [sy_n, sy_ev]; omega)⟩, rfl, ⟨rfl, rfl, by first | rfl | exact (sy_n0 rfl).trans rfl | exact (sy_n0 rfl).trans (sy_n0 rfl).symm | (simp [sy_n, sy_ev]; done) | (simp [sy_n, sy_ev]; omega)⟩, rfl, ⟨rfl, rfl, by first | rfl | exact (sy_n0 rfl).trans rfl | exact (sy_n0 rfl).trans (sy_n0 rfl).symm | (simp [sy_n, sy_ev]; done) | (simp [sy_n, sy_ev]; omega)⟩, rfl, ⟨rfl, rfl, by first | rfl | exact (sy_n0 rfl).trans rfl | exact (sy_n0 rfl).trans (sy_n0 rfl).symm | (simp [sy_n, sy_ev]; done) | (simp [sy_n, sy_ev]; omega)⟩, trivial⟩, trivial, trivial⟩ g2
  have f5 : sy_Fs (sy_ev [(n : Int), 0, k9, 500, 0, 0, 0, 0, 0, 0, 0, 0, 0, 0, 0, 0, 0, x5]) mid jz_F15d c3.1 := sy_b_F (m := [2, 3, 4]) (by exact aa.mem ⟨rfl, rfl, rfl, trivial⟩) jz_F15b f4
  have f6 : lg61_C1 n k9 500 0 x5 [] c3.1 := sy_b_F (m := [0, 2, 3, 4, 17]) (by exact aa.mem ⟨rfl, rfl, rfl, rfl, rfl, trivial⟩) lg61_C1b (sy_Fs_join g4 f5)
  have m4 : sy_me (sy_ev [0, s9]) lg61_c9_D c3.2 := sy_lM0_ok (G := ([], [])) sg_0 ((lw_hb l3.1).app (sy_b_m (pw := sy_ev [0, s9]) (m := [1]) (by exact aa.mem ⟨rfl, trivial⟩) jz_bKOc m3.1)) (by decide +kernel)
  obtain ⟨c4, r4, f7, s4, e4⟩ := lg61_c9_m (Nat.zero_le _) l3.1.E ⟨by omega, by omega⟩ hs9 hk9 ⟨by decide, by decide⟩ ⟨by decide, by decide⟩ hx5 f6 m4
  have l4 : LN L xs n fa c4 := l3.sm s4 e4
  have t4 : (c4.2.2.2.1 : Int) = a0 + 1 ∧ (c4.2.2.2.2.1 : Int) = a1 + 1 ∧ (c4.2.2.2.2.2 : Int) = a2 + 5 := by
    rw [s4.2]
    exact m3.2
  exact ⟨c4, rr.tr r4, l4, f7, t4⟩
theorem lu_62 {L : Nat} {xs : Nat → Int32} {n : Nat} {fa : Fa} {c : MsC} {a0 a1 a2 x5 : Int} (hL : LN L xs n fa c) (hF : (lg61_Z n 1 x5 [] c.1)) (ht : (c.2.2.2.1 : Int) = a0 ∧ (c.2.2.2.2.1 : Int) = a1 ∧ (c.2.2.2.2.2 : Int) = a2) (b0 : 54 ≤ a0 ∧ a0 ≤ 900000) (b1 : 0 ≤ a1 ∧ a1 ≤ 900000) (b2 : 0 ≤ a2 ∧ a2 ≤ 900000) (hx5 : 54 ≤ x5 ∧ x5 ≤ 900000) : ∃ c', rch c c' ∧ LN L xs n fa c' ∧ (lg62_Z [] c'.1) ∧ ((c'.2.2.2.1 : Int) = a0 + 2 ∧ (c'.2.2.2.2.1 : Int) = a1 + 2 ∧ (c'.2.2.2.2.2 : Int) = a2 + 10) := by
  have hn := hL.1.nr
  obtain ⟨c1, r1, f1, p1, k1, t1, -⟩ := ak_62 hL hF ht b0 b1 b2
  have hm1 := hn
  obtain ⟨y1, y2, y3⟩ := t1
  rw [y1, y2, y3] at k1
  have a9 : sy_me (sy_ev []) lg62_a_D c1.2 := (sy_lM0_ok (G := ([], [])) sg_0 ((lw_hb p1).app k1) (by decide +kernel)).const (by decide +kernel)
  obtain ⟨c2, r2, f2, s2, e2⟩ := lg62_a_m (Nat.zero_le _) p1.E ⟨by omega, by omega⟩ ⟨by decide, by decide⟩ hx5 f1 a9
  have p2 := p1.sm s2 e2
  obtain ⟨mid, g2, g3⟩ := sy_Fs_app (A := lg_F0c) (B := lg62_Rsd.tail) f2
  have f3 : jz_F15 0 500 0 mid c2.1 := lg_cv15 g3 rfl
  have hml := sy_Fs.len g2
  have hml : mid.length = 2 := hml
  have t2 : (c2.2.2.2.1 : Int) = a0 + 2 ∧ (c2.2.2.2.2.1 : Int) = a1 + 2 ∧ (c2.2.2.2.2.2 : Int) = a2 + 10 := by
    rw [s2.2]
    exact ⟨y1, y2, y3⟩
  obtain ⟨c3, r3, p3, f4, m3⟩ := jz_n62_m (by omega) p2 lw_ko ⟨by decide, by decide⟩ f3 (k1.sm s2) t2
  have rr := r1.tr (r2.tr r3)
  obtain ⟨k9, hk9, f4⟩ : ∃ k9 : Int, (0 ≤ k9 ∧ k9 ≤ 499) ∧ jz_F15 k9 500 0 mid c3.1 := ⟨0 + 5, ⟨by decide, by decide⟩, f4⟩
  obtain ⟨s9, hs9, m3⟩ : ∃ s9 : Int, (0 ≤ s9 ∧ s9 ≤ 999) ∧ jz_kKTc s9 (a0 + 2) (a1 + 2) (a2 + 10) c3.2 := ⟨5, ⟨by decide, by decide⟩, m3⟩
  have l3 : LN L xs n fa c3 := LN.ofK p3 m3.1 (by decide +kernel) (by decide +kernel)
  have g4 : sy_Fs (sy_ev [(n : Int), 0, k9, 500, 0, 0, 0, 0, 0, 0, 0, 0, 0, 0, 0, 0, 0, x5]) [] lg62_C1d.tail mid := sq_Fs.ok (r := lg62_Rd) (pv := sy_ev [(n : Int), 0, 0, 500, 0, 0, 1, 0, 0, 0, 0, 0, 0, 0, 0, 0, 0, x5]) ⟨rfl, rfl, ⟨rfl, ⟨rfl, rfl, by first | rfl | exact (sy_n0 rfl).trans rfl | exact (sy_n0 rfl).trans (sy_n0 rfl).symm | (simp [sy_n, sy_ev]; done) | (simp [sy_n, sy_ev]; omega)⟩, rfl, ⟨rfl, rfl, by first | rfl | exact (sy_n0 rfl).trans rfl | exact (sy_n0 rfl).trans (sy_n0 rfl).symm | (simp [sy_n, sy_ev]; done) | (simp [sy_n, sy_ev]; omega)⟩, trivial⟩, trivial, rfl, rfl, ⟨rfl, ⟨rfl, rfl, by first | rfl | exact (sy_n0 rfl).trans rfl | exact (sy_n0 rfl).trans (sy_n0 rfl).symm | (simp [sy_n, sy_ev]; done) | (simp [sy_n, sy_ev]; omega)⟩, rfl, ⟨rfl, rfl, by first | rfl | exact (sy_n0 rfl).trans rfl | exact (sy_n0 rfl).trans (sy_n0 rfl).symm | (simp [sy_n, sy_ev]; done) | (simp [sy_n, sy_ev]; omega)⟩, rfl, ⟨rfl, rfl, by first | rfl | exact (sy_n0 rfl).trans rfl | exact (sy_n0 rfl).trans (sy_n0 rfl).symm | (simp [sy_n, sy_ev]; done) | (simp [sy_n, sy_ev]; omega)⟩, rfl, ⟨rfl, rfl, by first | rfl | exact (sy_n0 rfl).trans rfl | exact (sy_n0 rfl).trans (sy_n0 rfl).symm | (simp [sy_n, sy_ev]; done) | (simp [sy_n, sy_ev]; omega)⟩, rfl, ⟨rfl, rfl, by first | rfl | exact (sy_n0 rfl).trans rfl | exact (sy_n0 rfl).trans (sy_n0 rfl).symm | (simp [sy_n, sy_ev]; done) | (simp [sy_n, sy_ev]; omega)⟩, rfl, ⟨rfl, rfl, by first | rfl | exact (sy_n0 rfl).trans rfl | exact (sy_n0 rfl).trans (sy_n0 rfl).symm | (simp [sy_n, sy_ev]; done) | (simp [sy_n, sy_ev]; omega)⟩, rfl, ⟨rfl, rfl, by first | rfl | exact (sy_n0 rfl).trans rfl | exact (sy_n0 rfl).trans (sy_n0 rfl).symm | (simp [sy_n, sy_ev]; done) | (simp [sy_n, sy_ev]; omega)⟩, trivial⟩, trivial, trivial⟩ g2
  have f5 : sy_Fs (sy_ev [(n : Int), 0, k9, 500, 0, 0, 0, 0, 0, 0, 0, 0, 0, 0, 0, 0, 0, x5]) mid jz_F15d c3.1 := sy_b_F (m := [2, 3, 4]) (by exact aa.mem ⟨rfl, rfl, rfl, trivial⟩) jz_F15b f4
  have f6 : lg62_C1 n k9 500 0 x5 [] c3.1 := sy_b_F (m := [0, 2, 3, 4, 17]) (by exact aa.mem ⟨rfl, rfl, rfl, rfl, rfl, trivial⟩) lg62_C1b (sy_Fs_join g4 f5)
  have m4 : sy_me (sy_ev [0, s9]) lg62_c9_D c3.2 := sy_lM0_ok (G := ([], [])) sg_0 ((lw_hb l3.1).app (sy_b_m (pw := sy_ev [0, s9]) (m := [1]) (by exact aa.mem ⟨rfl, trivial⟩) jz_bKTc m3.1)) (by decide +kernel)
  obtain ⟨c4, r4, f7, s4, e4⟩ := lg62_c9_m (Nat.zero_le _) l3.1.E ⟨by omega, by omega⟩ hs9 hk9 ⟨by decide, by decide⟩ ⟨by decide, by decide⟩ hx5 f6 m4
  have l4 : LN L xs n fa c4 := l3.sm s4 e4
  have t4 : (c4.2.2.2.1 : Int) = a0 + 2 ∧ (c4.2.2.2.2.1 : Int) = a1 + 2 ∧ (c4.2.2.2.2.2 : Int) = a2 + 10 := by
    rw [s4.2]
    exact m3.2
  exact ⟨c4, rr.tr r4, l4, f7, t4⟩
/-- the end of the law -/
def lg_End : List SyF := [(163, 434, [], [(0, 1, 0, 0)])]
theorem lu_0 {L : Nat} {xs : Nat → Int32} {n : Nat} {fa : Fa} {c : MsC} {a0 a1 a2 x5 : Int} (hL : LN L xs n fa c) (hE : True) (hF : lg_B0 n x5 [] c.1) (hM : sy_me (sy_ev [0, 0, 0, 0, 0, 0, 0, 0, 0, 0, 0, 0, 0, 0, 0, 0, 0, x5]) lg_0_M c.2) (ht : (c.2.2.2.1 : Int) = a0 ∧ (c.2.2.2.2.1 : Int) = a1 ∧ (c.2.2.2.2.2 : Int) = a2) (b0 : 54 ≤ a0 ∧ a0 ≤ 800000) (b1 : 0 ≤ a1 ∧ a1 ≤ 800000) (b2 : 0 ≤ a2 ∧ a2 ≤ 800000) (hx5 : 54 ≤ x5 ∧ x5 ≤ 900000) : ∃ c', rch c c' ∧ sy_E0 L xs c' ∧ sy_Fs (sy_ev []) [] lg_End c'.1 ∧ ((c'.2.2.2.1 : Int) ≤ a0 + 5 ∧ (c'.2.2.2.2.1 : Int) ≤ a1 + 5 ∧ (c'.2.2.2.2.2 : Int) ≤ a2 + 25) := by
  have hn := hL.1.nr
  obtain ⟨c1, r1, f1, s1, e1⟩ := lg_x0_m (Nat.zero_le _) hL.1.E ⟨by omega, by omega⟩ hx5 hF hM
  have t1 : (c1.2.2.2.1 : Int) = a0 ∧ (c1.2.2.2.2.1 : Int) = a1 ∧ (c1.2.2.2.2.2 : Int) = a2 := by
    rw [s1.2]
    exact ht
  obtain ⟨c2, r2, l2, f2, t2⟩ := lu_00 (hL.sm s1 e1) f1 t1 ⟨by omega, by omega⟩ ⟨by omega, by omega⟩ ⟨by omega, by omega⟩ hx5
  obtain ⟨c3, r3, l3, f3, t3⟩ := lu_01 l2 f2 t2 ⟨by omega, by omega⟩ ⟨by omega, by omega⟩ ⟨by omega, by omega⟩ hx5
  obtain ⟨c4, r4, l4, f4, t4⟩ := lu_02 l3 f3 t3 ⟨by omega, by omega⟩ ⟨by omega, by omega⟩ ⟨by omega, by omega⟩ hx5
  exact ⟨c4, r1.tr (r2.tr (r3.tr r4)), l4.1.E, f4, ⟨by omega, by omega, by omega⟩⟩
theorem lu_1 {L : Nat} {xs : Nat → Int32} {n : Nat} {fa : Fa} {c : MsC} {a0 a1 a2 x5 : Int} (hL : LN L xs n fa c) (hE : True) (hF : lg_B1 n x5 [] c.1) (hM : sy_me (sy_ev [0, 0, 0, 0, 0, 0, 0, 0, 0, 0, 0, 0, 0, 0, 0, 0, 0, x5]) lg_0_M c.2) (ht : (c.2.2.2.1 : Int) = a0 ∧ (c.2.2.2.2.1 : Int) = a1 ∧ (c.2.2.2.2.2 : Int) = a2) (b0 : 54 ≤ a0 ∧ a0 ≤ 800000) (b1 : 0 ≤ a1 ∧ a1 ≤ 800000) (b2 : 0 ≤ a2 ∧ a2 ≤ 800000) (hx5 : 54 ≤ x5 ∧ x5 ≤ 900000) : ∃ c', rch c c' ∧ sy_E0 L xs c' ∧ sy_Fs (sy_ev []) [] lg_End c'.1 ∧ ((c'.2.2.2.1 : Int) ≤ a0 + 5 ∧ (c'.2.2.2.2.1 : Int) ≤ a1 + 5 ∧ (c'.2.2.2.2.2 : Int) ≤ a2 + 25) := by
  have hn := hL.1.nr
  obtain ⟨c1, r1, f1, s1, e1⟩ := lg_x1_m (Nat.zero_le _) hL.1.E ⟨by omega, by omega⟩ hx5 hF hM
  have t1 : (c1.2.2.2.1 : Int) = a0 ∧ (c1.2.2.2.2.1 : Int) = a1 ∧ (c1.2.2.2.2.2 : Int) = a2 := by
    rw [s1.2]
    exact ht
  obtain ⟨c2, r2, l2, f2, t2⟩ := lu_10 (hL.sm s1 e1) f1 t1 ⟨by omega, by omega⟩ ⟨by omega, by omega⟩ ⟨by omega, by omega⟩ hx5
  obtain ⟨c3, r3, l3, f3, t3⟩ := lu_11 l2 f2 t2 ⟨by omega, by omega⟩ ⟨by omega, by omega⟩ ⟨by omega, by omega⟩ hx5
  obtain ⟨c4, r4, l4, f4, t4⟩ := lu_12 l3 f3 t3 ⟨by omega, by omega⟩ ⟨by omega, by omega⟩ ⟨by omega, by omega⟩ hx5
  exact ⟨c4, r1.tr (r2.tr (r3.tr r4)), l4.1.E, f4, ⟨by omega, by omega, by omega⟩⟩
theorem lu_2 {L : Nat} {xs : Nat → Int32} {n : Nat} {fa : Fa} {c : MsC} {a0 a1 a2 x5 : Int} (hL : LN L xs n fa c) (hE : True) (hF : lg_B2 n x5 [] c.1) (hM : sy_me (sy_ev [0, 0, 0, 0, 0, 0, 0, 0, 0, 0, 0, 0, 0, 0, 0, 0, 0, x5]) lg_0_M c.2) (ht : (c.2.2.2.1 : Int) = a0 ∧ (c.2.2.2.2.1 : Int) = a1 ∧ (c.2.2.2.2.2 : Int) = a2) (b0 : 54 ≤ a0 ∧ a0 ≤ 800000) (b1 : 0 ≤ a1 ∧ a1 ≤ 800000) (b2 : 0 ≤ a2 ∧ a2 ≤ 800000) (hx5 : 54 ≤ x5 ∧ x5 ≤ 900000) : ∃ c', rch c c' ∧ sy_E0 L xs c' ∧ sy_Fs (sy_ev []) [] lg_End c'.1 ∧ ((c'.2.2.2.1 : Int) ≤ a0 + 5 ∧ (c'.2.2.2.2.1 : Int) ≤ a1 + 5 ∧ (c'.2.2.2.2.2 : Int) ≤ a2 + 25) := by
  have hn := hL.1.nr
  obtain ⟨c1, r1, f1, s1, e1⟩ := lg_x2_m (Nat.zero_le _) hL.1.E ⟨by omega, by omega⟩ hx5 hF hM
  have t1 : (c1.2.2.2.1 : Int) = a0 ∧ (c1.2.2.2.2.1 : Int) = a1 ∧ (c1.2.2.2.2.2 : Int) = a2 := by
    rw [s1.2]
    exact ht
  obtain ⟨c2, r2, l2, f2, t2⟩ := lu_20 (hL.sm s1 e1) f1 t1 ⟨by omega, by omega⟩ ⟨by omega, by omega⟩ ⟨by omega, by omega⟩ hx5
  obtain ⟨c3, r3, l3, f3, t3⟩ := lu_21 l2 f2 t2 ⟨by omega, by omega⟩ ⟨by omega, by omega⟩ ⟨by omega, by omega⟩ hx5
  obtain ⟨c4, r4, l4, f4, t4⟩ := lu_22 l3 f3 t3 ⟨by omega, by omega⟩ ⟨by omega, by omega⟩ ⟨by omega, by omega⟩ hx5
  exact ⟨c4, r1.tr (r2.tr (r3.tr r4)), l4.1.E, f4, ⟨by omega, by omega, by omega⟩⟩
theorem lu_3 {L : Nat} {xs : Nat → Int32} {n : Nat} {fa : Fa} {c : MsC} {a0 a1 a2 x5 : Int} (hL : LN L xs n fa c) (hE : True) (hF : lg_B3 n x5 [] c.1) (hM : sy_me (sy_ev [0, 0, 0, 0, 0, 0, 0, 0, 0, 0, 0, 0, 0, 0, 0, 0, 0, x5]) lg_0_M c.2) (ht : (c.2.2.2.1 : Int) = a0 ∧ (c.2.2.2.2.1 : Int) = a1 ∧ (c.2.2.2.2.2 : Int) = a2) (b0 : 54 ≤ a0 ∧ a0 ≤ 800000) (b1 : 0 ≤ a1 ∧ a1 ≤ 800000) (b2 : 0 ≤ a2 ∧ a2 ≤ 800000) (hx5 : 54 ≤ x5 ∧ x5 ≤ 900000) : ∃ c', rch c c' ∧ sy_E0 L xs c' ∧ sy_Fs (sy_ev []) [] lg_End c'.1 ∧ ((c'.2.2.2.1 : Int) ≤ a0 + 5 ∧ (c'.2.2.2.2.1 : Int) ≤ a1 + 5 ∧ (c'.2.2.2.2.2 : Int) ≤ a2 + 25) := by
  have hn := hL.1.nr
  obtain ⟨c1, r1, f1, s1, e1⟩ := lg_x3_m (Nat.zero_le _) hL.1.E ⟨by omega, by omega⟩ hx5 hF hM
  have t1 : (c1.2.2.2.1 : Int) = a0 ∧ (c1.2.2.2.2.1 : Int) = a1 ∧ (c1.2.2.2.2.2 : Int) = a2 := by
    rw [s1.2]
    exact ht
  obtain ⟨c2, r2, l2, f2, t2⟩ := lu_30 (hL.sm s1 e1) f1 t1 ⟨by omega, by omega⟩ ⟨by omega, by omega⟩ ⟨by omega, by omega⟩ hx5
  obtain ⟨c3, r3, l3, f3, t3⟩ := lu_31 l2 f2 t2 ⟨by omega, by omega⟩ ⟨by omega, by omega⟩ ⟨by omega, by omega⟩ hx5
  obtain ⟨c4, r4, l4, f4, t4⟩ := lu_32 l3 f3 t3 ⟨by omega, by omega⟩ ⟨by omega, by omega⟩ ⟨by omega, by omega⟩ hx5
  exact ⟨c4, r1.tr (r2.tr (r3.tr r4)), l4.1.E, f4, ⟨by omega, by omega, by omega⟩⟩
theorem lu_4 {L : Nat} {xs : Nat → Int32} {n : Nat} {fa : Fa} {c : MsC} {a0 a1 a2 x5 : Int} (hL : LN L xs n fa c) (hE : True) (hF : lg_B4 n x5 [] c.1) (hM : sy_me (sy_ev [0, 0, 0, 0, 0, 0, 0, 0, 0, 0, 0, 0, 0, 0, 0, 0, 0, x5]) lg_0_M c.2) (ht : (c.2.2.2.1 : Int) = a0 ∧ (c.2.2.2.2.1 : Int) = a1 ∧ (c.2.2.2.2.2 : Int) = a2) (b0 : 54 ≤ a0 ∧ a0 ≤ 800000) (b1 : 0 ≤ a1 ∧ a1 ≤ 800000) (b2 : 0 ≤ a2 ∧ a2 ≤ 800000) (hx5 : 54 ≤ x5 ∧ x5 ≤ 900000) : ∃ c', rch c c' ∧ sy_E0 L xs c' ∧ sy_Fs (sy_ev []) [] lg_End c'.1 ∧ ((c'.2.2.2.1 : Int) ≤ a0 + 5 ∧ (c'.2.2.2.2.1 : Int) ≤ a1 + 5 ∧ (c'.2.2.2.2.2 : Int) ≤ a2 + 25) := by
  have hn := hL.1.nr
  obtain ⟨c1, r1, f1, s1, e1⟩ := lg_x4_m (Nat.zero_le _) hL.1.E ⟨by omega, by omega⟩ hx5 hF hM
  have t1 : (c1.2.2.2.1 : Int) = a0 ∧ (c1.2.2.2.2.1 : Int) = a1 ∧ (c1.2.2.2.2.2 : Int) = a2 := by
    rw [s1.2]
    exact ht
  obtain ⟨c2, r2, l2, f2, t2⟩ := lu_40 (hL.sm s1 e1) f1 t1 ⟨by omega, by omega⟩ ⟨by omega, by omega⟩ ⟨by omega, by omega⟩ hx5
  obtain ⟨c3, r3, l3, f3, t3⟩ := lu_41 l2 f2 t2 ⟨by omega, by omega⟩ ⟨by omega, by omega⟩ ⟨by omega, by omega⟩ hx5
  obtain ⟨c4, r4, l4, f4, t4⟩ := lu_42 l3 f3 t3 ⟨by omega, by omega⟩ ⟨by omega, by omega⟩ ⟨by omega, by omega⟩ hx5
  exact ⟨c4, r1.tr (r2.tr (r3.tr r4)), l4.1.E, f4, ⟨by omega, by omega, by omega⟩⟩
theorem lu_5 {L : Nat} {xs : Nat → Int32} {n : Nat} {fa : Fa} {c : MsC} {a0 a1 a2 x5 : Int} (hL : LN L xs n fa c) (hE : True) (hF : lg_B5 n x5 [] c.1) (hM : sy_me (sy_ev [0, 0, 0, 0, 0, 0, 0, 0, 0, 0, 0, 0, 0, 0, 0, 0, 0, x5]) lg_0_M c.2) (ht : (c.2.2.2.1 : Int) = a0 ∧ (c.2.2.2.2.1 : Int) = a1 ∧ (c.2.2.2.2.2 : Int) = a2) (b0 : 54 ≤ a0 ∧ a0 ≤ 800000) (b1 : 0 ≤ a1 ∧ a1 ≤ 800000) (b2 : 0 ≤ a2 ∧ a2 ≤ 800000) (hx5 : 54 ≤ x5 ∧ x5 ≤ 900000) : ∃ c', rch c c' ∧ sy_E0 L xs c' ∧ sy_Fs (sy_ev []) [] lg_End c'.1 ∧ ((c'.2.2.2.1 : Int) ≤ a0 + 5 ∧ (c'.2.2.2.2.1 : Int) ≤ a1 + 5 ∧ (c'.2.2.2.2.2 : Int) ≤ a2 + 25) := by
  have hn := hL.1.nr
  obtain ⟨c1, r1, f1, s1, e1⟩ := lg_x5_m (Nat.zero_le _) hL.1.E ⟨by omega, by omega⟩ hx5 hF hM
  have t1 : (c1.2.2.2.1 : Int) = a0 ∧ (c1.2.2.2.2.1 : Int) = a1 ∧ (c1.2.2.2.2.2 : Int) = a2 := by
    rw [s1.2]
    exact ht
  obtain ⟨c2, r2, l2, f2, t2⟩ := lu_50 (hL.sm s1 e1) f1 t1 ⟨by omega, by omega⟩ ⟨by omega, by omega⟩ ⟨by omega, by omega⟩ hx5
  obtain ⟨c3, r3, l3, f3, t3⟩ := lu_51 l2 f2 t2 ⟨by omega, by omega⟩ ⟨by omega, by omega⟩ ⟨by omega, by omega⟩ hx5
  obtain ⟨c4, r4, l4, f4, t4⟩ := lu_52 l3 f3 t3 ⟨by omega, by omega⟩ ⟨by omega, by omega⟩ ⟨by omega, by omega⟩ hx5
  exact ⟨c4, r1.tr (r2.tr (r3.tr r4)), l4.1.E, f4, ⟨by omega, by omega, by omega⟩⟩
theorem lu_6 {L : Nat} {xs : Nat → Int32} {n : Nat} {fa : Fa} {c : MsC} {a0 a1 a2 x5 : Int} (hL : LN L xs n fa c) (hE : True) (hF : lg_B6 n x5 [] c.1) (hM : sy_me (sy_ev [0, 0, 0, 0, 0, 0, 0, 0, 0, 0, 0, 0, 0, 0, 0, 0, 0, x5]) lg_0_M c.2) (ht : (c.2.2.2.1 : Int) = a0 ∧ (c.2.2.2.2.1 : Int) = a1 ∧ (c.2.2.2.2.2 : Int) = a2) (b0 : 54 ≤ a0 ∧ a0 ≤ 800000) (b1 : 0 ≤ a1 ∧ a1 ≤ 800000) (b2 : 0 ≤ a2 ∧ a2 ≤ 800000) (hx5 : 54 ≤ x5 ∧ x5 ≤ 900000) : ∃ c', rch c c' ∧ sy_E0 L xs c' ∧ sy_Fs (sy_ev []) [] lg_End c'.1 ∧ ((c'.2.2.2.1 : Int) ≤ a0 + 5 ∧ (c'.2.2.2.2.1 : Int) ≤ a1 + 5 ∧ (c'.2.2.2.2.2 : Int) ≤ a2 + 25) := by
  have hn := hL.1.nr
  obtain ⟨c1, r1, f1, s1, e1⟩ := lg_x6_m (Nat.zero_le _) hL.1.E ⟨by omega, by omega⟩ hx5 hF hM
  have t1 : (c1.2.2.2.1 : Int) = a0 ∧ (c1.2.2.2.2.1 : Int) = a1 ∧ (c1.2.2.2.2.2 : Int) = a2 := by
    rw [s1.2]
    exact ht
  obtain ⟨c2, r2, l2, f2, t2⟩ := lu_60 (hL.sm s1 e1) f1 t1 ⟨by omega, by omega⟩ ⟨by omega, by omega⟩ ⟨by omega, by omega⟩ hx5
  obtain ⟨c3, r3, l3, f3, t3⟩ := lu_61 l2 f2 t2 ⟨by omega, by omega⟩ ⟨by omega, by omega⟩ ⟨by omega, by omega⟩ hx5
  obtain ⟨c4, r4, l4, f4, t4⟩ := lu_62 l3 f3 t3 ⟨by omega, by omega⟩ ⟨by omega, by omega⟩ ⟨by omega, by omega⟩ hx5
  exact ⟨c4, r1.tr (r2.tr (r3.tr r4)), l4.1.E, f4, ⟨by omega, by omega, by omega⟩⟩
/-- the law about the goals holds -/
theorem law_go {L : Nat} {xs : Nat → Int32} {n : Nat} {fa : Fa} {c : MsC} {a0 a1 a2 : Int} (hL1 : L ≤ 1000) (hL : LN L xs n fa c) (hF : lws_E n [] c.1) (ht : (c.2.2.2.1 : Int) = a0 ∧ (c.2.2.2.2.1 : Int) = a1 ∧ (c.2.2.2.2.2 : Int) = a2) (b0 : 54 ≤ a0 ∧ a0 ≤ 700000) (b1 : 0 ≤ a1 ∧ a1 ≤ 700000) (b2 : 0 ≤ a2 ∧ a2 ≤ 700000) : ∃ c', rch c c' ∧ sy_E0 L xs c' ∧ sy_Fs (sy_ev []) [] lg_End c'.1 ∧ ((c'.2.2.2.1 : Int) ≤ a0 + 6 ∧ (c'.2.2.2.2.1 : Int) ≤ a1 + 6 ∧ (c'.2.2.2.2.2 : Int) ≤ a2 + 32) := by
  have hn := hL.1.nr
  obtain ⟨c1, r1, f1, m1, t1, e1, ch1⟩ := lg_0_m hL1 (Nat.zero_le _) hL.1.E ⟨by omega, by omega⟩ ⟨by omega, by omega⟩ ⟨by omega, by omega⟩ ⟨by omega, by omega⟩ hF (sy_xE_ok hL.1.E (by decide +kernel)) ht
  have k1 : lowk c c1 := .of ch1 hL.1.top fun w hw => by
    rcases List.mem_cons.mp hw with rfl | hw
    · show (54 : Int) ≤ 0 + ((1 : Nat) : Int) * a0
      omega
    · cases hw
  have l1 := hL.low k1 e1
  have m2 : sy_me (sy_ev [0, 0, 0, 0, 0, 0, 0, 0, 0, 0, 0, 0, 0, 0, 0, 0, 0, a0]) lg_0_M c1.2 := sy_b_m (m := [17]) (by exact aa.mem ⟨rfl, trivial⟩) (by decide +kernel) m1
  obtain ⟨x, x1, x2, f2⟩ := fr_top f1
  have hx : x = 0 ∨ x = 1 ∨ x = 2 ∨ x = 3 ∨ x = 4 ∨ x = 5 ∨ x = 6 := by omega
  have fin : (∃ c', rch c1 c' ∧ sy_E0 L xs c' ∧ sy_Fs (sy_ev []) [] lg_End c'.1 ∧ ((c'.2.2.2.1 : Int) ≤ a0 + 1 + 5 ∧ (c'.2.2.2.2.1 : Int) ≤ a1 + 1 + 5 ∧ (c'.2.2.2.2.2 : Int) ≤ a2 + 7 + 25)) → ∃ c', rch c c' ∧ sy_E0 L xs c' ∧ sy_Fs (sy_ev []) [] lg_End c'.1 ∧ ((c'.2.2.2.1 : Int) ≤ a0 + 6 ∧ (c'.2.2.2.2.1 : Int) ≤ a1 + 6 ∧ (c'.2.2.2.2.2 : Int) ≤ a2 + 32) := fun ⟨c2, r2, e2, f2, t2⟩ => ⟨c2, r1.tr r2, e2, f2, by omega, by omega, by omega⟩
  rcases hx with rfl | rfl | rfl | rfl | rfl | rfl | rfl
  · exact fin (lu_0 l1 trivial f2 m2 t1 ⟨by omega, by omega⟩ ⟨by omega, by omega⟩ ⟨by omega, by omega⟩ ⟨by omega, by omega⟩)
  · exact fin (lu_1 l1 trivial f2 m2 t1 ⟨by omega, by omega⟩ ⟨by omega, by omega⟩ ⟨by omega, by omega⟩ ⟨by omega, by omega⟩)
  · exact fin (lu_2 l1 trivial f2 m2 t1 ⟨by omega, by omega⟩ ⟨by omega, by omega⟩ ⟨by omega, by omega⟩ ⟨by omega, by omega⟩)
  · exact fin (lu_3 l1 trivial f2 m2 t1 ⟨by omega, by omega⟩ ⟨by omega, by omega⟩ ⟨by omega, by omega⟩ ⟨by omega, by omega⟩)
  · exact fin (lu_4 l1 trivial f2 m2 t1 ⟨by omega, by omega⟩ ⟨by omega, by omega⟩ ⟨by omega, by omega⟩ ⟨by omega, by omega⟩)
  · exact fin (lu_5 l1 trivial f2 m2 t1 ⟨by omega, by omega⟩ ⟨by omega, by omega⟩ ⟨by omega, by omega⟩ ⟨by omega, by omega⟩)
  · exact fin (lu_6 l1 trivial f2 m2 t1 ⟨by omega, by omega⟩ ⟨by omega, by omega⟩ ⟨by omega, by omega⟩ ⟨by omega, by omega⟩)
