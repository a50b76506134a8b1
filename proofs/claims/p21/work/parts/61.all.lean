/-! THE WHOLE RUN OF THE LAW. -/
theorem law_st0 {L : Nat} {xs : Nat → Int32} : sy_E0 L xs ([(am_LW, 0, lv_args 0 [.ref am_EXT], [])], am_S0 L xs) := ⟨fun _ _ _ => rfl, fun _ _ => rfl, Nat.zero_le _⟩
theorem law_ls0 {pv : Nat → Int} : sy_ls pv [(0, (4, 1000000, 0, 0))] (lv_args 0 [.ref am_EXT]) := fun i a h => by
  have h : cond (Nat.beq 0 i) (some ((4, 1000000, 0, 0) : SyV)) none = some a := h
  cases e : Nat.beq 0 i with
  | false => rw [e] at h; cases h
  | true =>
    rw [e] at h
    cases h
    rw [← am_beq e]
    refine ⟨.ref am_EXT, rfl, ?_⟩
    refine ⟨?_, ?_⟩
    · rw [sy_n0 rfl]; decide
    · rw [sy_n0 rfl]; rfl
theorem law_T0 {L : Nat} {xs : Nat → Int32} : sy_T (fun _ => 0) [] ga_A0 ([(am_LW, 0, lv_args 0 [.ref am_EXT], [])], am_S0 L xs) := ⟨⟨_, [], rfl, ⟨rfl, rfl, law_ls0, trivial⟩, rfl⟩, sy_xE_ok law_st0 (by decide +kernel), (show (0 : Int) = 0 + ((0 : Nat) : Int) * 0 by omega), (show (0 : Int) = 0 + ((0 : Nat) : Int) * 0 by omega), (show (0 : Int) = 0 + ((0 : Nat) : Int) * 0 by omega)⟩
theorem law_all {L : Nat} {xs : Nat → Int32} (hL : L ≤ 1000) : ∃ f S', am_go f 60 am_LW 0 (lv_args 0 [.ref am_EXT]) [] (am_S0 L xs) = some (.inl (some (.int 1)), S') ∧ S'.2.2.2.1 ≤ 600086 ∧ S'.2.2.2.2 ≤ 7301442 := by
  obtain ⟨n, fa, c1, hn, hf, r1, t1, k1, w1⟩ := pa_all hL law_T0 (law_st0 (L := L) (xs := xs))
  obtain ⟨r, c2, hr, r2, t2, e2, m2, x2⟩ := pb_all hn hf t1 k1 w1
  obtain ⟨c3, r3, t3, e3, m3, d3⟩ := pc_all hn hr hf t2 e2 m2 x2
  obtain ⟨c4, r4, t4, e4, m4, d4, q4⟩ := pf_all hn hr hf t3 e3 m3 d3
  have i1 : c1.2.1 52 = (61, 1500) ∧ (52 < c1.2.2.2.1 ∨ am_EXT ≤ 52) := t1.2.1.inst 52 61 1500 (by decide +kernel)
  have i2 : 52 < c1.2.2.2.1 := i1.2.elim id fun h => absurd h (by decide)
  have i4 := (rch_k (r2.tr (r3.tr r4))).1 52 i2
  obtain ⟨f4, m5, y1, y2, y3⟩ := t4
  have y1 : (c4.2.2.2.1 : Int) = 54 + ((1 : Nat) : Int) * (r : Int) := y1
  have y2 : (c4.2.2.2.2.1 : Int) = 54 + ((1 : Nat) : Int) * (r : Int) := y2
  have y3 : (c4.2.2.2.2.2 : Int) = 218347 + ((5 : Nat) : Int) * (r : Int) := y3
  have l4 : LN L xs n fa c4 := LN.of hn hf m5 e4 m4 d4 q4 (by omega) (i4.trans i1.1)
  have f5 : lw_0 n [] c4.1 := fr_cv (s := []) (m := [0]) (by decide +kernel) f4 lw_0b (by exact aa.mem ⟨congrFun sy_pv0 _, trivial⟩)
  obtain ⟨c5, r5, l5, f6, u1, u2, u3⟩ := law_rs hL l4 f5 ⟨y1, y2, y3⟩ ⟨by omega, by omega⟩ ⟨by omega, by omega⟩ ⟨by omega, by omega⟩
  obtain ⟨c6, r6, e6, f7, v1, v2, v3⟩ := law_go hL l5 f6 ⟨u1, u2, u3⟩ ⟨by omega, by omega⟩ ⟨by omega, by omega⟩ ⟨by omega, by omega⟩
  obtain ⟨fs, S6⟩ := c6
  obtain ⟨⟨j, n', ls', st'⟩, q, ee, ⟨g1, g2, g3, g4⟩, hq⟩ := f7
  have hq : q = [] := hq
  dsimp only at g1 g2 g4 ee v1 v2 v3
  obtain ⟨v, vs, w1, hv, h1⟩ := g4.cons
  obtain ⟨x, rfl, ex⟩ := hv
  rw [sy_n0 rfl] at ex
  have ex : x = 1 := Int32.toInt_inj.mp ex
  have rr := r1.tr (r2.tr (r3.tr (r4.tr (r5.tr r6))))
  rw [ee, hq, g1, g2, w1, h1.nil, ex] at rr
  obtain ⟨f, hgo⟩ := ms_go (o := (41, 0, 10, 0, [])) (v := some (.int 1)) rr rfl rfl rfl rfl
  exact ⟨f, S6, hgo, by omega, by omega⟩
