/-! PHASE G (written by wip/p21/gJ.py): runs of s. -/
section Gjs
variable {R : SyM} {L : Nat} {xs : Nat → Int32} {rest : List MsF} {n : Nat} {fa : Fa} {N T s so a0 a1 a2 mo be : Int} {S : AmS}
theorem gs_Jo {st : Nat} (h : gs_J st n fa N T s so a0 a1 a2 S) : 0 ≤ so ∧ so ≤ T := by
  refine ⟨h.1, ?_⟩
  obtain ⟨h0, ⟨e, h | h⟩ | ⟨e, h⟩ | ⟨e, h⟩⟩ := h
  · rcases h with ⟨g1, g2, g3, g4, g5⟩ | ⟨g1, g2, g3, g4⟩ | ⟨i, i2, g1, g2, g3, g4, g5⟩ | ⟨g1, g2, g3, g4⟩ <;> omega
  · rcases h with ⟨t, i, j, i2, g1, g2, g3, g4, g5, g6⟩ | ⟨i, g1, g2, g3, g4, g5⟩ | ⟨g1, g2, g3, g4⟩ | ⟨t, i, g1, g2, g3, g4, g5⟩ <;> omega
  · rcases h with ⟨t, i, j, i2, j2, g1, g2, g3, g4, g5, g6⟩ | ⟨t, i, i2, g1, g2, g3, g4, g5⟩ <;> omega
  · exact Int.le_of_eq h.2.1
theorem gs_Js {st : Nat} (h : gs_J st n fa N T s so a0 a1 a2 S) : s ≤ N := by
  obtain ⟨h0, ⟨e, h | h⟩ | ⟨e, h⟩ | ⟨e, h⟩⟩ := h
  · rcases h with ⟨g1, g2, g3, g4, g5⟩ | ⟨g1, g2, g3, g4⟩ | ⟨i, i2, g1, g2, g3, g4, g5⟩ | ⟨g1, g2, g3, g4⟩ <;> omega
  · rcases h with ⟨t, i, j, i2, g1, g2, g3, g4, g5, g6⟩ | ⟨i, g1, g2, g3, g4, g5⟩ | ⟨g1, g2, g3, g4⟩ | ⟨t, i, g1, g2, g3, g4, g5⟩ <;> omega
  · rcases h with ⟨t, i, j, i2, j2, g1, g2, g3, g4, g5, g6⟩ | ⟨t, i, i2, g1, g2, g3, g4, g5⟩ <;> omega
  · exact Int.le_of_eq h.1
theorem gs_Jq {st : Nat} (h : gs_J st n fa N T s so a0 a1 a2 S) : face st s so S := by
  obtain ⟨h0, ⟨rfl, h | h⟩ | ⟨rfl, h⟩ | ⟨rfl, h⟩⟩ := h
  · rcases h with ⟨rfl, rfl, -, -, m⟩ | ⟨-, -, -, m⟩ | ⟨i, i2, -, -, -, -, m⟩ | ⟨-, -, -, m⟩
    · exact face_ok0 (by decide +kernel) (by decide +kernel) m.1
    · exact face_ok (by decide +kernel) (by decide +kernel) m.1 rfl rfl
    · unfold gs_kQ at m
      cases hx : xq n fa i <;> cases hh : hq i2 <;> rw [hx, hh] at m <;> exact face_ok (by decide +kernel) (by decide +kernel) m.1 rfl rfl
    · exact face_ok (by decide +kernel) (by decide +kernel) m.1 rfl rfl
  · rcases h with ⟨t, i, j, i2, -, -, -, -, -, m⟩ | ⟨i, -, -, -, -, m⟩ | ⟨-, -, -, m⟩ | ⟨t, i, -, -, -, -, m⟩
    · unfold gs_kAQ at m
      cases hx : xq n fa i <;> cases hh : hq i2 <;> rw [hx, hh] at m <;> exact face_ok (by decide +kernel) (by decide +kernel) m.1 rfl rfl
    · exact face_ok (by decide +kernel) (by decide +kernel) m.1 rfl rfl
    · exact face_ok (by decide +kernel) (by decide +kernel) m.1 rfl rfl
    · exact face_ok (by decide +kernel) (by decide +kernel) m.1 rfl rfl
  · rcases h with ⟨t, i, j, i2, j2, -, -, -, -, -, m⟩ | ⟨t, i, i2, -, -, -, -, m⟩
    · unfold gs_kW at m
      cases hx : xq n fa i <;> cases hy : xq n fa j <;> cases hh : hq i2 <;> cases hg : hq j2 <;> rw [hx, hy, hh, hg] at m <;> exact face_ok (by decide +kernel) (by decide +kernel) m.1 rfl rfl
    · unfold gs_kW2 at m
      cases hx : xq n fa i <;> cases hh : hq i2 <;> rw [hx, hh] at m <;> exact face_ok (by decide +kernel) (by decide +kernel) m.1 rfl rfl
  · exact face_ok (by decide +kernel) (by decide +kernel) h.2.2.1 rfl rfl
theorem gs_lp (hr : rest.length ≤ 15) (hN : N ≤ 330) (hT : T ≤ 330) (hmo : 1 ≤ mo ∧ mo ≤ 500) (hbe : 0 ≤ be) : ∀ (d : Nat) (k s so : Int) (st : Nat) (c : MsC), k + d = mo → 0 ≤ k → PN gs_Q R 0 L xs n fa c → gs_F15 k mo be rest c.1 → gs_J st n fa N T s so a0 a1 a2 c.2 → s = be + k → s ≤ N → 0 ≤ so ∧ so ≤ T → ∃ (k' s' so' : Int) (st' : Nat) (c' : MsC), rch c c' ∧ PN gs_Q R 0 L xs n fa c' ∧ lw_F46 s' be rest c'.1 ∧ gs_J st' n fa N T s' so' a0 a1 a2 c'.2 ∧ s' = be + k' ∧ (k ≤ k' ∧ k' ≤ mo) ∧ (k' = k → st' = st) ∧ (st' = 0 → k' = mo) := by
  intro d
  induction d with
  | zero =>
    intro k s so st c hd hk hP hF hJ hs hsN hso
    have e : k = mo := by omega
    subst e
    have hq := gs_Jq hJ
    have hst : st = 0 ∨ st = 1 ∨ st = 2 := by
      obtain ⟨-, ⟨e, -⟩ | ⟨e, -⟩ | ⟨e, -⟩⟩ := hJ
      · exact Or.inl e
      · exact Or.inr (Or.inl e)
      · exact Or.inr (Or.inr e)
    have hF2 : lw_F15e k be rest c.1 := sq_Fs.ok (r := gs_F15d) (pv := sy_ev [0, 0, k, k, be]) ⟨rfl, rfl, ⟨rfl, ⟨rfl, rfl, rfl⟩, rfl, ⟨rfl, rfl, rfl⟩, rfl, ⟨rfl, rfl, rfl⟩, rfl, ⟨rfl, rfl, rfl⟩, trivial⟩, trivial, trivial⟩ hF
    have hq2 := hq.st hst
    obtain ⟨c', r1, f1, s1, e1⟩ := lw_xe_m (by omega) hP.E ⟨by omega, by omega⟩ ⟨by omega, by omega⟩ ⟨by omega, by omega⟩ ⟨by omega, by omega⟩ ⟨by omega, by omega⟩ hF2 hq2
    exact ⟨k, s, so, st, c', r1, hP.sm s1 e1, f1, hJ.sm s1, hs, ⟨Int.le_refl _, Int.le_refl _⟩, fun _ => rfl, fun _ => rfl⟩
  | succ d ih =>
    intro k s so st c hd hk hP hF hJ hs hsN hso
    have hq := gs_Jq hJ
    have hst : st = 0 ∨ st = 1 ∨ st = 2 := by
      obtain ⟨-, ⟨e, -⟩ | ⟨e, -⟩ | ⟨e, -⟩⟩ := hJ
      · exact Or.inl e
      · exact Or.inr (Or.inl e)
      · exact Or.inr (Or.inr e)
    rcases hst with rfl | rfl | rfl
    · have hlt := (gs_Jf hJ).1 rfl
      obtain ⟨st1, so1, c1, r1, p1, f1, j1⟩ := gs_stp hr hN hT hP ⟨hk, by omega, hmo.2⟩ hF hJ
      obtain ⟨k2, s2, so2, st2, c2, r2, p2, f2, j2, q1, q2, q3, q4⟩ := ih (k + 1) (s + 1) so1 st1 c1 (by omega) (by omega) p1 f1 j1 (by omega) (by omega) (gs_Jo j1)
      exact ⟨k2, s2, so2, st2, c2, r1.tr r2, p2, f2, j2, q1, ⟨by omega, q2.2⟩, fun e => by omega, q4⟩
    · obtain ⟨c', r1, f1, s1, e1⟩ := lw_x1_m (by omega) hP.E ⟨by omega, by omega⟩ ⟨by omega, by omega⟩ ⟨by omega, by omega⟩ ⟨by omega, by omega⟩ ⟨by omega, by omega⟩ (by omega) hF hq
      exact ⟨k, s, so, 1, c', r1, hP.sm s1 e1, f1, hJ.sm s1, hs, ⟨Int.le_refl _, by omega⟩, fun _ => rfl, fun e => by omega⟩
    · obtain ⟨c', r1, f1, s1, e1⟩ := lw_x2_m (by omega) hP.E ⟨by omega, by omega⟩ ⟨by omega, by omega⟩ ⟨by omega, by omega⟩ ⟨by omega, by omega⟩ ⟨by omega, by omega⟩ (by omega) hF hq
      exact ⟨k, s, so, 2, c', r1, hP.sm s1 e1, f1, hJ.sm s1, hs, ⟨Int.le_refl _, by omega⟩, fun _ => rfl, fun e => by omega⟩
/-- a run of at most so many steps -/
theorem gs_rn {c : MsC} {st : Nat} (hr : rest.length ≤ 15) (hN : N ≤ 330) (hT : T ≤ 330) (hmo : 1 ≤ mo ∧ mo ≤ 500) (hP : PN gs_Q R 0 L xs n fa c) (hst : st = 0 ∨ st = 1) (hF : lw_F0 mo rest c.1) (hJ : gs_J st n fa N T s so a0 a1 a2 c.2) (hs : 0 ≤ s ∧ s ≤ N) (hso : 0 ≤ so ∧ so ≤ T) : ∃ (k' s' so' : Int) (st' : Nat) (c' : MsC), rch c c' ∧ PN gs_Q R 0 L xs n fa c' ∧ lw_F46 s' s rest c'.1 ∧ gs_J st' n fa N T s' so' a0 a1 a2 c'.2 ∧ s' = s + k' ∧ (0 ≤ k' ∧ k' ≤ mo) ∧ (k' = 0 → st' = 2) := by
  have go : ∀ (st1 : Nat) (c1 : MsC), rch c c1 → PN gs_Q R 0 L xs n fa c1 → lw_F150 s mo rest c1.1 → gs_J st1 n fa N T s so a0 a1 a2 c1.2 → (st1 = 0 ∨ st1 = 2) → ∃ (k' s' so' : Int) (st' : Nat) (c' : MsC), rch c c' ∧ PN gs_Q R 0 L xs n fa c' ∧ lw_F46 s' s rest c'.1 ∧ gs_J st' n fa N T s' so' a0 a1 a2 c'.2 ∧ s' = s + k' ∧ (0 ≤ k' ∧ k' ≤ mo) ∧ (k' = 0 → st' = 2) := fun st1 c1 r1 p1 f1 j1 h1 => by
    have hF2 : gs_F15 0 mo s rest c1.1 := sq_Fs.ok (r := lw_F150d) (pv := sy_ev [0, s, 0, mo]) ⟨rfl, rfl, ⟨rfl, ⟨rfl, rfl, rfl⟩, rfl, ⟨rfl, rfl, rfl⟩, rfl, ⟨rfl, rfl, rfl⟩, rfl, ⟨rfl, rfl, rfl⟩, trivial⟩, trivial, trivial⟩ f1
    obtain ⟨k2, s2, so2, st2, c2, r2, p2, f2, j2, q1, q2, q3, q4⟩ := gs_lp hr hN hT hmo hs.1 mo.toNat 0 s so st1 c1 (by omega) (Int.le_refl _) p1 hF2 j1 (by omega) hs.2 hso
    refine ⟨k2, s2, so2, st2, c2, r1.tr r2, p2, f2, j2, q1, q2, fun e => ?_⟩
    have := q3 e
    rcases h1 with h1 | h1
    · have := q4 (by omega)
      omega
    · omega
  rcases hst with rfl | rfl
  · have hq := gs_Jq hJ
    obtain ⟨c1, r1, f1, s1, e1⟩ := lw_a0_m (by omega) hP.E ⟨by omega, by omega⟩ hmo ⟨by omega, by omega⟩ hF hq
    exact go 0 c1 r1 (hP.sm s1 e1) f1 (hJ.sm s1) (Or.inl rfl)
  · obtain ⟨st1, c1, r1, p1, f1, h1, j1⟩ := gs_bk hr hN hT hP hmo hF hJ
    obtain ⟨c2, r2, f2, s2, e2⟩ := lw_y_m (by omega) p1.E ⟨by omega, by omega⟩ hmo f1
    exact go st1 c2 (r1.tr r2) (p1.sm s2 e2) f2 (j1.sm s2) h1
end Gjs
