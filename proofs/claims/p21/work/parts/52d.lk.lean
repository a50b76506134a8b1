/-! PHASE G (written by wip/p21/gK.py): the law's loops. -/
def lw_HB : SyM := [lw0_i0_D.head!]
section GkS
variable {pv pw : Nat → Int} {R D : SyM} {S : AmS} {rest mid : List MsF} {c : MsC} {L : Nat} {xs : Nat → Int32} {n : Nat} {fa : Fa} {N T s so a0 a1 a2 mo be x5 x6 k : Int}
theorem sy_me.hb (h : sy_me pv R S) (hR : (R.any (fun e => qe_M [e] lw_HB) && lw_HB.all (sy_bE [])) = true) : sy_me pw lw_HB S := by
  obtain ⟨h1, h2⟩ := Bool.and_eq_true_iff.mp hR
  obtain ⟨e, he, h3⟩ := List.any_eq_true.mp h1
  have h4 : sy_me pv lw_HB S := by
    rw [← qe_M_ok h3]
    intro d hd
    rcases List.mem_cons.mp hd with rfl | hd
    · exact h d he
    · cases hd
  exact h4.const h2
/-- the calls' end: what was done in a call of advance -/
theorem lw_sub {s9 : Int} (hF : lw_F46 s9 be rest c.1) (hk : s9 = be + k) (hb : 0 ≤ k ∧ k ≤ 1000) : ∃ c', rch c c' ∧ lw_F47 k rest c'.1 ∧ c'.2 = c.2 := by
  have hF2 : sy_Fs (sy_ev [0, s9, k, 0, be]) rest lw_F46d c.1 := sy_b_F (m := [1, 4]) (by exact aa.mem ⟨rfl, rfl, trivial⟩) lw_F46b hF
  obtain ⟨c', r1, f1, e1⟩ := fr_bin (pv := sy_ev [0, s9, k, 0, be]) (x := (0, 0, 1, 1)) (y := (0, 0, 4, 1)) (z := (0, 0, 2, 1)) (b := 1) rfl rfl rfl rfl (Or.inr ⟨rfl, by show 0 + ((1 : Nat) : Int) * k = (0 + ((1 : Nat) : Int) * s9) - (0 + ((1 : Nat) : Int) * be); omega⟩) (by show -1000000 ≤ 0 + ((1 : Nat) : Int) * k ∧ 0 + ((1 : Nat) : Int) * k ≤ 1000000; omega) hF2
  exact ⟨c', r1, sy_b_F (m := [2]) (by exact aa.mem ⟨rfl, trivial⟩) lw_F47b f1, e1⟩
theorem face.hb (hP : sy_me pv R S) (hR : (R.any (fun e => qe_M [e] lw_HB) && lw_HB.all (sy_bE [])) = true) (h : sy_me pw D S) : sy_me pw (lw_HB ++ D) S := (hP.hb hR).app h
end GkS
theorem lw0_loop {R : SyM} {L : Nat} {xs : Nat → Int32} {n : Nat} {fa : Fa} {N T a0 a1 a2 mo x5 x6 : Int} (gr_hb : (R.any (fun e => qe_M [e] lw_HB) && lw_HB.all (sy_bE [])) = true) (hN : N ≤ 330) (hT : T ≤ 330) (hmo : 1 ≤ mo ∧ mo ≤ 500) (hx5 : 54 ≤ x5 ∧ x5 ≤ 900000) (hx6 : 54 ≤ x6 ∧ x6 ≤ 900000) : ∀ (d : Nat) (s so : Int) (st : Nat) (c : MsC), N < s + d → 0 ≤ s ∧ s ≤ N → PN gr_Q R 0 L xs n fa c → lw0_L n s mo x5 x6 [] c.1 → gr_J st n fa N T s so a0 a1 a2 c.2 → ∃ c', rch c c' ∧ PN gr_Q R 0 L xs n fa c' ∧ lw0_S n T x5 x6 [] c'.1 ∧ gr_J 2 n fa N T N T a0 a1 a2 c'.2 := by
  intro d
  induction d with
  | zero => intro s so st c hd hs; omega
  | succ d ih =>
    intro s so st c hd hs hP hF hJ
    have hn := hP.nr
    have hso := gr_Jo hJ
    have hst : st = 2 ∨ (st = 0 ∨ st = 1) := by
      obtain ⟨-, ⟨e, -⟩ | ⟨e, -⟩ | ⟨e, -⟩⟩ := hJ
      · exact Or.inr (Or.inl e)
      · exact Or.inr (Or.inr e)
      · exact Or.inl e
    have hq := gr_Jq hJ
    have ih0 : ∀ (s so : Int) (c : MsC), PN gr_Q R 0 L xs n fa c → lw0_L n s mo x5 x6 [] c.1 → gr_J 2 n fa N T s so a0 a1 a2 c.2 → 0 ≤ s → ∃ c', rch c c' ∧ PN gr_Q R 0 L xs n fa c' ∧ lw0_S n T x5 x6 [] c'.1 ∧ gr_J 2 n fa N T N T a0 a1 a2 c'.2 := fun s so c hP hF hJ hs => by
      obtain ⟨e1, e2⟩ := (gr_Jf hJ).2 rfl
      have hso := gr_Jo hJ
      have hq := gr_Jq hJ
      rw [e1, e2] at hJ hq
      rw [e1] at hF
      obtain ⟨c', r1, f1, s1, e1⟩ := lw0_e_m (Nat.zero_le _) hP.E ⟨by omega, by omega⟩ ⟨by omega, by omega⟩ hmo ⟨by omega, by omega⟩ hx5 hx6 hF (face.hb hP.2.1.2 gr_hb hq)
      exact ⟨c', r1, hP.sm s1 e1, f1, hJ.sm s1⟩
    rcases hst with rfl | hst
    · exact ih0 s so c hP hF hJ hs.1
    · have go : (∃ c1, rch c c1 ∧ lw0_Rs n s mo x5 x6 [] c1.1 ∧ sy_sm c.2 c1.2 ∧ sy_E0 L xs c1) → ∃ c', rch c c' ∧ PN gr_Q R 0 L xs n fa c' ∧ lw0_S n T x5 x6 [] c'.1 ∧ gr_J 2 n fa N T N T a0 a1 a2 c'.2 := fun ⟨c1, r1, f1, s1, e1⟩ => by
        have p1 := hP.sm s1 e1
        obtain ⟨mid, h2, h3⟩ := sy_Fs_app (A := lw_F0d) (B := lw0_Rsd.tail) f1
        have f0 : lw_F0 mo mid c1.1 := sy_b_F (m := [3]) (by exact aa.mem ⟨rfl, trivial⟩) lw_F0b h3
        have hmid : lw0_R n mo s x5 x6 [] mid := fr_cv (s := [(4, (0, 0, 1, 1))]) (by decide +kernel) h2 lw0_Rb (sp_c (sp_i rfl rfl) (sp_c (sp_i rfl rfl) (sp_c (sp_a rfl (by show 0 + ((1 : Nat) : Int) * s = s; omega)) (sp_c (sp_i rfl rfl) (sp_c (sp_i rfl rfl) sp_0)))))
        have hml := sy_Fs.len h2
        have hml : mid.length = 2 := hml
        obtain ⟨k', s', so', st', c2, r2, p2, f2, j2, q1, q2, q3⟩ := gr_rn (by omega) hN hT hmo p1 hst f0 (hJ.sm s1) hs hso
        obtain ⟨c3, r3, f3, e3⟩ := lw_sub f2 q1 ⟨by omega, by omega⟩
        have p3 := p2.mem e3
        have j3 : gr_J st' n fa N T s' so' a0 a1 a2 c3.2 := by rw [e3]; exact j2
        have hso3 := gr_Jo j3
        have hst3 : st' = 0 ∨ st' = 1 ∨ st' = 2 := by
          obtain ⟨-, ⟨e, -⟩ | ⟨e, -⟩ | ⟨e, -⟩⟩ := j3
          · exact Or.inl e
          · exact Or.inr (Or.inl e)
          · exact Or.inr (Or.inr e)
        have hs3 : s' ≤ N := by
          have h1 := (gr_Jf j3).1
          have h2 := (gr_Jf j3).2
          have h3 := gr_Js j3
          omega
        have hq3 : sy_me (sy_ev [0, s', 0, 0, 0, 0, 0, 0, 0, 0, 0, 0, 0, 0, so', 0, 0, 0, 0, (st' : Int)]) (lw_HB ++ lw_xe_D) c3.2 := face.hb p3.2.1.2 gr_hb ((gr_Jq j3).st hst3)
        have fin : ∀ c4 : MsC, rch c c4 → PN gr_Q R 0 L xs n fa c4 → lw0_H n s' mo s x5 x6 [] c4.1 → gr_J st' n fa N T s' so' a0 a1 a2 c4.2 → ∃ c', rch c c' ∧ PN gr_Q R 0 L xs n fa c' ∧ lw0_S n T x5 x6 [] c'.1 ∧ gr_J 2 n fa N T N T a0 a1 a2 c'.2 := fun c4 r4 p4 f4 j4 => by
          obtain ⟨c5, r5, f5, s5, e5⟩ := lw0_l_m (Nat.zero_le _) p4.E ⟨by omega, by omega⟩ ⟨by omega, by omega⟩ hmo ⟨by omega, by omega⟩ hx5 hx6 f4
          by_cases hk : k' = 0
          · have e2 := q3 hk
            subst e2
            obtain ⟨c6, r6, p6, f6, j6⟩ := ih0 s' so' c5 (p4.sm s5 e5) f5 (j4.sm s5) (by omega)
            exact ⟨c6, r4.tr (r5.tr r6), p6, f6, j6⟩
          · obtain ⟨c6, r6, p6, f6, j6⟩ := ih s' so' st' c5 (by omega) ⟨by omega, hs3⟩ (p4.sm s5 e5) f5 (j4.sm s5)
            exact ⟨c6, r4.tr (r5.tr r6), p6, f6, j6⟩
        by_cases hk0 : k' = 0
        · subst hk0
          have g1 : sy_Fs (sy_ev [(n : Int), s', 0, mo, s, 0, 0, 0, 0, 0, 0, 0, 0, 0, so', 0, 0, x5, x6]) [] lw0_Rd mid := sy_b_F (m := [0, 3, 4, 17, 18]) (by exact aa.mem ⟨rfl, rfl, rfl, rfl, rfl, trivial⟩) lw0_Rb hmid
          have g2 : sy_Fs (sy_ev [(n : Int), s', 0, mo, s, 0, 0, 0, 0, 0, 0, 0, 0, 0, so', 0, 0, x5, x6]) mid [(81, 47, [(0, (4, 33, 0, 0))], [(0, 0, 0, 0)])] c3.1 := sq_Fs.ok (r := lw_F47d) (pv := sy_ev [0, 0, 0]) ⟨rfl, rfl, ⟨rfl, ⟨rfl, rfl, (sy_n0 rfl).trans (sy_n0 rfl).symm⟩, trivial⟩, ⟨⟨rfl, rfl, (show 0 + ((1 : Nat) : Int) * 0 = (0 : Int) by omega).trans (sy_n0 (pv := sy_ev [(n : Int), s', 0, mo, s, 0, 0, 0, 0, 0, 0, 0, 0, 0, so', 0, 0, x5, x6]) (a := (0, 0, 0, 0)) rfl).symm⟩, trivial⟩, trivial⟩ f3
          have f5 : lw0_C0 n mo s x5 x6 [] c3.1 := sy_b_F (m := [0, 3, 4, 17, 18]) (by exact aa.mem ⟨rfl, rfl, rfl, rfl, rfl, trivial⟩) lw0_C0b (sy_Fs_join g1 g2)
          obtain ⟨c4, r4, f6, s4, e4⟩ := lw0_c0_m (Nat.zero_le _) p3.E ⟨by omega, by omega⟩ ⟨by omega, by omega⟩ hmo ⟨by omega, by omega⟩ ⟨by omega, by omega⟩ hx5 hx6 ⟨by omega, by omega⟩ f5 hq3
          obtain ⟨c5, r5, f7, e5⟩ := fr_bin (c := c4) (pv := sy_ev [(n : Int), s', 0, mo, s, 0, 0, 0, 0, 0, 0, 0, 0, 0, so', 0, 0, x5, x6]) (x := (0, 0, 4, 1)) (y := (0, 0, 0, 0)) (z := (0, 0, 1, 1)) (b := 0) rfl rfl rfl rfl (Or.inl ⟨rfl, by show 0 + ((1 : Nat) : Int) * s' = (0 + ((1 : Nat) : Int) * s) + sy_n _ (0, 0, 0, 0); rw [sy_n0 rfl]; show 0 + ((1 : Nat) : Int) * s' = (0 + ((1 : Nat) : Int) * s) + 0; omega⟩) (by show -1000000 ≤ 0 + ((1 : Nat) : Int) * s' ∧ 0 + ((1 : Nat) : Int) * s' ≤ 1000000; omega) (sy_b_F (m := [0, 1, 3, 4, 17, 18]) (by exact aa.mem ⟨rfl, rfl, rfl, rfl, rfl, rfl, trivial⟩) lw0_D0b f6)
          have p5 := (p3.sm s4 e4).mem e5
          have j5 : gr_J st' n fa N T s' so' a0 a1 a2 c5.2 := by rw [e5]; exact j3.sm s4
          have f8 : lw0_E0 n s' mo s x5 x6 [] c5.1 := sy_b_F (m := [0, 1, 3, 4, 17, 18]) (by exact aa.mem ⟨rfl, rfl, rfl, rfl, rfl, rfl, trivial⟩) lw0_E0b f7
          have hq5 : sy_me (sy_ev [0, s', 0, 0, 0, 0, 0, 0, 0, 0, 0, 0, 0, 0, so', 0, 0, 0, 0, (st' : Int)]) (lw_HB ++ lw_xe_D) c5.2 := face.hb p5.2.1.2 gr_hb ((gr_Jq j5).st hst3)
          have hst2 := q3 rfl
          obtain ⟨c6, r6, f9, s6, e6⟩ := lw0_n0_m (Nat.zero_le _) p5.E ⟨by omega, by omega⟩ ⟨by omega, by omega⟩ hmo ⟨by omega, by omega⟩ ⟨by omega, by omega⟩ hx5 hx6 ⟨by omega, by omega⟩ f8 hq5
          obtain ⟨c7, r7, f10, e7⟩ := fr_bin (c := c6) (pv := sy_ev [(n : Int), s', 0, mo, s, 0, 0, 0, 0, 0, 0, 0, 0, 0, so', 0, 0, x5, x6]) (x := (0, 0, 4, 1)) (y := (0, 0, 0, 0)) (z := (0, 0, 1, 1)) (b := 0) rfl rfl rfl rfl (Or.inl ⟨rfl, by show 0 + ((1 : Nat) : Int) * s' = (0 + ((1 : Nat) : Int) * s) + sy_n _ (0, 0, 0, 0); rw [sy_n0 rfl]; show 0 + ((1 : Nat) : Int) * s' = (0 + ((1 : Nat) : Int) * s) + 0; omega⟩) (by show -1000000 ≤ 0 + ((1 : Nat) : Int) * s' ∧ 0 + ((1 : Nat) : Int) * s' ≤ 1000000; omega) (sy_b_F (m := [0, 3, 4, 17, 18]) (by exact aa.mem ⟨rfl, rfl, rfl, rfl, rfl, trivial⟩) lw0_G0b f9)
          exact fin c7 (r1.tr (r2.tr (r3.tr (r4.tr (r5.tr (r6.tr r7)))))) ((p5.sm s6 e6).mem e7) (sy_b_F (pv := sy_ev [(n : Int), s', 0, mo, s, 0, 0, 0, 0, 0, 0, 0, 0, 0, so', 0, 0, x5, x6]) (m := [0, 1, 3, 4, 17, 18]) (by exact aa.mem ⟨rfl, rfl, rfl, rfl, rfl, rfl, trivial⟩) lw0_Hb (by have h := fr_cv (s := []) (m := [0, 1, 3, 4, 17, 18]) (r := lw0_Hd) (pw := sy_ev [(n : Int), s', 0, mo, s, 0, 0, 0, 0, 0, 0, 0, 0, 0, so', 0, 0, x5, x6]) (by decide +kernel) f10 lw0_Hb (by exact aa.mem ⟨congrFun sy_pv0 _, congrFun sy_pv0 _, congrFun sy_pv0 _, congrFun sy_pv0 _, congrFun sy_pv0 _, congrFun sy_pv0 _, trivial⟩); exact h)) (by rw [e7]; exact j5.sm s6)
        · by_cases hkm : k' = mo
          · subst hkm
            have g1 : sy_Fs (sy_ev [(n : Int), s', k', k', s, 0, 0, 0, 0, 0, 0, 0, 0, 0, so', 0, 0, x5, x6]) [] lw0_Rd mid := sy_b_F (m := [0, 3, 4, 17, 18]) (by exact aa.mem ⟨rfl, rfl, rfl, rfl, rfl, trivial⟩) lw0_Rb hmid
            have g2 : sy_Fs (sy_ev [(n : Int), s', k', k', s, 0, 0, 0, 0, 0, 0, 0, 0, 0, so', 0, 0, x5, x6]) mid [(81, 47, [(0, (4, 33, 0, 0))], [(0, 0, 3, 1)])] c3.1 := fr_cv (s := [(3, (0, 0, 2, 1))]) (m := [3]) (by decide +kernel) f3 (by decide +kernel) (sp_c (sp_a rfl (by show 0 + ((1 : Nat) : Int) * k' = k'; omega)) sp_0)
            have f5 : lw0_Cm n k' s x5 x6 [] c3.1 := sy_b_F (m := [0, 3, 4, 17, 18]) (by exact aa.mem ⟨rfl, rfl, rfl, rfl, rfl, trivial⟩) lw0_Cmb (sy_Fs_join g1 g2)
            obtain ⟨c4, r4, f6, s4, e4⟩ := lw0_cm_m (Nat.zero_le _) p3.E ⟨by omega, by omega⟩ ⟨by omega, by omega⟩ hmo ⟨by omega, by omega⟩ ⟨by omega, by omega⟩ hx5 hx6 ⟨by omega, by omega⟩ f5 hq3
            obtain ⟨c5, r5, f7, e5⟩ := fr_bin (c := c4) (pv := sy_ev [(n : Int), s', k', k', s, 0, 0, 0, 0, 0, 0, 0, 0, 0, so', 0, 0, x5, x6]) (x := (0, 0, 4, 1)) (y := (0, 0, 3, 1)) (z := (0, 0, 1, 1)) (b := 0) rfl rfl rfl rfl (Or.inl ⟨rfl, by show 0 + ((1 : Nat) : Int) * s' = (0 + ((1 : Nat) : Int) * s) + (0 + ((1 : Nat) : Int) * k'); omega⟩) (by show -1000000 ≤ 0 + ((1 : Nat) : Int) * s' ∧ 0 + ((1 : Nat) : Int) * s' ≤ 1000000; omega) (sy_b_F (m := [0, 1, 3, 4, 17, 18]) (by exact aa.mem ⟨rfl, rfl, rfl, rfl, rfl, rfl, trivial⟩) lw0_Dmb f6)
            have p5 := (p3.sm s4 e4).mem e5
            have j5 : gr_J st' n fa N T s' so' a0 a1 a2 c5.2 := by rw [e5]; exact j3.sm s4
            have f8 : lw0_Em n s' k' s x5 x6 [] c5.1 := sy_b_F (m := [0, 1, 3, 4, 17, 18]) (by exact aa.mem ⟨rfl, rfl, rfl, rfl, rfl, rfl, trivial⟩) lw0_Emb f7
            obtain ⟨c6, r6, f9, s6, e6⟩ := lw0_nm_m (Nat.zero_le _) p5.E ⟨by omega, by omega⟩ ⟨by omega, by omega⟩ ⟨by omega, by omega⟩ ⟨by omega, by omega⟩ hx5 hx6 f8
            obtain ⟨c7, r7, f10, e7⟩ := fr_bin (c := c6) (pv := sy_ev [(n : Int), s', k', k', s, 0, 0, 0, 0, 0, 0, 0, 0, 0, so', 0, 0, x5, x6]) (x := (0, 0, 4, 1)) (y := (0, 0, 3, 1)) (z := (0, 0, 1, 1)) (b := 0) rfl rfl rfl rfl (Or.inl ⟨rfl, by show 0 + ((1 : Nat) : Int) * s' = (0 + ((1 : Nat) : Int) * s) + (0 + ((1 : Nat) : Int) * k'); omega⟩) (by show -1000000 ≤ 0 + ((1 : Nat) : Int) * s' ∧ 0 + ((1 : Nat) : Int) * s' ≤ 1000000; omega) (sy_b_F (m := [0, 3, 4, 17, 18]) (by exact aa.mem ⟨rfl, rfl, rfl, rfl, rfl, trivial⟩) lw0_Gmb f9)
            exact fin c7 (r1.tr (r2.tr (r3.tr (r4.tr (r5.tr (r6.tr r7)))))) ((p5.sm s6 e6).mem e7) (sy_b_F (pv := sy_ev [(n : Int), s', k', k', s, 0, 0, 0, 0, 0, 0, 0, 0, 0, so', 0, 0, x5, x6]) (m := [0, 1, 3, 4, 17, 18]) (by exact aa.mem ⟨rfl, rfl, rfl, rfl, rfl, rfl, trivial⟩) lw0_Hb (by have h := fr_cv (s := []) (m := [0, 1, 3, 4, 17, 18]) (r := lw0_Hd) (pw := sy_ev [(n : Int), s', k', k', s, 0, 0, 0, 0, 0, 0, 0, 0, 0, so', 0, 0, x5, x6]) (by decide +kernel) f10 lw0_Hb (by exact aa.mem ⟨congrFun sy_pv0 _, congrFun sy_pv0 _, congrFun sy_pv0 _, congrFun sy_pv0 _, congrFun sy_pv0 _, congrFun sy_pv0 _, trivial⟩); exact h)) (by rw [e7]; exact j5.sm s6)
          · have g1 : sy_Fs (sy_ev [(n : Int), s', k', mo, s, 0, 0, 0, 0, 0, 0, 0, 0, 0, so', 0, 0, x5, x6]) [] lw0_Rd mid := sy_b_F (m := [0, 3, 4, 17, 18]) (by exact aa.mem ⟨rfl, rfl, rfl, rfl, rfl, trivial⟩) lw0_Rb hmid
            have g2 : sy_Fs (sy_ev [(n : Int), s', k', mo, s, 0, 0, 0, 0, 0, 0, 0, 0, 0, so', 0, 0, x5, x6]) mid lw_F47d c3.1 := sy_b_F (m := [2]) (by exact aa.mem ⟨rfl, trivial⟩) lw_F47b f3
            have f5 : lw0_Ck n k' mo s x5 x6 [] c3.1 := sy_b_F (m := [0, 2, 3, 4, 17, 18]) (by exact aa.mem ⟨rfl, rfl, rfl, rfl, rfl, rfl, trivial⟩) lw0_Ckb (sy_Fs_join g1 g2)
            obtain ⟨c4, r4, f6, s4, e4⟩ := lw0_ck_m (Nat.zero_le _) p3.E ⟨by omega, by omega⟩ ⟨by omega, by omega⟩ ⟨by omega, by omega⟩ hmo ⟨by omega, by omega⟩ ⟨by omega, by omega⟩ hx5 hx6 ⟨by omega, by omega⟩ (by omega) f5 hq3
            obtain ⟨c5, r5, f7, e5⟩ := fr_bin (c := c4) (pv := sy_ev [(n : Int), s', k', mo, s, 0, 0, 0, 0, 0, 0, 0, 0, 0, so', 0, 0, x5, x6]) (x := (0, 0, 4, 1)) (y := (0, 0, 2, 1)) (z := (0, 0, 1, 1)) (b := 0) rfl rfl rfl rfl (Or.inl ⟨rfl, by show 0 + ((1 : Nat) : Int) * s' = (0 + ((1 : Nat) : Int) * s) + (0 + ((1 : Nat) : Int) * k'); omega⟩) (by show -1000000 ≤ 0 + ((1 : Nat) : Int) * s' ∧ 0 + ((1 : Nat) : Int) * s' ≤ 1000000; omega) (sy_b_F (m := [0, 1, 2, 3, 4, 17, 18]) (by exact aa.mem ⟨rfl, rfl, rfl, rfl, rfl, rfl, rfl, trivial⟩) lw0_Dkb f6)
            have p5 := (p3.sm s4 e4).mem e5
            have j5 : gr_J st' n fa N T s' so' a0 a1 a2 c5.2 := by rw [e5]; exact j3.sm s4
            have f8 : lw0_Ek n s' k' mo s x5 x6 [] c5.1 := sy_b_F (m := [0, 1, 2, 3, 4, 17, 18]) (by exact aa.mem ⟨rfl, rfl, rfl, rfl, rfl, rfl, rfl, trivial⟩) lw0_Ekb f7
            obtain ⟨c6, r6, f9, s6, e6⟩ := lw0_nk_m (Nat.zero_le _) p5.E ⟨by omega, by omega⟩ ⟨by omega, by omega⟩ ⟨by omega, by omega⟩ hmo ⟨by omega, by omega⟩ hx5 hx6 (by omega) f8
            obtain ⟨c7, r7, f10, e7⟩ := fr_bin (c := c6) (pv := sy_ev [(n : Int), s', k', mo, s, 0, 0, 0, 0, 0, 0, 0, 0, 0, so', 0, 0, x5, x6]) (x := (0, 0, 4, 1)) (y := (0, 0, 2, 1)) (z := (0, 0, 1, 1)) (b := 0) rfl rfl rfl rfl (Or.inl ⟨rfl, by show 0 + ((1 : Nat) : Int) * s' = (0 + ((1 : Nat) : Int) * s) + (0 + ((1 : Nat) : Int) * k'); omega⟩) (by show -1000000 ≤ 0 + ((1 : Nat) : Int) * s' ∧ 0 + ((1 : Nat) : Int) * s' ≤ 1000000; omega) (sy_b_F (m := [0, 2, 3, 4, 17, 18]) (by exact aa.mem ⟨rfl, rfl, rfl, rfl, rfl, rfl, trivial⟩) lw0_Gkb f9)
            exact fin c7 (r1.tr (r2.tr (r3.tr (r4.tr (r5.tr (r6.tr r7)))))) ((p5.sm s6 e6).mem e7) (sy_b_F (pv := sy_ev [(n : Int), s', k', mo, s, 0, 0, 0, 0, 0, 0, 0, 0, 0, so', 0, 0, x5, x6]) (m := [0, 1, 3, 4, 17, 18]) (by exact aa.mem ⟨rfl, rfl, rfl, rfl, rfl, rfl, trivial⟩) lw0_Hb (by have h := fr_cv (s := []) (m := [0, 1, 3, 4, 17, 18]) (r := lw0_Hd) (pw := sy_ev [(n : Int), s', k', mo, s, 0, 0, 0, 0, 0, 0, 0, 0, 0, so', 0, 0, x5, x6]) (by decide +kernel) f10 lw0_Hb (by exact aa.mem ⟨congrFun sy_pv0 _, congrFun sy_pv0 _, congrFun sy_pv0 _, congrFun sy_pv0 _, congrFun sy_pv0 _, congrFun sy_pv0 _, trivial⟩); exact h)) (by rw [e7]; exact j5.sm s6)
      rcases hst with rfl | rfl
      · exact go (lw0_i0_m (Nat.zero_le _) hP.E ⟨by omega, by omega⟩ ⟨by omega, by omega⟩ hmo ⟨by omega, by omega⟩ hx5 hx6 hF (face.hb hP.2.1.2 gr_hb hq))
      · exact go (lw0_i1_m (Nat.zero_le _) hP.E ⟨by omega, by omega⟩ ⟨by omega, by omega⟩ hmo ⟨by omega, by omega⟩ hx5 hx6 hF (face.hb hP.2.1.2 gr_hb hq))
theorem lw1_loop {R : SyM} {L : Nat} {xs : Nat → Int32} {n : Nat} {fa : Fa} {N T a0 a1 a2 mo x5 x6 : Int} (gr_hb : (R.any (fun e => qe_M [e] lw_HB) && lw_HB.all (sy_bE [])) = true) (hN : N ≤ 330) (hT : T ≤ 330) (hmo : 1 ≤ mo ∧ mo ≤ 500) (hx5 : 54 ≤ x5 ∧ x5 ≤ 900000) (hx6 : 54 ≤ x6 ∧ x6 ≤ 900000) : ∀ (d : Nat) (s so : Int) (st : Nat) (c : MsC), N < s + d → 0 ≤ s ∧ s ≤ N → PN gr_Q R 0 L xs n fa c → lw1_L n s mo x5 x6 [] c.1 → gr_J st n fa N T s so a0 a1 a2 c.2 → ∃ c', rch c c' ∧ PN gr_Q R 0 L xs n fa c' ∧ lw1_S n T x5 x6 [] c'.1 ∧ gr_J 2 n fa N T N T a0 a1 a2 c'.2 := by
  intro d
  induction d with
  | zero => intro s so st c hd hs; omega
  | succ d ih =>
    intro s so st c hd hs hP hF hJ
    have hn := hP.nr
    have hso := gr_Jo hJ
    have hst : st = 2 ∨ (st = 0 ∨ st = 1) := by
      obtain ⟨-, ⟨e, -⟩ | ⟨e, -⟩ | ⟨e, -⟩⟩ := hJ
      · exact Or.inr (Or.inl e)
      · exact Or.inr (Or.inr e)
      · exact Or.inl e
    have hq := gr_Jq hJ
    have ih0 : ∀ (s so : Int) (c : MsC), PN gr_Q R 0 L xs n fa c → lw1_L n s mo x5 x6 [] c.1 → gr_J 2 n fa N T s so a0 a1 a2 c.2 → 0 ≤ s → ∃ c', rch c c' ∧ PN gr_Q R 0 L xs n fa c' ∧ lw1_S n T x5 x6 [] c'.1 ∧ gr_J 2 n fa N T N T a0 a1 a2 c'.2 := fun s so c hP hF hJ hs => by
      obtain ⟨e1, e2⟩ := (gr_Jf hJ).2 rfl
      have hso := gr_Jo hJ
      have hq := gr_Jq hJ
      rw [e1, e2] at hJ hq
      rw [e1] at hF
      obtain ⟨c', r1, f1, s1, e1⟩ := lw1_e_m (Nat.zero_le _) hP.E ⟨by omega, by omega⟩ ⟨by omega, by omega⟩ hmo ⟨by omega, by omega⟩ hx5 hx6 hF (face.hb hP.2.1.2 gr_hb hq)
      exact ⟨c', r1, hP.sm s1 e1, f1, hJ.sm s1⟩
    rcases hst with rfl | hst
    · exact ih0 s so c hP hF hJ hs.1
    · have go : (∃ c1, rch c c1 ∧ lw1_Rs n s mo x5 x6 [] c1.1 ∧ sy_sm c.2 c1.2 ∧ sy_E0 L xs c1) → ∃ c', rch c c' ∧ PN gr_Q R 0 L xs n fa c' ∧ lw1_S n T x5 x6 [] c'.1 ∧ gr_J 2 n fa N T N T a0 a1 a2 c'.2 := fun ⟨c1, r1, f1, s1, e1⟩ => by
        have p1 := hP.sm s1 e1
        obtain ⟨mid, h2, h3⟩ := sy_Fs_app (A := lw_F0d) (B := lw1_Rsd.tail) f1
        have f0 : lw_F0 mo mid c1.1 := sy_b_F (m := [3]) (by exact aa.mem ⟨rfl, trivial⟩) lw_F0b h3
        have hmid : lw1_R n mo s x5 x6 [] mid := fr_cv (s := [(4, (0, 0, 1, 1))]) (by decide +kernel) h2 lw1_Rb (sp_c (sp_i rfl rfl) (sp_c (sp_i rfl rfl) (sp_c (sp_a rfl (by show 0 + ((1 : Nat) : Int) * s = s; omega)) (sp_c (sp_i rfl rfl) (sp_c (sp_i rfl rfl) sp_0)))))
        have hml := sy_Fs.len h2
        have hml : mid.length = 2 := hml
        obtain ⟨k', s', so', st', c2, r2, p2, f2, j2, q1, q2, q3⟩ := gr_rn (by omega) hN hT hmo p1 hst f0 (hJ.sm s1) hs hso
        obtain ⟨c3, r3, f3, e3⟩ := lw_sub f2 q1 ⟨by omega, by omega⟩
        have p3 := p2.mem e3
        have j3 : gr_J st' n fa N T s' so' a0 a1 a2 c3.2 := by rw [e3]; exact j2
        have hso3 := gr_Jo j3
        have hst3 : st' = 0 ∨ st' = 1 ∨ st' = 2 := by
          obtain ⟨-, ⟨e, -⟩ | ⟨e, -⟩ | ⟨e, -⟩⟩ := j3
          · exact Or.inl e
          · exact Or.inr (Or.inl e)
          · exact Or.inr (Or.inr e)
        have hs3 : s' ≤ N := by
          have h1 := (gr_Jf j3).1
          have h2 := (gr_Jf j3).2
          have h3 := gr_Js j3
          omega
        have hq3 : sy_me (sy_ev [0, s', 0, 0, 0, 0, 0, 0, 0, 0, 0, 0, 0, 0, so', 0, 0, 0, 0, (st' : Int)]) (lw_HB ++ lw_xe_D) c3.2 := face.hb p3.2.1.2 gr_hb ((gr_Jq j3).st hst3)
        have fin : ∀ c4 : MsC, rch c c4 → PN gr_Q R 0 L xs n fa c4 → lw1_H n s' mo s x5 x6 [] c4.1 → gr_J st' n fa N T s' so' a0 a1 a2 c4.2 → ∃ c', rch c c' ∧ PN gr_Q R 0 L xs n fa c' ∧ lw1_S n T x5 x6 [] c'.1 ∧ gr_J 2 n fa N T N T a0 a1 a2 c'.2 := fun c4 r4 p4 f4 j4 => by
          obtain ⟨c5, r5, f5, s5, e5⟩ := lw1_l_m (Nat.zero_le _) p4.E ⟨by omega, by omega⟩ ⟨by omega, by omega⟩ hmo ⟨by omega, by omega⟩ hx5 hx6 f4
          by_cases hk : k' = 0
          · have e2 := q3 hk
            subst e2
            obtain ⟨c6, r6, p6, f6, j6⟩ := ih0 s' so' c5 (p4.sm s5 e5) f5 (j4.sm s5) (by omega)
            exact ⟨c6, r4.tr (r5.tr r6), p6, f6, j6⟩
          · obtain ⟨c6, r6, p6, f6, j6⟩ := ih s' so' st' c5 (by omega) ⟨by omega, hs3⟩ (p4.sm s5 e5) f5 (j4.sm s5)
            exact ⟨c6, r4.tr (r5.tr r6), p6, f6, j6⟩
        by_cases hk0 : k' = 0
        · subst hk0
          have g1 : sy_Fs (sy_ev [(n : Int), s', 0, mo, s, 0, 0, 0, 0, 0, 0, 0, 0, 0, so', 0, 0, x5, x6]) [] lw1_Rd mid := sy_b_F (m := [0, 3, 4, 17, 18]) (by exact aa.mem ⟨rfl, rfl, rfl, rfl, rfl, trivial⟩) lw1_Rb hmid
          have g2 : sy_Fs (sy_ev [(n : Int), s', 0, mo, s, 0, 0, 0, 0, 0, 0, 0, 0, 0, so', 0, 0, x5, x6]) mid [(81, 47, [(0, (4, 33, 0, 0))], [(0, 0, 0, 0)])] c3.1 := sq_Fs.ok (r := lw_F47d) (pv := sy_ev [0, 0, 0]) ⟨rfl, rfl, ⟨rfl, ⟨rfl, rfl, (sy_n0 rfl).trans (sy_n0 rfl).symm⟩, trivial⟩, ⟨⟨rfl, rfl, (show 0 + ((1 : Nat) : Int) * 0 = (0 : Int) by omega).trans (sy_n0 (pv := sy_ev [(n : Int), s', 0, mo, s, 0, 0, 0, 0, 0, 0, 0, 0, 0, so', 0, 0, x5, x6]) (a := (0, 0, 0, 0)) rfl).symm⟩, trivial⟩, trivial⟩ f3
          have f5 : lw1_C0 n mo s x5 x6 [] c3.1 := sy_b_F (m := [0, 3, 4, 17, 18]) (by exact aa.mem ⟨rfl, rfl, rfl, rfl, rfl, trivial⟩) lw1_C0b (sy_Fs_join g1 g2)
          obtain ⟨c4, r4, f6, s4, e4⟩ := lw1_c0_m (Nat.zero_le _) p3.E ⟨by omega, by omega⟩ ⟨by omega, by omega⟩ hmo ⟨by omega, by omega⟩ ⟨by omega, by omega⟩ hx5 hx6 ⟨by omega, by omega⟩ f5 hq3
          obtain ⟨c5, r5, f7, e5⟩ := fr_bin (c := c4) (pv := sy_ev [(n : Int), s', 0, mo, s, 0, 0, 0, 0, 0, 0, 0, 0, 0, so', 0, 0, x5, x6]) (x := (0, 0, 4, 1)) (y := (0, 0, 0, 0)) (z := (0, 0, 1, 1)) (b := 0) rfl rfl rfl rfl (Or.inl ⟨rfl, by show 0 + ((1 : Nat) : Int) * s' = (0 + ((1 : Nat) : Int) * s) + sy_n _ (0, 0, 0, 0); rw [sy_n0 rfl]; show 0 + ((1 : Nat) : Int) * s' = (0 + ((1 : Nat) : Int) * s) + 0; omega⟩) (by show -1000000 ≤ 0 + ((1 : Nat) : Int) * s' ∧ 0 + ((1 : Nat) : Int) * s' ≤ 1000000; omega) (sy_b_F (m := [0, 1, 3, 4, 17, 18]) (by exact aa.mem ⟨rfl, rfl, rfl, rfl, rfl, rfl, trivial⟩) lw1_D0b f6)
          have p5 := (p3.sm s4 e4).mem e5
          have j5 : gr_J st' n fa N T s' so' a0 a1 a2 c5.2 := by rw [e5]; exact j3.sm s4
          have f8 : lw1_E0 n s' mo s x5 x6 [] c5.1 := sy_b_F (m := [0, 1, 3, 4, 17, 18]) (by exact aa.mem ⟨rfl, rfl, rfl, rfl, rfl, rfl, trivial⟩) lw1_E0b f7
          have hq5 : sy_me (sy_ev [0, s', 0, 0, 0, 0, 0, 0, 0, 0, 0, 0, 0, 0, so', 0, 0, 0, 0, (st' : Int)]) (lw_HB ++ lw_xe_D) c5.2 := face.hb p5.2.1.2 gr_hb ((gr_Jq j5).st hst3)
          have hst2 := q3 rfl
          obtain ⟨c6, r6, f9, s6, e6⟩ := lw1_n0_m (Nat.zero_le _) p5.E ⟨by omega, by omega⟩ ⟨by omega, by omega⟩ hmo ⟨by omega, by omega⟩ ⟨by omega, by omega⟩ hx5 hx6 ⟨by omega, by omega⟩ f8 hq5
          obtain ⟨c7, r7, f10, e7⟩ := fr_bin (c := c6) (pv := sy_ev [(n : Int), s', 0, mo, s, 0, 0, 0, 0, 0, 0, 0, 0, 0, so', 0, 0, x5, x6]) (x := (0, 0, 4, 1)) (y := (0, 0, 0, 0)) (z := (0, 0, 1, 1)) (b := 0) rfl rfl rfl rfl (Or.inl ⟨rfl, by show 0 + ((1 : Nat) : Int) * s' = (0 + ((1 : Nat) : Int) * s) + sy_n _ (0, 0, 0, 0); rw [sy_n0 rfl]; show 0 + ((1 : Nat) : Int) * s' = (0 + ((1 : Nat) : Int) * s) + 0; omega⟩) (by show -1000000 ≤ 0 + ((1 : Nat) : Int) * s' ∧ 0 + ((1 : Nat) : Int) * s' ≤ 1000000; omega) (sy_b_F (m := [0, 3, 4, 17, 18]) (by exact aa.mem ⟨rfl, rfl, rfl, rfl, rfl, trivial⟩) lw1_G0b f9)
          exact fin c7 (r1.tr (r2.tr (r3.tr (r4.tr (r5.tr (r6.tr r7)))))) ((p5.sm s6 e6).mem e7) (sy_b_F (pv := sy_ev [(n : Int), s', 0, mo, s, 0, 0, 0, 0, 0, 0, 0, 0, 0, so', 0, 0, x5, x6]) (m := [0, 1, 3, 4, 17, 18]) (by exact aa.mem ⟨rfl, rfl, rfl, rfl, rfl, rfl, trivial⟩) lw1_Hb (by have h := fr_cv (s := []) (m := [0, 1, 3, 4, 17, 18]) (r := lw1_Hd) (pw := sy_ev [(n : Int), s', 0, mo, s, 0, 0, 0, 0, 0, 0, 0, 0, 0, so', 0, 0, x5, x6]) (by decide +kernel) f10 lw1_Hb (by exact aa.mem ⟨congrFun sy_pv0 _, congrFun sy_pv0 _, congrFun sy_pv0 _, congrFun sy_pv0 _, congrFun sy_pv0 _, congrFun sy_pv0 _, trivial⟩); exact h)) (by rw [e7]; exact j5.sm s6)
        · by_cases hkm : k' = mo
          · subst hkm
            have g1 : sy_Fs (sy_ev [(n : Int), s', k', k', s, 0, 0, 0, 0, 0, 0, 0, 0, 0, so', 0, 0, x5, x6]) [] lw1_Rd mid := sy_b_F (m := [0, 3, 4, 17, 18]) (by exact aa.mem ⟨rfl, rfl, rfl, rfl, rfl, trivial⟩) lw1_Rb hmid
            have g2 : sy_Fs (sy_ev [(n : Int), s', k', k', s, 0, 0, 0, 0, 0, 0, 0, 0, 0, so', 0, 0, x5, x6]) mid [(81, 47, [(0, (4, 33, 0, 0))], [(0, 0, 3, 1)])] c3.1 := fr_cv (s := [(3, (0, 0, 2, 1))]) (m := [3]) (by decide +kernel) f3 (by decide +kernel) (sp_c (sp_a rfl (by show 0 + ((1 : Nat) : Int) * k' = k'; omega)) sp_0)
            have f5 : lw1_Cm n k' s x5 x6 [] c3.1 := sy_b_F (m := [0, 3, 4, 17, 18]) (by exact aa.mem ⟨rfl, rfl, rfl, rfl, rfl, trivial⟩) lw1_Cmb (sy_Fs_join g1 g2)
            obtain ⟨c4, r4, f6, s4, e4⟩ := lw1_cm_m (Nat.zero_le _) p3.E ⟨by omega, by omega⟩ ⟨by omega, by omega⟩ hmo ⟨by omega, by omega⟩ ⟨by omega, by omega⟩ hx5 hx6 ⟨by omega, by omega⟩ f5 hq3
            obtain ⟨c5, r5, f7, e5⟩ := fr_bin (c := c4) (pv := sy_ev [(n : Int), s', k', k', s, 0, 0, 0, 0, 0, 0, 0, 0, 0, so', 0, 0, x5, x6]) (x := (0, 0, 4, 1)) (y := (0, 0, 3, 1)) (z := (0, 0, 1, 1)) (b := 0) rfl rfl rfl rfl (Or.inl ⟨rfl, by show 0 + ((1 : Nat) : Int) * s' = (0 + ((1 : Nat) : Int) * s) + (0 + ((1 : Nat) : Int) * k'); omega⟩) (by show -1000000 ≤ 0 + ((1 : Nat) : Int) * s' ∧ 0 + ((1 : Nat) : Int) * s' ≤ 1000000; omega) (sy_b_F (m := [0, 1, 3, 4, 17, 18]) (by exact aa.mem ⟨rfl, rfl, rfl, rfl, rfl, rfl, trivial⟩) lw1_Dmb f6)
            have p5 := (p3.sm s4 e4).mem e5
            have j5 : gr_J st' n fa N T s' so' a0 a1 a2 c5.2 := by rw [e5]; exact j3.sm s4
            have f8 : lw1_Em n s' k' s x5 x6 [] c5.1 := sy_b_F (m := [0, 1, 3, 4, 17, 18]) (by exact aa.mem ⟨rfl, rfl, rfl, rfl, rfl, rfl, trivial⟩) lw1_Emb f7
            obtain ⟨c6, r6, f9, s6, e6⟩ := lw1_nm_m (Nat.zero_le _) p5.E ⟨by omega, by omega⟩ ⟨by omega, by omega⟩ ⟨by omega, by omega⟩ ⟨by omega, by omega⟩ hx5 hx6 f8
            obtain ⟨c7, r7, f10, e7⟩ := fr_bin (c := c6) (pv := sy_ev [(n : Int), s', k', k', s, 0, 0, 0, 0, 0, 0, 0, 0, 0, so', 0, 0, x5, x6]) (x := (0, 0, 4, 1)) (y := (0, 0, 3, 1)) (z := (0, 0, 1, 1)) (b := 0) rfl rfl rfl rfl (Or.inl ⟨rfl, by show 0 + ((1 : Nat) : Int) * s' = (0 + ((1 : Nat) : Int) * s) + (0 + ((1 : Nat) : Int) * k'); omega⟩) (by show -1000000 ≤ 0 + ((1 : Nat) : Int) * s' ∧ 0 + ((1 : Nat) : Int) * s' ≤ 1000000; omega) (sy_b_F (m := [0, 3, 4, 17, 18]) (by exact aa.mem ⟨rfl, rfl, rfl, rfl, rfl, trivial⟩) lw1_Gmb f9)
            exact fin c7 (r1.tr (r2.tr (r3.tr (r4.tr (r5.tr (r6.tr r7)))))) ((p5.sm s6 e6).mem e7) (sy_b_F (pv := sy_ev [(n : Int), s', k', k', s, 0, 0, 0, 0, 0, 0, 0, 0, 0, so', 0, 0, x5, x6]) (m := [0, 1, 3, 4, 17, 18]) (by exact aa.mem ⟨rfl, rfl, rfl, rfl, rfl, rfl, trivial⟩) lw1_Hb (by have h := fr_cv (s := []) (m := [0, 1, 3, 4, 17, 18]) (r := lw1_Hd) (pw := sy_ev [(n : Int), s', k', k', s, 0, 0, 0, 0, 0, 0, 0, 0, 0, so', 0, 0, x5, x6]) (by decide +kernel) f10 lw1_Hb (by exact aa.mem ⟨congrFun sy_pv0 _, congrFun sy_pv0 _, congrFun sy_pv0 _, congrFun sy_pv0 _, congrFun sy_pv0 _, congrFun sy_pv0 _, trivial⟩); exact h)) (by rw [e7]; exact j5.sm s6)
          · have g1 : sy_Fs (sy_ev [(n : Int), s', k', mo, s, 0, 0, 0, 0, 0, 0, 0, 0, 0, so', 0, 0, x5, x6]) [] lw1_Rd mid := sy_b_F (m := [0, 3, 4, 17, 18]) (by exact aa.mem ⟨rfl, rfl, rfl, rfl, rfl, trivial⟩) lw1_Rb hmid
            have g2 : sy_Fs (sy_ev [(n : Int), s', k', mo, s, 0, 0, 0, 0, 0, 0, 0, 0, 0, so', 0, 0, x5, x6]) mid lw_F47d c3.1 := sy_b_F (m := [2]) (by exact aa.mem ⟨rfl, trivial⟩) lw_F47b f3
            have f5 : lw1_Ck n k' mo s x5 x6 [] c3.1 := sy_b_F (m := [0, 2, 3, 4, 17, 18]) (by exact aa.mem ⟨rfl, rfl, rfl, rfl, rfl, rfl, trivial⟩) lw1_Ckb (sy_Fs_join g1 g2)
            obtain ⟨c4, r4, f6, s4, e4⟩ := lw1_ck_m (Nat.zero_le _) p3.E ⟨by omega, by omega⟩ ⟨by omega, by omega⟩ ⟨by omega, by omega⟩ hmo ⟨by omega, by omega⟩ ⟨by omega, by omega⟩ hx5 hx6 ⟨by omega, by omega⟩ (by omega) f5 hq3
            obtain ⟨c5, r5, f7, e5⟩ := fr_bin (c := c4) (pv := sy_ev [(n : Int), s', k', mo, s, 0, 0, 0, 0, 0, 0, 0, 0, 0, so', 0, 0, x5, x6]) (x := (0, 0, 4, 1)) (y := (0, 0, 2, 1)) (z := (0, 0, 1, 1)) (b := 0) rfl rfl rfl rfl (Or.inl ⟨rfl, by show 0 + ((1 : Nat) : Int) * s' = (0 + ((1 : Nat) : Int) * s) + (0 + ((1 : Nat) : Int) * k'); omega⟩) (by show -1000000 ≤ 0 + ((1 : Nat) : Int) * s' ∧ 0 + ((1 : Nat) : Int) * s' ≤ 1000000; omega) (sy_b_F (m := [0, 1, 2, 3, 4, 17, 18]) (by exact aa.mem ⟨rfl, rfl, rfl, rfl, rfl, rfl, rfl, trivial⟩) lw1_Dkb f6)
            have p5 := (p3.sm s4 e4).mem e5
            have j5 : gr_J st' n fa N T s' so' a0 a1 a2 c5.2 := by rw [e5]; exact j3.sm s4
            have f8 : lw1_Ek n s' k' mo s x5 x6 [] c5.1 := sy_b_F (m := [0, 1, 2, 3, 4, 17, 18]) (by exact aa.mem ⟨rfl, rfl, rfl, rfl, rfl, rfl, rfl, trivial⟩) lw1_Ekb f7
            obtain ⟨c6, r6, f9, s6, e6⟩ := lw1_nk_m (Nat.zero_le _) p5.E ⟨by omega, by omega⟩ ⟨by omega, by omega⟩ ⟨by omega, by omega⟩ hmo ⟨by omega, by omega⟩ hx5 hx6 (by omega) f8
            obtain ⟨c7, r7, f10, e7⟩ := fr_bin (c := c6) (pv := sy_ev [(n : Int), s', k', mo, s, 0, 0, 0, 0, 0, 0, 0, 0, 0, so', 0, 0, x5, x6]) (x := (0, 0, 4, 1)) (y := (0, 0, 2, 1)) (z := (0, 0, 1, 1)) (b := 0) rfl rfl rfl rfl (Or.inl ⟨rfl, by show 0 + ((1 : Nat) : Int) * s' = (0 + ((1 : Nat) : Int) * s) + (0 + ((1 : Nat) : Int) * k'); omega⟩) (by show -1000000 ≤ 0 + ((1 : Nat) : Int) * s' ∧ 0 + ((1 : Nat) : Int) * s' ≤ 1000000; omega) (sy_b_F (m := [0, 2, 3, 4, 17, 18]) (by exact aa.mem ⟨rfl, rfl, rfl, rfl, rfl, rfl, trivial⟩) lw1_Gkb f9)
            exact fin c7 (r1.tr (r2.tr (r3.tr (r4.tr (r5.tr (r6.tr r7)))))) ((p5.sm s6 e6).mem e7) (sy_b_F (pv := sy_ev [(n : Int), s', k', mo, s, 0, 0, 0, 0, 0, 0, 0, 0, 0, so', 0, 0, x5, x6]) (m := [0, 1, 3, 4, 17, 18]) (by exact aa.mem ⟨rfl, rfl, rfl, rfl, rfl, rfl, trivial⟩) lw1_Hb (by have h := fr_cv (s := []) (m := [0, 1, 3, 4, 17, 18]) (r := lw1_Hd) (pw := sy_ev [(n : Int), s', k', mo, s, 0, 0, 0, 0, 0, 0, 0, 0, 0, so', 0, 0, x5, x6]) (by decide +kernel) f10 lw1_Hb (by exact aa.mem ⟨congrFun sy_pv0 _, congrFun sy_pv0 _, congrFun sy_pv0 _, congrFun sy_pv0 _, congrFun sy_pv0 _, congrFun sy_pv0 _, trivial⟩); exact h)) (by rw [e7]; exact j5.sm s6)
      rcases hst with rfl | rfl
      · exact go (lw1_i0_m (Nat.zero_le _) hP.E ⟨by omega, by omega⟩ ⟨by omega, by omega⟩ hmo ⟨by omega, by omega⟩ hx5 hx6 hF (face.hb hP.2.1.2 gr_hb hq))
      · exact go (lw1_i1_m (Nat.zero_le _) hP.E ⟨by omega, by omega⟩ ⟨by omega, by omega⟩ hmo ⟨by omega, by omega⟩ hx5 hx6 hF (face.hb hP.2.1.2 gr_hb hq))
