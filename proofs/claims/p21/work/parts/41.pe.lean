/-! PHASE D: the clause for a node. -/
/-- for all of a list -/
def aa (P : Nat → Prop) : List Nat → Prop
  | [] => True
  | p :: l => P p ∧ aa P l
theorem aa.mem {P : Nat → Prop} : ∀ {l : List Nat}, aa P l → ∀ p ∈ l, P p
  | [], _, p, hp => nomatch hp
  | a :: l, h, p, hp => by
    rcases List.mem_cons.mp hp with rfl | hp
    · exact h.1
    · exact h.2.mem p hp
/-- the letters of the clauses -/
def lt (n : Nat) (fa : Fa) (m : Nat) : Int := if m < n then (fa m).1 else [112, 113, 114, 114, 115, 115].getD (m - n) 0
/-- the first clause with a letter, or none -/
def cfor (l : Nat → Int) (a : Int) : Nat → Nat → Int
  | 0, _ => -1
  | d + 1, m => if l m = a then m else cfor l a d (m + 1)
def cl_ok (l : Nat → Int) (k : Nat) (M : Nat → Nat → Value) : Prop := ∀ m, m < k → tv M 10 m 0 m ∧ tv M 11 m 0 2 ∧ tv M 4 (64 * m + 2) 0 5 ∧ tv M 5 (64 * m + 2) 0 2 ∧ tv M 6 (64 * m + 2) 1 (l m)
def nn_ok (M : Nat → Nat → Value) (N : Nat) (a : Int) : Prop := tv M 4 N 0 5 ∧ tv M 5 N 0 2 ∧ tv M 6 N 1 a
theorem cl_ok.eq {l : Nat → Int} {k : Nat} {M M' : Nat → Nat → Value} (h : cl_ok l k M) (he : ∀ q j : Nat, (q = 10 ∨ q = 11 ∨ q = 4 ∨ q = 5 ∨ q = 6) → M' q j = M q j) : cl_ok l k M' := fun m hm => by
  obtain ⟨h1, h2, h3, h4, h5⟩ := h m hm
  exact ⟨h1.eq (he _ _ (by omega)), h2.eq (he _ _ (by omega)), h3.eq (he _ _ (by omega)), h4.eq (he _ _ (by omega)), h5.eq (he _ _ (by omega))⟩
theorem nn_ok.eq {a : Int} {N : Nat} {M M' : Nat → Nat → Value} (h : nn_ok M N a) (he : ∀ q j : Nat, (q = 4 ∨ q = 5 ∨ q = 6) → M' q j = M q j) : nn_ok M' N a := ⟨h.1.eq (he _ _ (by omega)), h.2.1.eq (he _ _ (by omega)), h.2.2.eq (he _ _ (by omega))⟩
theorem sy_sm.rf (S : AmS) : sy_sm S S := ⟨fun _ _ => ⟨rfl, fun _ => rfl⟩, rfl⟩
theorem sy_sm.tr {S S1 S2 : AmS} (h1 : sy_sm S S1) (h2 : sy_sm S1 S2) : sy_sm S S2 := ⟨fun a ha => by
  obtain ⟨a1, a2⟩ := h1.1 a ha
  obtain ⟨b1, b2⟩ := h2.1 a (by rw [h1.2]; exact ha)
  exact ⟨b1.trans a1, fun k => (b2 k).trans (a2 k)⟩, h2.2.trans h1.2⟩
theorem sy_sm.of {pv : Nat → Int} {c c' : MsC} (hc : sy_ch pv [] c c') (h1 : c'.2.2.2.1 = c.2.2.2.1) (h2 : c'.2.2.2.2.1 = c.2.2.2.2.1) (h3 : c'.2.2.2.2.2 = c.2.2.2.2.2) : sy_sm c.2 c'.2 := ⟨fun a ha => ⟨hc.2.1 a ha, fun k => hc.1 a k ha fun q hq => (nomatch hq)⟩, Prod.ext h1 (Prod.ext h2 h3)⟩
section PeS
variable {L : Nat} {xs : Nat → Int32} {c c' : MsC} {rest : List MsF} {l : Nat → Int} {a : Int} {N k : Nat} {t5 t6 t7 : Int}
/-- the run of clauseFor has come to its end -/
def cf_E (rest : List MsF) (z : Int) (c : MsC) : Prop := ∃ (n : Nat) (ls : AmL) (v : Int32), (n = 42 ∨ n = 46) ∧ c.1 = (32, n, ls, [.int v]) :: rest ∧ v.toInt = z
theorem cf_loop (hrest : rest.length ≤ 37) (hN : N ≤ 2623) (hk : k ≤ 40) (ha : 112 ≤ a ∧ a ≤ 115) (hl : ∀ m, m < k → 112 ≤ l m ∧ l m ≤ 115) : ∀ (d m : Nat) (c : MsC), m + d = k → sy_T (sy_ev [(N : Int), (m : Int), (k : Int), 0, 0, t5, t6, t7]) rest gd_H c → sy_E0 L xs c → cl_ok l k c.2.2.1 → nn_ok c.2.2.1 N a → ∃ c', rch c c' ∧ cf_E rest (cfor l a d m) c' ∧ sy_sm c.2 c'.2 := by
  have sm : ∀ {A T : SyC} {pv pw : Nat → Int} {c c' : MsC}, A.2.2 = gd_H.2.2 → T.2.2 = gd_H.2.2 → pv 5 = pw 5 → pv 6 = pw 6 → pv 7 = pw 7 → sy_T pv rest A c → sy_T pw rest T c' → sy_ch pv [] c c' → sy_sm c.2 c'.2 := fun {A T pv pw c c'} e1 e2 p5 p6 p7 hA hT hc => by
    obtain ⟨-, -, a1, a2, a3⟩ := hA
    obtain ⟨-, -, b1, b2, b3⟩ := hT
    rw [e1] at a1 a2 a3
    rw [e2] at b1 b2 b3
    have q1 : sy_n pv gd_H.2.2.1 = sy_n pw gd_H.2.2.1 := by
      show 0 + ((1 : Nat) : Int) * pv 5 = 0 + ((1 : Nat) : Int) * pw 5
      rw [p5]
    have q2 : sy_n pv gd_H.2.2.2.1 = sy_n pw gd_H.2.2.2.1 := by
      show 0 + ((1 : Nat) : Int) * pv 6 = 0 + ((1 : Nat) : Int) * pw 6
      rw [p6]
    have q3 : sy_n pv gd_H.2.2.2.2.1 = sy_n pw gd_H.2.2.2.2.1 := by
      show 0 + ((1 : Nat) : Int) * pv 7 = 0 + ((1 : Nat) : Int) * pw 7
      rw [p7]
    exact sy_sm.of hc (by omega) (by omega) (by omega)
  intro d
  induction d with
  | zero =>
    intro m c hd hT hE hc hn
    have e : m = k := by omega
    subst e
    have hA : sy_T (sy_ev [(N : Int), (m : Int), (m : Int), 0, 0, t5, t6, t7]) rest gd_AX c := sq_T.ok (T := gd_H) (pv := sy_ev [(N : Int), (m : Int), (m : Int), 0, 0, t5, t6, t7]) ⟨⟨rfl, rfl, ⟨rfl, ⟨rfl, rfl, by first | rfl | exact (sy_n0 rfl).trans rfl⟩, rfl, ⟨rfl, rfl, by first | rfl | exact (sy_n0 rfl).trans rfl⟩, rfl, ⟨rfl, rfl, by first | rfl | exact (sy_n0 rfl).trans rfl⟩, trivial⟩, trivial, trivial⟩, ⟨rfl, rfl, rfl, rfl, ⟨rfl, ⟨rfl, rfl, by first | rfl | exact (sy_n0 rfl).trans rfl⟩, rfl, ⟨rfl, rfl, by first | rfl | exact (sy_n0 rfl).trans rfl⟩, rfl, ⟨rfl, rfl, by first | rfl | exact (sy_n0 rfl).trans rfl⟩, rfl, ⟨rfl, rfl, by first | rfl | exact (sy_n0 rfl).trans rfl⟩, rfl, ⟨rfl, rfl, by first | rfl | exact (sy_n0 rfl).trans rfl⟩, rfl, ⟨rfl, rfl, by first | rfl | exact (sy_n0 rfl).trans rfl⟩, rfl, ⟨rfl, rfl, by first | rfl | exact (sy_n0 rfl).trans rfl⟩, rfl, ⟨rfl, rfl, by first | rfl | exact (sy_n0 rfl).trans rfl⟩, rfl, ⟨rfl, rfl, by first | rfl | exact (sy_n0 rfl).trans rfl⟩, rfl, ⟨rfl, rfl, by first | rfl | exact (sy_n0 rfl).trans rfl⟩, rfl, ⟨rfl, rfl, by first | rfl | exact (sy_n0 rfl).trans rfl⟩, rfl, ⟨rfl, rfl, by first | rfl | exact (sy_n0 rfl).trans rfl⟩, rfl, ⟨rfl, rfl, by first | rfl | exact (sy_n0 rfl).trans rfl⟩, trivial⟩, ⟨rfl, rfl, rfl, rfl, trivial, ⟨rfl, rfl, rfl, rfl, trivial, ⟨rfl, rfl, rfl, rfl, trivial, ⟨rfl, rfl, rfl, rfl, trivial, ⟨rfl, rfl, rfl, rfl, trivial, trivial⟩⟩⟩⟩⟩⟩, rfl, rfl, rfl⟩ hT
    have hA2 : sy_T (sy_ev [(N : Int), (0 : Int), (m : Int), a, 0, t5, t6, t7]) rest gd_AX c := sy_b_T (m := [0, 2, 5, 6, 7]) (by exact aa.mem ⟨rfl, rfl, rfl, rfl, rfl, trivial⟩) (by decide +kernel) hA
    obtain ⟨c1, r1, t1, e1, ch1, -⟩ := gd_x_u (rest := rest) hrest (N : Int) 0 (m : Int) a t5 t6 t7 (by omega) (by omega) (by omega) (by omega) (by omega) (by omega) ha.1 ha.2 so_0 sx_0 hA2 hE
    refine ⟨c1, r1, ?_, sm (by rfl) (by rfl) (by rfl) (by rfl) (by rfl) hA2 t1 ch1⟩
    obtain ⟨⟨f, q, g1, ⟨g2, g3, g4, g5⟩, g6⟩, -⟩ := t1
    obtain ⟨w, ws, g7, g8, g9⟩ := g5.cons
    obtain ⟨x, rfl, hx⟩ := g8
    obtain ⟨f1, f2, f3, f4⟩ := f
    dsimp only at g2 g3 g7
    rw [g9.nil] at g7
    have g6 : q = rest := g6
    exact ⟨46, f3, x, Or.inr rfl, by rw [g1, g2, g3, g7, g6], by rw [hx]; exact sy_n0 rfl⟩
  | succ d ih =>
    intro m c hd hT hE hc hn
    have hmk : m < k := by omega
    obtain ⟨c1, c2, c3, c4, c5⟩ := hc m hmk
    obtain ⟨n1, n2, n3⟩ := hn
    have hb := hl m hmk
    have iH : ∀ q t z : Nat, gd_H.2.1.any (fun e => decide (e.1 = (4, (q : Int), 0, 0)) && (Nat.beq e.2.1 t && Nat.beq e.2.2.1 z)) = true → c.2.1 q = (t, z) ∧ (q < c.2.2.2.1 ∨ am_EXT ≤ q) := fun q t z h => hT.2.1.inst q t z h
    -- what is told more
    have mem : ∀ (b : Int), b = l m → ∀ pv : Nat → Int, pv 0 = N → pv 1 = m → pv 3 = a → pv 4 = b → sy_me pv gd_D c.2 := fun b hb9 pv p0 p1 p3 p4 => by
      have iN : sy_n pv ((0, 0, 0, 1) : SyV) = N := by
        show 0 + ((1 : Nat) : Int) * pv 0 = _
        omega
      have im : sy_n pv ((0, 0, 1, 1) : SyV) = m := by
        show 0 + ((1 : Nat) : Int) * pv 1 = _
        omega
      have i2 : sy_n pv ((0, 2, 1, 64) : SyV) = ((64 * m + 2 : Nat) : Int) := by
        show 2 + ((64 : Nat) : Int) * pv 1 = _
        omega
      have v3 : sy_n pv ((1, 0, 3, 1) : SyV) = a := by
        show 0 + ((1 : Nat) : Int) * pv 3 = _
        omega
      have v4 : sy_n pv ((1, 0, 4, 1) : SyV) = l m := by
        show 0 + ((1 : Nat) : Int) * pv 4 = _
        omega
      have k5 : ∀ z : Int, sy_n pv ((0, z, 0, 0) : SyV) = z := fun z => sy_n0 rfl
      intro e he
      rcases List.mem_cons.mp he with rfl | he
      · refine sy_ce_of (k := 10) (sy_n0 rfl) (iH 10 61 41 (by decide +kernel)).1 (iH 10 61 41 (by decide +kernel)).2 rfl fun p hp => ?_
        rcases List.mem_cons.mp hp with rfl | hp
        · exact ⟨m, im, c1.to rfl (by decide) im⟩
        · cases hp
      · rcases List.mem_cons.mp he with rfl | he
        · refine sy_ce_of (k := 11) (sy_n0 rfl) (iH 11 61 41 (by decide +kernel)).1 (iH 11 61 41 (by decide +kernel)).2 rfl fun p hp => ?_
          rcases List.mem_cons.mp hp with rfl | hp
          · exact ⟨m, im, c2.to rfl (by decide) (k5 _)⟩
          · cases hp
        · rcases List.mem_cons.mp he with rfl | he
          · refine sy_ce_of (k := 4) (sy_n0 rfl) (iH 4 61 2624 (by decide +kernel)).1 (iH 4 61 2624 (by decide +kernel)).2 rfl fun p hp => ?_
            rcases List.mem_cons.mp hp with rfl | hp
            · exact ⟨N, iN, n1.to rfl (by decide) (k5 _)⟩
            · rcases List.mem_cons.mp hp with rfl | hp
              · exact ⟨64 * m + 2, i2, c3.to rfl (by decide) (k5 _)⟩
              · cases hp
          · rcases List.mem_cons.mp he with rfl | he
            · refine sy_ce_of (k := 6) (sy_n0 rfl) (iH 6 62 2624 (by decide +kernel)).1 (iH 6 62 2624 (by decide +kernel)).2 rfl fun p hp => ?_
              rcases List.mem_cons.mp hp with rfl | hp
              · exact ⟨N, iN, n3.to rfl (by decide) v3⟩
              · rcases List.mem_cons.mp hp with rfl | hp
                · exact ⟨64 * m + 2, i2, c5.to rfl (by decide) v4⟩
                · cases hp
            · rcases List.mem_cons.mp he with rfl | he
              · refine sy_ce_of (k := 5) (sy_n0 rfl) (iH 5 61 2624 (by decide +kernel)).1 (iH 5 61 2624 (by decide +kernel)).2 rfl fun p hp => ?_
                rcases List.mem_cons.mp hp with rfl | hp
                · exact ⟨N, iN, n2.to rfl (by decide) (k5 _)⟩
                · rcases List.mem_cons.mp hp with rfl | hp
                  · exact ⟨64 * m + 2, i2, c4.to rfl (by decide) (k5 _)⟩
                  · cases hp
              · cases he
    have next : ∀ c1 : MsC, rch c c1 → sy_T (sy_ev [(N : Int), (m : Int) + 1, (k : Int), 0, 0, t5, t6, t7]) rest gd_H c1 → sy_E0 L xs c1 → sy_sm c.2 c1.2 → l m ≠ a → ∃ c', rch c c' ∧ cf_E rest (cfor l a (d + 1) m) c' ∧ sy_sm c.2 c'.2 := fun c1 r1 t1 e1 s1 hne => by
      have hM : ∀ q j : Nat, (q < c.2.2.2.1 ∨ am_EXT ≤ q) → c1.2.2.1 q j = c.2.2.1 q j := fun q j hq => (s1.1 q hq).2 j
      have hq : ∀ q : Nat, (q = 10 ∨ q = 11 ∨ q = 4 ∨ q = 5 ∨ q = 6) → (q < c.2.2.2.1 ∨ am_EXT ≤ q) := fun q hq => by
        rcases hq with rfl | rfl | rfl | rfl | rfl
        · exact (iH 10 61 41 (by decide +kernel)).2
        · exact (iH 11 61 41 (by decide +kernel)).2
        · exact (iH 4 61 2624 (by decide +kernel)).2
        · exact (iH 5 61 2624 (by decide +kernel)).2
        · exact (iH 6 62 2624 (by decide +kernel)).2
      obtain ⟨c9, r9, q9, s9⟩ := ih (m + 1) c1 (by omega) t1 e1 (hc.eq fun q j h => hM q j (hq q h)) ((show nn_ok c.2.2.1 N a from ⟨n1, n2, n3⟩).eq fun q j h => hM q j (hq q (by omega)))
      refine ⟨c9, r1.tr r9, ?_, s1.tr s9⟩
      unfold cfor
      rw [if_neg hne]
      exact q9
    have hb5 : ∀ x3 x4 : Int, sy_T (sy_ev [(N : Int), (m : Int), (k : Int), x3, x4, t5, t6, t7]) rest gd_H c := fun x3 x4 => sy_b_T (m := [0, 1, 2, 5, 6, 7]) (by exact aa.mem ⟨rfl, rfl, rfl, rfl, rfl, rfl, trivial⟩) (by decide +kernel) hT
    by_cases h : l m = a
    · have hA : sy_T (sy_ev [(N : Int), (m : Int), (k : Int), a, a, t5, t6, t7]) rest gd_AH c := sy_T_add (G := ([], [])) (hb5 a a) sg_0 (mem a h.symm _ rfl rfl rfl rfl) (by decide +kernel) rfl ⟨rfl, rfl, rfl⟩
      have hA2 : sy_T (sy_ev [(N : Int), (m : Int), (k : Int), a, 0, t5, t6, t7]) rest gd_AE c := sq_T.ok (T := gd_AH) (pv := sy_ev [(N : Int), (m : Int), (k : Int), a, a, t5, t6, t7]) ⟨⟨rfl, rfl, ⟨rfl, ⟨rfl, rfl, by first | rfl | exact (sy_n0 rfl).trans rfl⟩, rfl, ⟨rfl, rfl, by first | rfl | exact (sy_n0 rfl).trans rfl⟩, rfl, ⟨rfl, rfl, by first | rfl | exact (sy_n0 rfl).trans rfl⟩, trivial⟩, trivial, trivial⟩, ⟨rfl, rfl, rfl, rfl, ⟨rfl, ⟨rfl, rfl, by first | rfl | exact (sy_n0 rfl).trans rfl⟩, rfl, ⟨rfl, rfl, by first | rfl | exact (sy_n0 rfl).trans rfl⟩, rfl, ⟨rfl, rfl, by first | rfl | exact (sy_n0 rfl).trans rfl⟩, rfl, ⟨rfl, rfl, by first | rfl | exact (sy_n0 rfl).trans rfl⟩, rfl, ⟨rfl, rfl, by first | rfl | exact (sy_n0 rfl).trans rfl⟩, rfl, ⟨rfl, rfl, by first | rfl | exact (sy_n0 rfl).trans rfl⟩, rfl, ⟨rfl, rfl, by first | rfl | exact (sy_n0 rfl).trans rfl⟩, rfl, ⟨rfl, rfl, by first | rfl | exact (sy_n0 rfl).trans rfl⟩, rfl, ⟨rfl, rfl, by first | rfl | exact (sy_n0 rfl).trans rfl⟩, rfl, ⟨rfl, rfl, by first | rfl | exact (sy_n0 rfl).trans rfl⟩, rfl, ⟨rfl, rfl, by first | rfl | exact (sy_n0 rfl).trans rfl⟩, rfl, ⟨rfl, rfl, by first | rfl | exact (sy_n0 rfl).trans rfl⟩, rfl, ⟨rfl, rfl, by first | rfl | exact (sy_n0 rfl).trans rfl⟩, trivial⟩, ⟨rfl, rfl, rfl, rfl, ⟨rfl, ⟨rfl, rfl, by first | rfl | exact (sy_n0 rfl).trans rfl⟩, trivial⟩, ⟨rfl, rfl, rfl, rfl, ⟨rfl, ⟨rfl, rfl, by first | rfl | exact (sy_n0 rfl).trans rfl⟩, trivial⟩, ⟨rfl, rfl, rfl, rfl, ⟨rfl, ⟨rfl, rfl, by first | rfl | exact (sy_n0 rfl).trans rfl⟩, rfl, ⟨rfl, rfl, by first | rfl | exact (sy_n0 rfl).trans rfl⟩, trivial⟩, ⟨rfl, rfl, rfl, rfl, ⟨rfl, ⟨rfl, rfl, by first | rfl | exact (sy_n0 rfl).trans rfl⟩, rfl, ⟨rfl, rfl, by first | rfl | exact (sy_n0 rfl).trans rfl⟩, trivial⟩, ⟨rfl, rfl, rfl, rfl, ⟨rfl, ⟨rfl, rfl, by first | rfl | exact (sy_n0 rfl).trans rfl⟩, rfl, ⟨rfl, rfl, by first | rfl | exact (sy_n0 rfl).trans rfl⟩, trivial⟩, trivial⟩⟩⟩⟩⟩⟩, rfl, rfl, rfl⟩ hA
      obtain ⟨c1, r1, t1, e1, ch1, -⟩ := gd_e_u (rest := rest) hrest (N : Int) (m : Int) (k : Int) a t5 t6 t7 (by omega) (by omega) (by omega) (by omega) (by omega) (by omega) ha.1 ha.2 (by omega) so_0 sx_0 hA2 hE
      refine ⟨c1, r1, ?_, sm (by rfl) (by rfl) (by rfl) (by rfl) (by rfl) hA2 t1 ch1⟩
      obtain ⟨⟨f, q, g1, ⟨g2, g3, g4, g5⟩, g6⟩, -⟩ := t1
      obtain ⟨w, ws, g7, g8, g9⟩ := g5.cons
      obtain ⟨x, rfl, hx⟩ := g8
      obtain ⟨f1, f2, f3, f4⟩ := f
      dsimp only at g2 g3 g7
      rw [g9.nil] at g7
      have g6 : q = rest := g6
      refine ⟨42, f3, x, Or.inl rfl, by rw [g1, g2, g3, g7, g6], ?_⟩
      rw [hx]
      unfold cfor
      rw [if_pos h]
      show 0 + ((1 : Nat) : Int) * (m : Int) = _
      omega
    · have hA : sy_T (sy_ev [(N : Int), (m : Int), (k : Int), a, l m, t5, t6, t7]) rest gd_AH c := sy_T_add (G := ([], [])) (hb5 a (l m)) sg_0 (mem (l m) rfl _ rfl rfl rfl rfl) (by decide +kernel) rfl ⟨rfl, rfl, rfl⟩
      rcases Int.lt_or_gt_of_ne h with h9 | h9
      · obtain ⟨c1, r1, t1, e1, ch1, -⟩ := gd_g_u (rest := rest) hrest (N : Int) (m : Int) (k : Int) a (l m) t5 t6 t7 (by omega) (by omega) (by omega) (by omega) (by omega) (by omega) ha.1 ha.2 hb.1 hb.2 (by omega) h9 so_0 sx_0 hA hE
        exact next c1 r1 t1 e1 (sm (by rfl) (by rfl) (by rfl) (by rfl) (by rfl) hA t1 ch1) h
      · obtain ⟨c1, r1, t1, e1, ch1, -⟩ := gd_l_u (rest := rest) hrest (N : Int) (m : Int) (k : Int) a (l m) t5 t6 t7 (by omega) (by omega) (by omega) (by omega) (by omega) (by omega) ha.1 ha.2 hb.1 hb.2 (by omega) h9 so_0 sx_0 hA hE
        exact next c1 r1 t1 e1 (sm (by rfl) (by rfl) (by rfl) (by rfl) (by rfl) hA t1 ch1) h
end PeS
section PeT
variable {L : Nat} {xs : Nat → Int32} {c c' : MsC} {l : Nat → Int} {a : Int} {N k f : Nat}
/-- what clauseFor answers -/
theorem cf_go {S : AmS} {G : MsF} {r : List MsF} {x y : Int32} (hr : r.length ≤ 36) (hN : N ≤ 2623) (hk : k ≤ 40) (hf : f ≤ k) (ha : 112 ≤ a ∧ a ≤ 115) (hl : ∀ m, m < k → 112 ≤ l m ∧ l m ≤ 115) (hx : x.toInt = N) (hy : y.toInt = f) (hE : sy_E0 L xs ([], S)) (hm : sy_me (sy_ev [0, 0, (k : Int)]) gd_H.2.1 S) (hc : cl_ok l k S.2.1) (hn : nn_ok S.2.1 N a) : ∃ (v : Int32) (S' : AmS), v.toInt = cfor l a (k - f) f ∧ sy_sm S S' ∧ rch ((32, 0, [(0, .ref 3), (1, .int x), (2, .int y)], []) :: G :: r, S) ((G.1, G.2.1, G.2.2.1, .int v :: G.2.2.2) :: r, S') := by
  have fin : ∀ c1 : MsC, rch ((32, 0, [(0, .ref 3), (1, .int x), (2, .int y)], []) :: G :: r, S) c1 → sy_T (sy_ev [(N : Int), (f : Int), (k : Int), 0, 0, (S.2.2.1 : Int), (S.2.2.2.1 : Int), (S.2.2.2.2 : Int)]) (G :: r) gd_H c1 → sy_E0 L xs c1 → sy_ch (sy_ev [(N : Int), (f : Int), (k : Int), 0, 0, (S.2.2.1 : Int), (S.2.2.2.1 : Int), (S.2.2.2.2 : Int)]) [] ((32, 0, [(0, .ref 3), (1, .int x), (2, .int y)], []) :: G :: r, S) c1 → ∃ (v : Int32) (S' : AmS), v.toInt = cfor l a (k - f) f ∧ sy_sm S S' ∧ rch ((32, 0, [(0, .ref 3), (1, .int x), (2, .int y)], []) :: G :: r, S) ((G.1, G.2.1, G.2.2.1, .int v :: G.2.2.2) :: r, S') := fun c1 r1 t1 e1 ch1 => by
    have s1 : sy_sm S c1.2 := by
      obtain ⟨-, -, b1, b2, b3⟩ := t1
      have q1 : sy_n (sy_ev [(N : Int), (f : Int), (k : Int), 0, 0, (S.2.2.1 : Int), (S.2.2.2.1 : Int), (S.2.2.2.2 : Int)]) gd_H.2.2.1 = S.2.2.1 := by
        show 0 + ((1 : Nat) : Int) * (S.2.2.1 : Int) = _
        omega
      have q2 : sy_n (sy_ev [(N : Int), (f : Int), (k : Int), 0, 0, (S.2.2.1 : Int), (S.2.2.2.1 : Int), (S.2.2.2.2 : Int)]) gd_H.2.2.2.1 = S.2.2.2.1 := by
        show 0 + ((1 : Nat) : Int) * (S.2.2.2.1 : Int) = _
        omega
      have q3 : sy_n (sy_ev [(N : Int), (f : Int), (k : Int), 0, 0, (S.2.2.1 : Int), (S.2.2.2.1 : Int), (S.2.2.2.2 : Int)]) gd_H.2.2.2.2.1 = S.2.2.2.2 := by
        show 0 + ((1 : Nat) : Int) * (S.2.2.2.2 : Int) = _
        omega
      exact sy_sm.of (c := ((32, 0, [(0, .ref 3), (1, .int x), (2, .int y)], []) :: G :: r, S)) ch1 (by show c1.2.2.2.1 = S.2.2.1; omega) (by show c1.2.2.2.2.1 = S.2.2.2.1; omega) (by show c1.2.2.2.2.2 = S.2.2.2.2; omega)
    have hq : ∀ q : Nat, (q = 10 ∨ q = 11 ∨ q = 4 ∨ q = 5 ∨ q = 6) → (q < S.2.2.1 ∨ am_EXT ≤ q) := fun q hq => by
      rcases hq with rfl | rfl | rfl | rfl | rfl
      · exact (hm.inst 10 61 41 (by decide +kernel)).2
      · exact (hm.inst 11 61 41 (by decide +kernel)).2
      · exact (hm.inst 4 61 2624 (by decide +kernel)).2
      · exact (hm.inst 5 61 2624 (by decide +kernel)).2
      · exact (hm.inst 6 62 2624 (by decide +kernel)).2
    obtain ⟨c2, r2, ⟨n, ls, v, hn42, hc2, hv⟩, s2⟩ := cf_loop (rest := G :: r) (by show r.length + 1 ≤ 37; omega) hN hk ha hl (k - f) f c1 (by omega) t1 e1 (hc.eq fun q j h => (s1.1 q (hq q h)).2 j) (hn.eq fun q j h => (s1.1 q (hq q (by omega))).2 j)
    obtain ⟨c21, S2⟩ := c2
    dsimp only at hc2
    subst hc2
    refine ⟨v, S2, hv, s1.tr s2, r1.tr (r2.tr ?_)⟩
    rcases hn42 with rfl | rfl
    · exact ms_end1 (o := (41, 0, 0, 0, [])) (v := some (.int v)) rfl rfl rfl
    · exact ms_end1 (o := (41, 0, 0, 0, [])) (v := some (.int v)) rfl rfl rfl
  have hmem : sy_me (sy_ev [(N : Int), (f : Int), (k : Int), 0, 0, (S.2.2.1 : Int), (S.2.2.2.1 : Int), (S.2.2.2.2 : Int)]) gd_H.2.1 S := sy_b_m (m := [2]) (by exact aa.mem ⟨rfl, trivial⟩) (by decide +kernel) hm
  have htop : ((S.2.2.1 : Int) = sy_n (sy_ev [(N : Int), (f : Int), (k : Int), 0, 0, (S.2.2.1 : Int), (S.2.2.2.1 : Int), (S.2.2.2.2 : Int)]) gd_H.2.2.1 ∧ (S.2.2.2.1 : Int) = sy_n (sy_ev [(N : Int), (f : Int), (k : Int), 0, 0, (S.2.2.1 : Int), (S.2.2.2.1 : Int), (S.2.2.2.2 : Int)]) gd_H.2.2.2.1 ∧ (S.2.2.2.2 : Int) = sy_n (sy_ev [(N : Int), (f : Int), (k : Int), 0, 0, (S.2.2.1 : Int), (S.2.2.2.1 : Int), (S.2.2.2.2 : Int)]) gd_H.2.2.2.2.1) := by
    refine ⟨?_, ?_, ?_⟩
    · show (S.2.2.1 : Int) = 0 + ((1 : Nat) : Int) * (S.2.2.1 : Int); omega
    · show (S.2.2.2.1 : Int) = 0 + ((1 : Nat) : Int) * (S.2.2.2.1 : Int); omega
    · show (S.2.2.2.2 : Int) = 0 + ((1 : Nat) : Int) * (S.2.2.2.2 : Int); omega
  have hE2 : sy_E0 L xs ((32, 0, [(0, .ref 3), (1, .int x), (2, .int y)], []) :: G :: r, S) := hE
  by_cases h0 : f = 0
  · subst h0
    have hA : sy_T (sy_ev [(N : Int), 0, (k : Int), 0, 0, (S.2.2.1 : Int), (S.2.2.2.1 : Int), (S.2.2.2.2 : Int)]) (G :: r) gd_A0 ((32, 0, [(0, .ref 3), (1, .int x), (2, .int y)], []) :: G :: r, S) := by
      refine ⟨⟨_, _, rfl, ⟨rfl, rfl, fun i b hi => ?_, trivial⟩, rfl⟩, hmem, htop⟩
      match i, hi with
      | 0, hi => cases hi; exact ⟨_, rfl, by rw [show ((4, 3, 0, 0) : SyV) = (4, ((3 : Nat) : Int), 0, 0) from rfl]; exact ⟨by rw [sy_n0 rfl]; decide, by rw [sy_n0 rfl]; rfl⟩⟩
      | 1, hi => cases hi; exact ⟨_, rfl, x, rfl, by rw [hx]; show (N : Int) = 0 + ((1 : Nat) : Int) * (N : Int); omega⟩
      | 2, hi => cases hi; exact ⟨_, rfl, y, rfl, by rw [hy, sy_n0 rfl]; rfl⟩
      | i + 3, hi => cases hi
    have hA3 : sy_T (sy_ev [(N : Int), 0, (k : Int), a, 0, (S.2.2.1 : Int), (S.2.2.2.1 : Int), (S.2.2.2.2 : Int)]) (G :: r) gd_A0 ((32, 0, [(0, .ref 3), (1, .int x), (2, .int y)], []) :: G :: r, S) := sy_b_T (m := [0, 2, 5, 6, 7]) (by exact aa.mem ⟨rfl, rfl, rfl, rfl, rfl, trivial⟩) (by decide +kernel) hA
    obtain ⟨c1, r1, t1, e1, ch1, -⟩ := gd_0_u (rest := G :: r) (by show r.length + 1 ≤ 37; omega) (N : Int) 0 (k : Int) a _ _ _ (by omega) (by omega) (by omega) (by omega) (by omega) (by omega) ha.1 ha.2 so_0 sx_0 hA3 hE2
    exact fin c1 r1 t1 e1 ⟨fun q j h _ => ch1.1 q j h fun w hw => (nomatch hw), ch1.2⟩
  · have hA : sy_T (sy_ev [(N : Int), (f : Int), (k : Int), a, 0, (S.2.2.1 : Int), (S.2.2.2.1 : Int), (S.2.2.2.2 : Int)]) (G :: r) gd_A ((32, 0, [(0, .ref 3), (1, .int x), (2, .int y)], []) :: G :: r, S) := by
      refine ⟨⟨_, _, rfl, ⟨rfl, rfl, fun i b hi => ?_, trivial⟩, rfl⟩, sy_b_m (m := [2]) (by exact aa.mem ⟨rfl, trivial⟩) (by decide +kernel) hm, htop⟩
      match i, hi with
      | 0, hi => cases hi; exact ⟨_, rfl, by rw [show ((4, 3, 0, 0) : SyV) = (4, ((3 : Nat) : Int), 0, 0) from rfl]; exact ⟨by rw [sy_n0 rfl]; decide, by rw [sy_n0 rfl]; rfl⟩⟩
      | 1, hi => cases hi; exact ⟨_, rfl, x, rfl, by rw [hx]; show (N : Int) = 0 + ((1 : Nat) : Int) * (N : Int); omega⟩
      | 2, hi => cases hi; exact ⟨_, rfl, y, rfl, by rw [hy]; show (f : Int) = 0 + ((1 : Nat) : Int) * (f : Int); omega⟩
      | i + 3, hi => cases hi
    obtain ⟨c1, r1, t1, e1, ch1, -⟩ := gd_1_u (rest := G :: r) (by show r.length + 1 ≤ 37; omega) (N : Int) (f : Int) (k : Int) a _ _ _ (by omega) (by omega) (by omega) (by omega) (by omega) (by omega) ha.1 ha.2 so_0 sx_0 hA hE2
    exact fin c1 r1 t1 e1 ⟨fun q j h _ => ch1.1 q j h fun w hw => (nomatch hw), ch1.2⟩
/-- as a call of which the answer is known -/
theorem cf_Or {pv : Nat → Int} {X : List Nat} {vN vf vr : SyV} (hX : ∀ q ∈ [3, 4, 5, 6, 10, 11], q ∈ X) (hXt : ∀ q ∈ X, q < c.2.2.2.1) (hN : N ≤ 2623) (hk : k ≤ 40) (hf : f ≤ k) (ha : 112 ≤ a ∧ a ≤ 115) (hl : ∀ m, m < k → 112 ≤ l m ∧ l m ≤ 115) (kN : vN.1 = 0 ∧ sy_n pv vN = N) (kf : vf.1 = 0 ∧ sy_n pv vf = f) (kr : vr.1 = 0 ∧ sy_n pv vr = cfor l a (k - f) f) (hE : sy_E0 L xs c) (hm : sy_me (sy_ev [0, 0, (k : Int)]) gd_H.2.1 c.2) (hc : cl_ok l k c.2.2.1) (hn : nn_ok c.2.2.1 N a) : sy_Or pv (sy_x X c) [(32, [(4, 3, 0, 0), vN, vf], vr)] := by
  intro q hq vs hs S G r hK hr
  rcases List.mem_cons.mp hq with rfl | hq
  · obtain ⟨w0, q0, rfl, h1, h2⟩ := hs.cons
    obtain ⟨w1, q1, rfl, h3, h4⟩ := h2.cons
    obtain ⟨w2, q2, rfl, h5, h6⟩ := h4.cons
    rw [h6.nil]
    have e0 : w0 = .ref 3 := by
      rw [(h1.ref rfl).2, sy_n0 rfl]
      rfl
    obtain ⟨x, rfl, hx⟩ := h3.int kN.1
    obtain ⟨y, rfl, hy⟩ := h5.int kf.1
    subst e0
    obtain ⟨k1, k2, k3, k4, k5, k6⟩ := hK
    have cell : ∀ q ∈ [3, 4, 5, 6, 10, 11], ∀ j, S.2.1 q j = c.2.2.1 q j := fun q hq j => (k2 q (hX q hq)).2 j
    have inst : ∀ q : Nat, (q < c.2.2.2.1 ∨ am_EXT ≤ q) → S.1 q = c.2.1 q := fun q hq => k1 q hq
    have hE2 : sy_E0 L xs ([], S) := ⟨fun q j hq => (k6 q j hq).trans (hE.1 q j hq), fun q hq => (k1 q (Or.inr hq)).trans (hE.2.1 q hq), k3⟩
    have hm2 : sy_me (sy_ev [0, 0, (k : Int)]) gd_H.2.1 S := by
      have hin : gd_H.2.1.all (fun e => decide (e.1.2.2.2 = 0 ∧ e.1.2.1 ∈ ([3, 4, 5, 6, 10, 11] : List Int)) && e.2.2.2.1.isNone) = true := by decide +kernel
      intro e he
      obtain ⟨g0, g00⟩ := Bool.and_eq_true_iff.mp (List.all_eq_true.mp hin e he)
      have g0 := of_decide_eq_true g0
      obtain ⟨q, g1, g2, g3, g4, g5⟩ := hm e he
      have g1' := g1
      rw [sy_n0 g0.1] at g1'
      have hq6 : q ∈ [3, 4, 5, 6, 10, 11] := by
        have h9 := g0.2
        rw [g1'] at h9
        rcases List.mem_cons.mp h9 with h9 | h9
        · have : q = 3 := by omega
          subst this; decide
        · rcases List.mem_cons.mp h9 with h9 | h9
          · have : q = 4 := by omega
            subst this; decide
          · rcases List.mem_cons.mp h9 with h9 | h9
            · have : q = 5 := by omega
              subst this; decide
            · rcases List.mem_cons.mp h9 with h9 | h9
              · have : q = 6 := by omega
                subst this; decide
              · rcases List.mem_cons.mp h9 with h9 | h9
                · have : q = 10 := by omega
                  subst this; decide
                · rcases List.mem_cons.mp h9 with h9 | h9
                  · have : q = 11 := by omega
                    subst this; decide
                  · cases h9
      refine ⟨q, g1, (inst q g3).trans g2, Or.inl (Nat.lt_of_lt_of_le (hXt q (hX q hq6)) k4), fun p hp => ?_, fun d hd => by rw [hd] at g00; cases g00⟩
      obtain ⟨i, i1, i2⟩ := g4 p hp
      exact ⟨i, i1, by rw [cell q hq6 i]; exact i2⟩
    obtain ⟨v, S', h7, h8, h9⟩ := cf_go (G := G) (x := x) (y := y) hr hN hk hf ha hl (by rw [hx]; exact kN.2) (by rw [hy]; exact kf.2) hE2 hm2 (hc.eq fun q j h => cell q (by rcases h with rfl | rfl | rfl | rfl | rfl <;> decide) j) (hn.eq fun q j h => cell q (by rcases h with rfl | rfl | rfl <;> decide) j)
    refine ⟨.int v, S', ?_, h8, h9⟩
    unfold sy_v
    rw [kr.1]
    exact ⟨v, rfl, by rw [h7]; exact kr.2.symm⟩
  · cases hq
end PeT
