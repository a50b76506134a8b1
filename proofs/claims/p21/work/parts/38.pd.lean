/-! PHASE C: the clauses. -/
def ndc (i : Nat) : Nat × Nat × Nat := nd_c.getD i (0, 0, 0)
def nd_k (i : Nat) : Nat := [0, 0, 0, 0, 0, 0, 1, 1, 1].getD i 0
def nd_z (f : Int × Int × Int) (i : Nat) : Int := [5, if f.2.2 = 88 then 3 else 5, 5, 0, 0, 2, f.2.1, if f.2.2 = 88 then 0 else f.2.2, f.1, -1, -1, 0, 1, -1, -1, 0, 1, 0, 2, -1, 0, if f.2.2 = 88 then 1 else 0, 0].getD i 0
/-- the clauses of the facts up to k -/
def nd_ok (fa : Fa) (k : Nat) (M : Nat → Nat → Value) : Prop := ∀ j, j < k → ∀ i, i < 23 → tv M (ndc i).1 ((ndc i).2.1 * j + (ndc i).2.2) (nd_k i) (nd_z (fa j) i)
theorem ndc_r (i : Nat) (hi : i < 23) : (4 ≤ (ndc i).1 ∧ (ndc i).1 ≤ 9 ∧ (ndc i).2.1 = 64 ∧ (ndc i).2.2 < 64) ∨ (11 ≤ (ndc i).1 ∧ (ndc i).1 ≤ 15 ∧ (ndc i).2.1 = 1 ∧ (ndc i).2.2 = 0) := by
  have h : (List.range 23).all (fun i => decide ((4 ≤ (ndc i).1 ∧ (ndc i).1 ≤ 9 ∧ (ndc i).2.1 = 64 ∧ (ndc i).2.2 < 64) ∨ (11 ≤ (ndc i).1 ∧ (ndc i).1 ≤ 15 ∧ (ndc i).2.1 = 1 ∧ (ndc i).2.2 = 0))) = true := by decide +kernel
  exact of_decide_eq_true (List.all_eq_true.mp h i (List.mem_range.mpr hi))
/-- nothing of the clauses of the facts up to k is written -/
theorem nd_keep {fa : Fa} {k : Nat} {M M' : Nat → Nat → Value} (h : nd_ok fa k M) (hw : ∀ a j : Nat, ((4 ≤ a ∧ a ≤ 9 ∧ j < 64 * k) ∨ (11 ≤ a ∧ a ≤ 15 ∧ j < k)) → M' a j = M a j) : nd_ok fa k M' := fun j hj i hi => (h j hj i hi).eq (hw _ _ (by
  rcases ndc_r i hi with ⟨h1, h2, h3, h4⟩ | ⟨h1, h2, h3, h4⟩
  · exact Or.inl ⟨h1, h2, by rw [h3]; omega⟩
  · exact Or.inr ⟨h1, h2, by rw [h3, h4]; omega⟩))
/-- what stays while the clauses are read -/
def pc_P (L : Nat) (xs : Nat → Int32) (n : Nat) (fa : Fa) (k : Nat) (c : MsC) : Prop := sy_E0 L xs c ∧ sy_me (fun _ => 0) gc_CD c.2 ∧ sy_me (sy_ev [(n : Int)]) (gc_TT ++ gc_TAPE) c.2 ∧ tok_ok fa n c.2.2.1 ∧ nd_ok fa k c.2.2.1 ∧ 54 ≤ c.2.2.2.1
def pc_e2t : SyE := ((4, 2, 0, 0), 64, 2000, none, (List.range 115).map (fun (i : Nat) => ((0, (i : Int), 0, 9), ((0, pb_tail.getD i 0, 0, 0) : SyV))))
def pc_e190 : SyE := ((4, 19, 0, 0), 61, 2001, none, (List.range 1).map (fun (_ : Nat) => (((0, 0, 0, 0), (0, 5, 0, 0)) : SyV × SyV)))
section PdS
variable {L : Nat} {xs : Nat → Int32} {c c' : MsC} {n r : Nat} {fa : Fa}
theorem m0 {pv pw : Nat → Int} (h : pv 0 = pw 0) : ∀ p ∈ [0], pv p = pw p := fun p hp => by
  rcases List.mem_cons.mp hp with rfl | hp
  · exact h
  · cases hp
/-- the tokens of the tail, and the first clause -/
theorem pc_t (hn : 2 ≤ n ∧ n ≤ 11) (hr : r ≤ 20) (hT : sy_T (sy_ev [(n : Int), (r : Int), (n : Int)]) [] gc_TK c) (h : pc_S L xs n fa n c) : ∃ c', rch c c' ∧ sy_T (sy_ev [(n : Int), (r : Int), ((0 : Nat) : Int)]) [] gc_TC c' ∧ pc_P L xs n fa 0 c' := by
  obtain ⟨h1, h2, h3, h4, h5, h6⟩ := h
  have hT1 : sy_T (sy_ev [(n : Int), (r : Int)]) [] gc_TKn c := sq_T.ok (T := gc_TK) (pv := sy_ev [(n : Int), (r : Int), (n : Int)]) ⟨⟨rfl, rfl, ⟨rfl, ⟨rfl, rfl, by first | rfl | exact (sy_n0 rfl).trans rfl⟩, rfl, ⟨rfl, rfl, by first | rfl | exact (sy_n0 rfl).trans rfl⟩, trivial⟩, trivial, ⟨rfl, rfl, ⟨rfl, ⟨rfl, rfl, by first | rfl | exact (sy_n0 rfl).trans rfl⟩, rfl, ⟨rfl, rfl, by first | rfl | exact (sy_n0 rfl).trans rfl⟩, rfl, ⟨rfl, rfl, by first | rfl | exact (sy_n0 rfl).trans rfl⟩, rfl, ⟨rfl, rfl, by first | rfl | exact (sy_n0 rfl).trans rfl⟩, trivial⟩, trivial, ⟨rfl, rfl, ⟨rfl, ⟨rfl, rfl, by first | rfl | exact (sy_n0 rfl).trans rfl⟩, trivial⟩, trivial, ⟨rfl, rfl, ⟨rfl, ⟨rfl, rfl, by first | rfl | exact (sy_n0 rfl).trans rfl⟩, trivial⟩, trivial, ⟨rfl, rfl, ⟨rfl, ⟨rfl, rfl, by first | rfl | exact (sy_n0 rfl).trans rfl⟩, trivial⟩, ⟨⟨rfl, rfl, by first | rfl | exact (sy_n0 rfl).trans rfl⟩, trivial⟩, ⟨rfl, rfl, ⟨rfl, ⟨rfl, rfl, by first | rfl | exact (sy_n0 rfl).trans rfl⟩, rfl, ⟨rfl, rfl, by first | rfl | exact (sy_n0 rfl).trans rfl⟩, rfl, ⟨rfl, rfl, by first | rfl | exact (sy_n0 rfl).trans rfl⟩, rfl, ⟨rfl, rfl, by first | rfl | exact (sy_n0 rfl).trans rfl⟩, rfl, ⟨rfl, rfl, by first | rfl | exact (sy_n0 rfl).trans rfl⟩, trivial⟩, trivial, trivial⟩⟩⟩⟩⟩⟩, ⟨rfl, rfl, rfl, rfl, ⟨rfl, ⟨rfl, rfl, by first | rfl | exact (sy_n0 rfl).trans rfl⟩, rfl, ⟨rfl, rfl, by first | rfl | exact (sy_n0 rfl).trans rfl⟩, rfl, ⟨rfl, rfl, by first | rfl | exact (sy_n0 rfl).trans rfl⟩, rfl, ⟨rfl, rfl, by first | rfl | exact (sy_n0 rfl).trans rfl⟩, rfl, ⟨rfl, rfl, by first | rfl | exact (sy_n0 rfl).trans rfl⟩, trivial⟩, ⟨rfl, rfl, rfl, rfl, trivial, ⟨rfl, rfl, rfl, rfl, trivial, ⟨rfl, rfl, rfl, rfl, trivial, trivial⟩⟩⟩⟩, rfl, rfl, rfl⟩ hT
  have hg : sy_g (sy_ev [(n : Int), (r : Int)]) ([(0, 2, 11), (1, 0, 20)], []) := by
    refine sg_b ?_ ?_ (sg_b ?_ ?_ sg_0)
    · show (2 : Int) ≤ n; omega
    · show (n : Int) ≤ 11; omega
    · show (0 : Int) ≤ r; omega
    · show (r : Int) ≤ 20; omega
  have hD : sy_me (sy_ev [(n : Int), (r : Int)]) ((gc_CC ++ gc_TAPE) ++ [pc_e2t, pc_e190]) c.2 := by
    refine ((h2.const (by decide +kernel)).app (sy_b_m (m := [0]) (by exact m0 rfl) (by decide +kernel) h3)).app fun e he => ?_
    rcases List.mem_cons.mp he with rfl | he
    · exact sy_ce_row (q := 2) (m := 115) (g := fun i => (0, (i : Int), 0, 9)) (f := fun i => (0, pb_tail.getD i 0, 0, 0)) (h2.inst 2 64 2000 (by decide +kernel)) fun i hi => ⟨9 * n + i, by
        show (i : Int) + ((9 : Nat) : Int) * (n : Int) = _
        omega, by show (0 : Nat) < 9; decide, by
        rw [sy_n0 rfl]
        have := (h4 (9 * n + i) (by omega)).tv
        unfold tx at this
        rw [if_neg (by omega), show 9 * n + i - 9 * n = i by omega] at this
        exact this⟩
    · rcases List.mem_cons.mp he with rfl | he
      · exact sy_ce_row (q := 19) (m := 1) (g := fun _ => (0, 0, 0, 0)) (f := fun _ => (0, 5, 0, 0)) (h2.inst 19 61 2001 (by decide +kernel)) fun i hi => ⟨0, sy_n0 rfl, by show (0 : Nat) < 9; decide, by
          rw [sy_n0 rfl]
          exact (h5 0 (by omega) 0 (by omega)).1⟩
      · cases he
  have hA := sy_T_add (A := gc_A2) hT1 hg hD (by decide +kernel) rfl ⟨rfl, rfl, rfl⟩
  obtain ⟨c1, r1, t1, e1, ch1, -⟩ := gc_2_u (Nat.zero_le _) (n : Int) (r : Int) (by omega) (by omega) (by omega) (by omega) so_0 sx_0 hA h1
  have k2 : sy_me (fun _ => 0) gc_CC2 c1.2 := sy_me.ko (pw := fun _ => 0) (fun e he => (sy_lM0_ok (G := ([], [])) sg_0 h2 (show sy_lM ([], []) (gc_CC2.map (sy_suE [])) gc_CC = true by decide +kernel)) e he) ch1 (by decide +kernel)
  have t2 := sy_T_add (A := gc_TC0) t1 hg (k2.const (pw := sy_ev [(n : Int), (r : Int)]) (by decide +kernel)) (by decide +kernel) rfl ⟨rfl, rfl, rfl⟩
  refine ⟨c1, r1, sq_T.ok (T := gc_TC0) (pv := sy_ev [(n : Int), (r : Int)]) ⟨⟨rfl, rfl, ⟨rfl, ⟨rfl, rfl, by first | rfl | exact (sy_n0 rfl).trans rfl⟩, rfl, ⟨rfl, rfl, by first | rfl | exact (sy_n0 rfl).trans rfl⟩, trivial⟩, trivial, ⟨rfl, rfl, ⟨rfl, ⟨rfl, rfl, by first | rfl | exact (sy_n0 rfl).trans rfl⟩, rfl, ⟨rfl, rfl, by first | rfl | exact (sy_n0 rfl).trans rfl⟩, rfl, ⟨rfl, rfl, by first | rfl | exact (sy_n0 rfl).trans rfl⟩, trivial⟩, trivial, ⟨rfl, rfl, ⟨rfl, ⟨rfl, rfl, by first | rfl | exact (sy_n0 rfl).trans rfl⟩, trivial⟩, ⟨⟨rfl, rfl, by first | rfl | exact (sy_n0 rfl).trans rfl⟩, trivial⟩, ⟨rfl, rfl, ⟨rfl, ⟨rfl, rfl, by first | rfl | exact (sy_n0 rfl).trans rfl⟩, rfl, ⟨rfl, rfl, by first | rfl | exact (sy_n0 rfl).trans rfl⟩, rfl, ⟨rfl, rfl, by first | rfl | exact (sy_n0 rfl).trans rfl⟩, rfl, ⟨rfl, rfl, by first | rfl | exact (sy_n0 rfl).trans rfl⟩, rfl, ⟨rfl, rfl, by first | rfl | exact (sy_n0 rfl).trans rfl⟩, trivial⟩, trivial, trivial⟩⟩⟩⟩, ⟨rfl, rfl, rfl, rfl, ⟨rfl, ⟨rfl, rfl, by first | rfl | exact (sy_n0 rfl).trans rfl⟩, rfl, ⟨rfl, rfl, by first | rfl | exact (sy_n0 rfl).trans rfl⟩, rfl, ⟨rfl, rfl, by first | rfl | exact (sy_n0 rfl).trans rfl⟩, rfl, ⟨rfl, rfl, by first | rfl | exact (sy_n0 rfl).trans rfl⟩, rfl, ⟨rfl, rfl, by first | rfl | exact (sy_n0 rfl).trans rfl⟩, rfl, ⟨rfl, rfl, by first | rfl | exact (sy_n0 rfl).trans rfl⟩, rfl, ⟨rfl, rfl, by first | rfl | exact (sy_n0 rfl).trans rfl⟩, trivial⟩, ⟨rfl, rfl, rfl, rfl, trivial, ⟨rfl, rfl, rfl, rfl, ⟨rfl, ⟨rfl, rfl, by first | rfl | exact (sy_n0 rfl).trans rfl⟩, rfl, ⟨rfl, rfl, by first | rfl | exact (sy_n0 rfl).trans rfl⟩, rfl, ⟨rfl, rfl, by first | rfl | exact (sy_n0 rfl).trans rfl⟩, rfl, ⟨rfl, rfl, by first | rfl | exact (sy_n0 rfl).trans rfl⟩, rfl, ⟨rfl, rfl, by first | rfl | exact (sy_n0 rfl).trans rfl⟩, rfl, ⟨rfl, rfl, by first | rfl | exact (sy_n0 rfl).trans rfl⟩, rfl, ⟨rfl, rfl, by first | rfl | exact (sy_n0 rfl).trans rfl⟩, rfl, ⟨rfl, rfl, by first | rfl | exact (sy_n0 rfl).trans rfl⟩, rfl, ⟨rfl, rfl, by first | rfl | exact (sy_n0 rfl).trans rfl⟩, rfl, ⟨rfl, rfl, by first | rfl | exact (sy_n0 rfl).trans rfl⟩, rfl, ⟨rfl, rfl, by first | rfl | exact (sy_n0 rfl).trans rfl⟩, rfl, ⟨rfl, rfl, by first | rfl | exact (sy_n0 rfl).trans rfl⟩, rfl, ⟨rfl, rfl, by first | rfl | exact (sy_n0 rfl).trans rfl⟩, trivial⟩, ⟨rfl, rfl, rfl, rfl, trivial, ⟨rfl, rfl, rfl, rfl, trivial, ⟨rfl, rfl, rfl, rfl, trivial, ⟨rfl, rfl, rfl, rfl, trivial, ⟨rfl, rfl, rfl, rfl, trivial, ⟨rfl, rfl, rfl, rfl, trivial, ⟨rfl, rfl, rfl, rfl, trivial, ⟨rfl, rfl, rfl, rfl, trivial, ⟨rfl, rfl, rfl, rfl, trivial, ⟨rfl, rfl, rfl, rfl, trivial, ⟨rfl, rfl, rfl, rfl, trivial, trivial⟩⟩⟩⟩⟩⟩⟩⟩⟩⟩⟩⟩⟩⟩, rfl, rfl, rfl⟩ t2, e1, sy_lM0_ok (G := ([], [])) sg_0 k2 (by decide +kernel), ?_, fun j hj i hi => ?_, fun j hj => absurd hj (by omega), by have := ch1.2.2; omega⟩
  · refine sy_me.app ?_ (h3.ko ch1 (by decide +kernel))
    exact sy_b_m (m := [0]) (by exact m0 rfl) (by decide +kernel) (sy_lM0_ok hg t1.2.1 (show sy_lM ([(0, 2, 11), (1, 0, 20)], []) (gc_TT.map (sy_suE [])) gc_T2.2.1 = true by decide +kernel))
  · obtain ⟨b1, b2⟩ := h5 j hj i hi
    have e7 : sy_n (sy_ev [(n : Int), (r : Int)]) ((0, 0, 0, 7) : SyV) = 7 * n := by
      show 0 + ((7 : Nat) : Int) * (n : Int) = _
      omega
    have c9 : ∀ (k9 : Nat) (z : Int), sy_n (sy_ev [(n : Int), (r : Int)]) ((k9, z, 0, 0) : SyV) = z := fun k9 z => sy_n0 rfl
    have w7 : ∀ a j : Nat, a = 19 ∨ a = 21 → j < 7 * n → c1.2.2.1 a j = c.2.2.1 a j := fun a j ha hj => by
      refine ch1.at (a := a) (by omega) ⟨fun z => ?_, fun z => ?_, fun z => ?_, fun z => ?_, fun z => ?_, trivial⟩
      · dsimp only at z; rw [c9, c9] at z; omega
      · dsimp only at z; rw [c9, e7] at z; omega
      · dsimp only at z; rw [c9, e7] at z; omega
      · dsimp only at z; rw [c9, e7] at z; omega
      · dsimp only at z; rw [c9, c9] at z; omega
    exact ⟨b1.eq (w7 19 _ (Or.inl rfl) (by omega)), b2.eq (w7 21 _ (Or.inr rfl) (by omega))⟩
/-- the description ahead of a fact's clause -/
def pd_k (x : Int) (i : Nat) : SyV := [(0, 5, 0, 0), (0, 40, 0, 0), (0, 5, 0, 0), (0, 44, 0, 0), (0, x, 0, 0), (0, 41, 0, 0), (0, 46, 0, 0), (0, 5, 0, 0)].getD i (0, 0, 0, 0)
def pd_t (w : SyV) (i : Nat) : SyV := [(1, 0, 3, 1), (1, 40, 0, 0), (1, 0, 6, 1), (1, 44, 0, 0), w, (1, 41, 0, 0), (1, 46, 0, 0)].getD i (0, 0, 0, 0)
def pd_D (x : Int) (w : SyV) : SyM := [((4, 10, 0, 0), 61, 41, none, (List.range 1).map (fun (_ : Nat) => (((0, 0, 2, 1), (0, 0, 2, 1)) : SyV × SyV))), ((4, 19, 0, 0), 61, 2001, none, (List.range 8).map (fun (i : Nat) => ((0, (i : Int), 2, 7), pd_k x i))), ((4, 21, 0, 0), 62, 2001, none, (List.range 7).map (fun (i : Nat) => ((0, (i : Int), 2, 7), pd_t w i)))]
/-- a fact's clause more -/
theorem pc_cl {k f : Nat} {A T : SyC} {x : Int} {w : SyV} {gl : List SyV} (hn : 2 ≤ n ∧ n ≤ 11) (hr : r ≤ 20) (hf : ∀ j, j < n → fa_ok (fa j)) (hk : k < n) (hed : sx_ed gc_G3v [] [] [(3, 48, 0)] f gc_WC [(2, (0, 1, 2, 1))] A T = true) (hl : A.2.2.2.2.2 = []) (ht : T.2.2 = gc_TC.2.2) (hb : sy_bC [0, 1, 2, 3, 5, 6] T = true) (hF : A.1 = gc_TC.1) (hH : A.2.2 = gc_TC.2.2) (hlm : sy_lM gc_G3v (A.2.1.map (sy_suE [])) (gc_TC.2.1 ++ (gc_TT ++ pd_D x w)) = true) (hT1 : T.1 = gc_TC.1) (hT2 : sy_lM ([], []) (gc_TC.2.1.map (sy_suE [])) T.2.1 = true)
    (hrow : (List.range 23).all (fun i => T.2.1.any (fun e => decide (e.1 = (4, ((ndc i).1 : Int), 0, 0)) && e.2.2.2.2.any (fun p => decide (p = ((0, ((ndc i).2.2 : Int) - (ndc i).2.1, 2, (ndc i).2.1), gl.getD i (0, 0, 0, 0)))))) = true)
    (v5 : Int) (hv5 : 97 ≤ v5 ∧ v5 ≤ 99) (hx : x = if (fa k).2.2 = 88 then 3 else 5) (hw : w.1 = 1 ∧ sy_n (sy_ev [(n : Int), (r : Int), (k : Int), (fa k).1, 0, v5, (fa k).2.1]) w = (fa k).2.2) (hgl : ∀ i, i < 23 → (gl.getD i (0, 0, 0, 0)).1 = nd_k i ∧ sy_n (sy_ev [(n : Int), (r : Int), ((k + 1 : Nat) : Int), (fa k).1, 0, v5, (fa k).2.1]) (gl.getD i (0, 0, 0, 0)) = nd_z (fa k) i) (hT : sy_T (sy_ev [(n : Int), (r : Int), (k : Int)]) [] gc_TC c) (h : pc_P L xs n fa k c) : ∃ c', rch c c' ∧ sy_T (sy_ev [(n : Int), (r : Int), ((k + 1 : Nat) : Int)]) [] gc_TC c' ∧ pc_P L xs n fa (k + 1) c' := by
  obtain ⟨h1, h2, h3, h4, h5, h6⟩ := h
  obtain ⟨f1, f2, f3⟩ := hf k hk
  have hg : sy_g (sy_ev [(n : Int), (r : Int), (k : Int), (fa k).1, 0, v5, (fa k).2.1]) gc_G3v := by
    refine sg_b ?_ ?_ (sg_b ?_ ?_ (sg_b ?_ ?_ (sg_b ?_ ?_ (sg_b ?_ ?_ (sg_b ?_ ?_ (sg_r ?_ sg_0))))))
    · show (2 : Int) ≤ n; omega
    · show (n : Int) ≤ 11; omega
    · show (0 : Int) ≤ r; omega
    · show (r : Int) ≤ 20; omega
    · show (0 : Int) ≤ k; omega
    · show (k : Int) ≤ 10; omega
    · show (112 : Int) ≤ (fa k).1; omega
    · show (fa k).1 ≤ 113; omega
    · show (97 : Int) ≤ v5; omega
    · show v5 ≤ 99; omega
    · show (97 : Int) ≤ (fa k).2.1; omega
    · show (fa k).2.1 ≤ 99; omega
    · show (k : Int) < n; omega
  have hm3 : ∀ {pv pw : Nat → Int}, pv 0 = pw 0 → pv 1 = pw 1 → pv 2 = pw 2 → ∀ p ∈ [0, 1, 2], pv p = pw p := fun g0 g1 g2 p hp => by
    rcases List.mem_cons.mp hp with rfl | hp
    · exact g0
    · rcases List.mem_cons.mp hp with rfl | hp
      · exact g1
      · rcases List.mem_cons.mp hp with rfl | hp
        · exact g2
        · cases hp
  have hA0 : sy_T (sy_ev [(n : Int), (r : Int), (k : Int), (fa k).1, 0, v5, (fa k).2.1]) [] gc_TC c := sy_b_T (m := [0, 1, 2]) (by exact hm3 rfl rfl rfl) (by decide +kernel) hT
  have hk1 : ∀ i, i < 8 → (pd_k x i).1 = 0 ∧ tv c.2.2.1 19 (7 * k + i) 0 (sy_n (sy_ev [(n : Int), (r : Int), (k : Int), (fa k).1, 0, v5, (fa k).2.1]) (pd_k x i)) := by
    intro i hi
    by_cases h7 : i < 7
    · have e9 : (pd_k x i).1 = 0 ∧ sy_n (sy_ev [(n : Int), (r : Int), (k : Int), (fa k).1, 0, v5, (fa k).2.1]) (pd_k x i) = tk_k (fa k) i := by
        match i, h7 with
        | 0, _ => exact ⟨rfl, sy_n0 rfl⟩
        | 1, _ => exact ⟨rfl, sy_n0 rfl⟩
        | 2, _ => exact ⟨rfl, sy_n0 rfl⟩
        | 3, _ => exact ⟨rfl, sy_n0 rfl⟩
        | 4, _ => exact ⟨rfl, (sy_n0 rfl).trans hx⟩
        | 5, _ => exact ⟨rfl, sy_n0 rfl⟩
        | 6, _ => exact ⟨rfl, sy_n0 rfl⟩
        | i + 7, h => exact absurd h (by omega)
      rw [e9.2]
      exact ⟨e9.1, (h4 k hk i h7).1⟩
    · have e7 : i = 7 := by omega
      subst e7
      refine ⟨rfl, ?_⟩
      rw [show sy_n (sy_ev [(n : Int), (r : Int), (k : Int), (fa k).1, 0, v5, (fa k).2.1]) (pd_k x 7) = 5 from sy_n0 rfl, show 7 * k + 7 = 7 * (k + 1) + 0 by omega]
      by_cases hlt : k + 1 < n
      · exact (h4 (k + 1) hlt 0 (by omega)).1
      · have e8 : k + 1 = n := by omega
        rw [e8]
        exact sy_me.look (v := (0, 5, 0, 0)) (a := (4, 19, 0, 0)) (i := (0, 0, 0, 7)) h3 (by decide +kernel) (by decide) (sy_n0 rfl) (by
          show 0 + ((7 : Nat) : Int) * (n : Int) = _
          omega) (sy_n0 rfl)
  have hk2 : ∀ i, i < 7 → (pd_t w i).1 = 1 ∧ tv c.2.2.1 21 (7 * k + i) 1 (sy_n (sy_ev [(n : Int), (r : Int), (k : Int), (fa k).1, 0, v5, (fa k).2.1]) (pd_t w i)) := by
    intro i hi
    have e9 : (pd_t w i).1 = 1 ∧ sy_n (sy_ev [(n : Int), (r : Int), (k : Int), (fa k).1, 0, v5, (fa k).2.1]) (pd_t w i) = tk_t (fa k) i := by
      match i, hi with
      | 0, _ => exact ⟨rfl, by show 0 + ((1 : Nat) : Int) * (fa k).1 = (fa k).1; omega⟩
      | 1, _ => exact ⟨rfl, sy_n0 rfl⟩
      | 2, _ => exact ⟨rfl, by show 0 + ((1 : Nat) : Int) * (fa k).2.1 = (fa k).2.1; omega⟩
      | 3, _ => exact ⟨rfl, sy_n0 rfl⟩
      | 4, _ => exact hw
      | 5, _ => exact ⟨rfl, sy_n0 rfl⟩
      | 6, _ => exact ⟨rfl, sy_n0 rfl⟩
      | i + 7, h => exact absurd h (by omega)
    rw [e9.2]
    exact ⟨e9.1, (h4 k hk i hi).2⟩
  have hord : tv c.2.2.1 10 k 0 k := by
    have hm : (List.range 41).all (fun j => gc_CD.any (fun e => decide (e.1 = (4, 10, 0, 0)) && e.2.2.2.2.any (fun p => decide (p = ((0, (j : Int), 0, 0), (0, (j : Int), 0, 0)))))) = true := by decide +kernel
    exact sy_me.look (v := (0, (k : Int), 0, 0)) (a := (4, 10, 0, 0)) (i := (0, (k : Int), 0, 0)) h2 (List.all_eq_true.mp hm k (List.mem_range.mpr (by omega))) (by show (0 : Nat) < 9; decide) (sy_n0 rfl) (sy_n0 rfl) (sy_n0 rfl)
  have hD : sy_me (sy_ev [(n : Int), (r : Int), (k : Int), (fa k).1, 0, v5, (fa k).2.1]) (gc_TT ++ pd_D x w) c.2 := by
    refine (sy_b_m (m := [0]) (by exact m0 rfl) (by decide +kernel) (fun e he => h3 e (List.mem_append_left _ he))).app fun e he => ?_
    rcases List.mem_cons.mp he with rfl | he
    · exact sy_ce_row (q := 10) (m := 1) (g := fun _ => (0, 0, 2, 1)) (f := fun _ => (0, 0, 2, 1)) (h2.inst 10 61 41 (by decide +kernel)) fun i hi => ⟨k, by
        show 0 + ((1 : Nat) : Int) * (k : Int) = _
        omega, by show (0 : Nat) < 9; decide, by
        rw [show sy_n (sy_ev [(n : Int), (r : Int), (k : Int), (fa k).1, 0, v5, (fa k).2.1]) ((0, 0, 2, 1) : SyV) = k by
          show 0 + ((1 : Nat) : Int) * (k : Int) = _
          omega]
        exact hord⟩
    · have ix : ∀ i : Nat, sy_n (sy_ev [(n : Int), (r : Int), (k : Int), (fa k).1, 0, v5, (fa k).2.1]) ((0, (i : Int), 2, 7) : SyV) = ((7 * k + i : Nat) : Int) := fun i => by
        show (i : Int) + ((7 : Nat) : Int) * (k : Int) = _
        omega
      rcases List.mem_cons.mp he with rfl | he
      · exact sy_ce_row (q := 19) (m := 8) (g := fun i => (0, (i : Int), 2, 7)) (f := pd_k x) (h2.inst 19 61 2001 (by decide +kernel)) fun i hi => ⟨7 * k + i, ix i, by rw [(hk1 i hi).1]; decide, by
          rw [(hk1 i hi).1]
          exact (hk1 i hi).2⟩
      · rcases List.mem_cons.mp he with rfl | he
        · exact sy_ce_row (q := 21) (m := 7) (g := fun i => (0, (i : Int), 2, 7)) (f := pd_t w) (h2.inst 21 62 2001 (by decide +kernel)) fun i hi => ⟨7 * k + i, ix i, by rw [(hk2 i hi).1]; decide, by
            rw [(hk2 i hi).1]
            exact (hk2 i hi).2⟩
        · cases he
  have hA := sy_T_add (A := A) hA0 hg hD hlm hF ⟨by rw [hH], by rw [hH], by rw [hH]⟩
  have hp6 : ∀ p ∈ [0, 1, 2, 3, 5, 6], sy_pv (sy_ev [(n : Int), (r : Int), (k : Int), (fa k).1, 0, v5, (fa k).2.1]) [(2, (0, 1, 2, 1))] p = sy_ev [(n : Int), (r : Int), ((k + 1 : Nat) : Int), (fa k).1, 0, v5, (fa k).2.1] p := sp_c (sp_i rfl rfl) (sp_c (sp_i rfl rfl) (sp_c (sp_a rfl (by show 1 + ((1 : Nat) : Int) * (k : Int) = ((k + 1 : Nat) : Int); omega)) (sp_c (sp_i rfl rfl) (sp_c (sp_i rfl rfl) (sp_c (sp_i rfl rfl) sp_0)))))
  obtain ⟨c', r1, t1, e1, ch1, -⟩ := sy_go hed hl (by rw [ht]; exact ⟨rfl, rfl, rfl⟩) hb hp6 hg so_0 (Nat.zero_le _) sx_0 hA h1
  have w9 : ∀ a j : Nat, a < 54 → (a = 16 → j < 3) → a ≠ 17 → (a = 3 → j < 13) → (4 ≤ a → a ≤ 9 → j < 64 * k) → (11 ≤ a → a ≤ 15 → j < k) → c'.2.2.1 a j = c.2.2.1 a j := fun a j ha h16 h17 h3 h49 h11 => by
    have e64 : sy_n (sy_ev [(n : Int), (r : Int), (k : Int), (fa k).1, 0, v5, (fa k).2.1]) ((0, 0, 2, 64) : SyV) = 64 * k := by
      show 0 + ((64 : Nat) : Int) * (k : Int) = _
      omega
    have e1 : sy_n (sy_ev [(n : Int), (r : Int), (k : Int), (fa k).1, 0, v5, (fa k).2.1]) ((0, 0, 2, 1) : SyV) = k := by
      show 0 + ((1 : Nat) : Int) * (k : Int) = _
      omega
    have c9 : ∀ (k9 : Nat) (z : Int), sy_n (sy_ev [(n : Int), (r : Int), (k : Int), (fa k).1, 0, v5, (fa k).2.1]) ((k9, z, 0, 0) : SyV) = z := fun k9 z => sy_n0 rfl
    refine ch1.at (a := a) (by omega) ⟨fun z => ?_, fun z => ?_, fun z => ?_, fun z => ?_, fun z => ?_, fun z => ?_, fun z => ?_, fun z => ?_, fun z => ?_, fun z => ?_, fun z => ?_, fun z => ?_, fun z => ?_, fun z => ?_, trivial⟩
    · dsimp only at z; rw [c9, c9] at z; omega
    · dsimp only at z; rw [c9, c9] at z; omega
    · dsimp only at z; rw [c9, c9] at z; omega
    · dsimp only at z; rw [c9, e64] at z; omega
    · dsimp only at z; rw [c9, e64] at z; omega
    · dsimp only at z; rw [c9, e64] at z; omega
    · dsimp only at z; rw [c9, e64] at z; omega
    · dsimp only at z; rw [c9, e64] at z; omega
    · dsimp only at z; rw [c9, e64] at z; omega
    · dsimp only at z; rw [c9, e1] at z; omega
    · dsimp only at z; rw [c9, e1] at z; omega
    · dsimp only at z; rw [c9, e1] at z; omega
    · dsimp only at z; rw [c9, e1] at z; omega
    · dsimp only at z; rw [c9, e1] at z; omega
  refine ⟨c', r1, ?_, e1, h2.ko ch1 (by decide +kernel), h3.ko ch1 (by decide +kernel), fun j hj i hi => ?_, fun j hj i hi => ?_, by have := ch1.2.2; omega⟩
  · have t2 := sy_T_add (A := gc_TC) (D := []) t1 (G := ([], [])) sg_0 (fun _ h => (nomatch h)) (by rw [List.append_nil]; exact hT2) hT1.symm ⟨by rw [ht], by rw [ht], by rw [ht]⟩
    exact sy_b_T (m := [0, 1, 2]) (by exact hm3 rfl rfl rfl) (by decide +kernel) t2
  · obtain ⟨b1, b2⟩ := h4 j hj i hi
    exact ⟨b1.eq (w9 19 _ (by omega) (by omega) (by omega) (by omega) (by omega) (by omega)), b2.eq (w9 21 _ (by omega) (by omega) (by omega) (by omega) (by omega) (by omega))⟩
  · by_cases hlt : j < k
    · exact nd_keep h5 (fun a j9 h9 => w9 a j9 (by omega) (by omega) (by omega) (by omega) (by omega) (by omega)) j hlt i hi
    · have e9 : j = k := by omega
      subst e9
      have hgi := hgl i hi
      have hlk := sy_me.look (D := T.2.1) (a := (4, ((ndc i).1 : Int), 0, 0)) (i := (0, ((ndc i).2.2 : Int) - (ndc i).2.1, 2, (ndc i).2.1)) (v := gl.getD i (0, 0, 0, 0)) (q := (ndc i).1) (j := (ndc i).2.1 * j + (ndc i).2.2) t1.2.1 (List.all_eq_true.mp hrow i (List.mem_range.mpr hi)) (by
        rw [hgi.1]
        have : (List.range 23).all (fun i => decide (nd_k i < 9)) = true := by decide +kernel
        exact of_decide_eq_true (List.all_eq_true.mp this i (List.mem_range.mpr hi))) (sy_n0 rfl) (by
        show (((ndc i).2.2 : Int) - (ndc i).2.1) + (((ndc i).2.1 : Nat) : Int) * ((j + 1 : Nat) : Int) = _
        rcases ndc_r i hi with ⟨-, -, g3, -⟩ | ⟨-, -, g3, -⟩
        · rw [g3]; omega
        · rw [g3]; omega) hgi.2
      rw [hgi.1] at hlk
      exact hlk
theorem pc_cl1 {k : Nat} (hn : 2 ≤ n ∧ n ≤ 11) (hr : r ≤ 20) (hf : ∀ j, j < n → fa_ok (fa j)) (hk : k < n) (hT : sy_T (sy_ev [(n : Int), (r : Int), (k : Int)]) [] gc_TC c) (h : pc_P L xs n fa k c) : ∃ c', rch c c' ∧ sy_T (sy_ev [(n : Int), (r : Int), ((k + 1 : Nat) : Int)]) [] gc_TC c' ∧ pc_P L xs n fa (k + 1) c' := by
  obtain ⟨-, f2, f3⟩ := hf k hk
  rcases f3 with f3 | f3
  · have h88 : ¬ (fa k).2.2 = 88 := by omega
    refine pc_cl (x := 5) (w := (1, 0, 5, 1)) (gl := nd_g0) hn hr hf hk gc_3_0 rfl rfl (by decide +kernel) rfl rfl (by decide +kernel) rfl (by decide +kernel) (by decide +kernel) (fa k).2.2 f3 (by rw [if_neg h88]) ⟨rfl, by
      show 0 + ((1 : Nat) : Int) * (fa k).2.2 = _
      omega⟩ (fun i hi => ?_) hT h
    match i, hi with
    | 0, _ => exact ⟨rfl, sy_n0 rfl⟩
    | 1, _ => exact ⟨rfl, (sy_n0 rfl).trans (if_neg h88).symm⟩
    | 2, _ => exact ⟨rfl, sy_n0 rfl⟩
    | 3, _ => exact ⟨rfl, sy_n0 rfl⟩
    | 4, _ => exact ⟨rfl, sy_n0 rfl⟩
    | 5, _ => exact ⟨rfl, sy_n0 rfl⟩
    | 6, _ => exact ⟨rfl, (show 0 + ((1 : Nat) : Int) * (fa k).2.1 = (fa k).2.1 by omega)⟩
    | 7, _ => exact ⟨rfl, (show 0 + ((1 : Nat) : Int) * (fa k).2.2 = (fa k).2.2 by omega).trans (if_neg h88).symm⟩
    | 8, _ => exact ⟨rfl, (show 0 + ((1 : Nat) : Int) * (fa k).1 = (fa k).1 by omega)⟩
    | 9, _ => exact ⟨rfl, sy_n0 rfl⟩
    | 10, _ => exact ⟨rfl, sy_n0 rfl⟩
    | 11, _ => exact ⟨rfl, sy_n0 rfl⟩
    | 12, _ => exact ⟨rfl, sy_n0 rfl⟩
    | 13, _ => exact ⟨rfl, sy_n0 rfl⟩
    | 14, _ => exact ⟨rfl, sy_n0 rfl⟩
    | 15, _ => exact ⟨rfl, sy_n0 rfl⟩
    | 16, _ => exact ⟨rfl, sy_n0 rfl⟩
    | 17, _ => exact ⟨rfl, sy_n0 rfl⟩
    | 18, _ => exact ⟨rfl, sy_n0 rfl⟩
    | 19, _ => exact ⟨rfl, sy_n0 rfl⟩
    | 20, _ => exact ⟨rfl, sy_n0 rfl⟩
    | 21, _ => exact ⟨rfl, (sy_n0 rfl).trans (if_neg h88).symm⟩
    | 22, _ => exact ⟨rfl, sy_n0 rfl⟩
    | i + 23, h => exact absurd h (by omega)
  · refine pc_cl (x := 3) (w := (1, 88, 0, 0)) (gl := nd_g1) hn hr hf hk gc_3_1 rfl rfl (by decide +kernel) rfl rfl (by decide +kernel) rfl (by decide +kernel) (by decide +kernel) 97 (by omega) (by rw [if_pos f3]) ⟨rfl, (sy_n0 rfl).trans f3.symm⟩ (fun i hi => ?_) hT h
    match i, hi with
    | 0, _ => exact ⟨rfl, sy_n0 rfl⟩
    | 1, _ => exact ⟨rfl, (sy_n0 rfl).trans (if_pos f3).symm⟩
    | 2, _ => exact ⟨rfl, sy_n0 rfl⟩
    | 3, _ => exact ⟨rfl, sy_n0 rfl⟩
    | 4, _ => exact ⟨rfl, sy_n0 rfl⟩
    | 5, _ => exact ⟨rfl, sy_n0 rfl⟩
    | 6, _ => exact ⟨rfl, (show 0 + ((1 : Nat) : Int) * (fa k).2.1 = (fa k).2.1 by omega)⟩
    | 7, _ => exact ⟨rfl, (sy_n0 rfl).trans (if_pos f3).symm⟩
    | 8, _ => exact ⟨rfl, (show 0 + ((1 : Nat) : Int) * (fa k).1 = (fa k).1 by omega)⟩
    | 9, _ => exact ⟨rfl, sy_n0 rfl⟩
    | 10, _ => exact ⟨rfl, sy_n0 rfl⟩
    | 11, _ => exact ⟨rfl, sy_n0 rfl⟩
    | 12, _ => exact ⟨rfl, sy_n0 rfl⟩
    | 13, _ => exact ⟨rfl, sy_n0 rfl⟩
    | 14, _ => exact ⟨rfl, sy_n0 rfl⟩
    | 15, _ => exact ⟨rfl, sy_n0 rfl⟩
    | 16, _ => exact ⟨rfl, sy_n0 rfl⟩
    | 17, _ => exact ⟨rfl, sy_n0 rfl⟩
    | 18, _ => exact ⟨rfl, sy_n0 rfl⟩
    | 19, _ => exact ⟨rfl, sy_n0 rfl⟩
    | 20, _ => exact ⟨rfl, sy_n0 rfl⟩
    | 21, _ => exact ⟨rfl, (sy_n0 rfl).trans (if_pos f3).symm⟩
    | 22, _ => exact ⟨rfl, sy_n0 rfl⟩
    | i + 23, h => exact absurd h (by omega)
theorem pc_cls (hn : 2 ≤ n ∧ n ≤ 11) (hr : r ≤ 20) (hf : ∀ j, j < n → fa_ok (fa j)) : ∀ (d k : Nat) (c : MsC), k + d = n → sy_T (sy_ev [(n : Int), (r : Int), (k : Int)]) [] gc_TC c → pc_P L xs n fa k c → ∃ c', rch c c' ∧ sy_T (sy_ev [(n : Int), (r : Int), (n : Int)]) [] gc_TC c' ∧ pc_P L xs n fa n c' := by
  intro d
  induction d with
  | zero =>
    intro k c hd hT h
    have e : k = n := by omega
    subst e
    exact ⟨c, rch.rf c, hT, h⟩
  | succ d ih =>
    intro k c hd hT h
    obtain ⟨c1, r1, t1, h1⟩ := pc_cl1 hn hr hf (k := k) (by omega) hT h
    obtain ⟨c2, r2, t2⟩ := ih (k + 1) c1 (by omega) t1 h1
    exact ⟨c2, r1.tr r2, t2⟩
/-- the tail's clauses, and back in the law -/
theorem pc_e (hn : 2 ≤ n ∧ n ≤ 11) (hr : r ≤ 20) (hT : sy_T (sy_ev [(n : Int), (r : Int), (n : Int)]) [] gc_TC c) (h : pc_P L xs n fa n c) : ∃ c', rch c c' ∧ sy_T (sy_ev [(n : Int), (r : Int)]) [] gc_T4 c' ∧ sy_E0 L xs c' ∧ sy_me (fun _ => 0) gc_CE c'.2 ∧ nd_ok fa n c'.2.2.1 := by
  obtain ⟨h1, h2, h3, h4, h5, h6⟩ := h
  have hT1 : sy_T (sy_ev [(n : Int), (r : Int)]) [] gc_TCn c := sq_T.ok (T := gc_TC) (pv := sy_ev [(n : Int), (r : Int), (n : Int)]) ⟨⟨rfl, rfl, ⟨rfl, ⟨rfl, rfl, by first | rfl | exact (sy_n0 rfl).trans rfl⟩, rfl, ⟨rfl, rfl, by first | rfl | exact (sy_n0 rfl).trans rfl⟩, trivial⟩, trivial, ⟨rfl, rfl, ⟨rfl, ⟨rfl, rfl, by first | rfl | exact (sy_n0 rfl).trans rfl⟩, rfl, ⟨rfl, rfl, by first | rfl | exact (sy_n0 rfl).trans rfl⟩, rfl, ⟨rfl, rfl, by first | rfl | exact (sy_n0 rfl).trans rfl⟩, trivial⟩, trivial, ⟨rfl, rfl, ⟨rfl, ⟨rfl, rfl, by first | rfl | exact (sy_n0 rfl).trans rfl⟩, trivial⟩, ⟨⟨rfl, rfl, by first | rfl | exact (sy_n0 rfl).trans rfl⟩, trivial⟩, ⟨rfl, rfl, ⟨rfl, ⟨rfl, rfl, by first | rfl | exact (sy_n0 rfl).trans rfl⟩, rfl, ⟨rfl, rfl, by first | rfl | exact (sy_n0 rfl).trans rfl⟩, rfl, ⟨rfl, rfl, by first | rfl | exact (sy_n0 rfl).trans rfl⟩, rfl, ⟨rfl, rfl, by first | rfl | exact (sy_n0 rfl).trans rfl⟩, rfl, ⟨rfl, rfl, by first | rfl | exact (sy_n0 rfl).trans rfl⟩, trivial⟩, trivial, trivial⟩⟩⟩⟩, ⟨rfl, rfl, rfl, rfl, ⟨rfl, ⟨rfl, rfl, by first | rfl | exact (sy_n0 rfl).trans rfl⟩, rfl, ⟨rfl, rfl, by first | rfl | exact (sy_n0 rfl).trans rfl⟩, rfl, ⟨rfl, rfl, by first | rfl | exact (sy_n0 rfl).trans rfl⟩, rfl, ⟨rfl, rfl, by first | rfl | exact (sy_n0 rfl).trans rfl⟩, rfl, ⟨rfl, rfl, by first | rfl | exact (sy_n0 rfl).trans rfl⟩, rfl, ⟨rfl, rfl, by first | rfl | exact (sy_n0 rfl).trans rfl⟩, rfl, ⟨rfl, rfl, by first | rfl | exact (sy_n0 rfl).trans rfl⟩, trivial⟩, ⟨rfl, rfl, rfl, rfl, trivial, ⟨rfl, rfl, rfl, rfl, ⟨rfl, ⟨rfl, rfl, by first | rfl | exact (sy_n0 rfl).trans rfl⟩, rfl, ⟨rfl, rfl, by first | rfl | exact (sy_n0 rfl).trans rfl⟩, rfl, ⟨rfl, rfl, by first | rfl | exact (sy_n0 rfl).trans rfl⟩, rfl, ⟨rfl, rfl, by first | rfl | exact (sy_n0 rfl).trans rfl⟩, rfl, ⟨rfl, rfl, by first | rfl | exact (sy_n0 rfl).trans rfl⟩, rfl, ⟨rfl, rfl, by first | rfl | exact (sy_n0 rfl).trans rfl⟩, rfl, ⟨rfl, rfl, by first | rfl | exact (sy_n0 rfl).trans rfl⟩, rfl, ⟨rfl, rfl, by first | rfl | exact (sy_n0 rfl).trans rfl⟩, rfl, ⟨rfl, rfl, by first | rfl | exact (sy_n0 rfl).trans rfl⟩, rfl, ⟨rfl, rfl, by first | rfl | exact (sy_n0 rfl).trans rfl⟩, rfl, ⟨rfl, rfl, by first | rfl | exact (sy_n0 rfl).trans rfl⟩, rfl, ⟨rfl, rfl, by first | rfl | exact (sy_n0 rfl).trans rfl⟩, rfl, ⟨rfl, rfl, by first | rfl | exact (sy_n0 rfl).trans rfl⟩, trivial⟩, ⟨rfl, rfl, rfl, rfl, trivial, ⟨rfl, rfl, rfl, rfl, trivial, ⟨rfl, rfl, rfl, rfl, trivial, ⟨rfl, rfl, rfl, rfl, trivial, ⟨rfl, rfl, rfl, rfl, trivial, ⟨rfl, rfl, rfl, rfl, trivial, ⟨rfl, rfl, rfl, rfl, trivial, ⟨rfl, rfl, rfl, rfl, trivial, ⟨rfl, rfl, rfl, rfl, trivial, ⟨rfl, rfl, rfl, rfl, trivial, ⟨rfl, rfl, rfl, rfl, trivial, trivial⟩⟩⟩⟩⟩⟩⟩⟩⟩⟩⟩⟩⟩⟩, rfl, rfl, rfl⟩ hT
  have hg : sy_g (sy_ev [(n : Int), (r : Int)]) ([(0, 2, 11), (1, 0, 20)], []) := by
    refine sg_b ?_ ?_ (sg_b ?_ ?_ sg_0)
    · show (2 : Int) ≤ n; omega
    · show (n : Int) ≤ 11; omega
    · show (0 : Int) ≤ r; omega
    · show (r : Int) ≤ 20; omega
  have hord : ∀ k, k < 41 → tv c.2.2.1 10 k 0 k := fun k hk => by
    have hm : (List.range 41).all (fun j => gc_CD.any (fun e => decide (e.1 = (4, 10, 0, 0)) && e.2.2.2.2.any (fun p => decide (p = ((0, (j : Int), 0, 0), (0, (j : Int), 0, 0)))))) = true := by decide +kernel
    exact sy_me.look (v := (0, (k : Int), 0, 0)) (a := (4, 10, 0, 0)) (i := (0, (k : Int), 0, 0)) h2 (List.all_eq_true.mp hm k (List.mem_range.mpr (by omega))) (by show (0 : Nat) < 9; decide) (sy_n0 rfl) (sy_n0 rfl) (sy_n0 rfl)
  have hD : sy_me (sy_ev [(n : Int), (r : Int)]) ((gc_CD ++ (gc_TT ++ gc_TAPE)) ++ [((4, 10, 0, 0), 61, 41, none, (List.range 7).map (fun (i : Nat) => (((0, (i : Int), 0, 1), (0, (i : Int), 0, 1)) : SyV × SyV)))]) c.2 := by
    refine ((h2.const (by decide +kernel)).app (sy_b_m (m := [0]) (by exact m0 rfl) (by decide +kernel) h3)).app fun e he => ?_
    rcases List.mem_cons.mp he with rfl | he
    · exact sy_ce_row (q := 10) (m := 7) (g := fun i => (0, (i : Int), 0, 1)) (f := fun i => (0, (i : Int), 0, 1)) (h2.inst 10 61 41 (by decide +kernel)) fun i hi => by
        have e9 : sy_n (sy_ev [(n : Int), (r : Int)]) ((0, (i : Int), 0, 1) : SyV) = ((n + i : Nat) : Int) := by
          show (i : Int) + ((1 : Nat) : Int) * (n : Int) = _
          omega
        refine ⟨n + i, e9, by show (0 : Nat) < 9; decide, ?_⟩
        rw [e9]
        exact hord (n + i) (by omega)
    · cases he
  have hA := sy_T_add (A := gc_A4) hT1 hg hD (by decide +kernel) rfl ⟨rfl, rfl, rfl⟩
  obtain ⟨c1, r1, t1, e1, ch1, -⟩ := gc_4_u (Nat.zero_le _) (n : Int) (r : Int) (by omega) (by omega) (by omega) (by omega) so_0 sx_0 hA h1
  have k2 : sy_me (fun _ => 0) gc_CE c.2 := sy_lM0_ok (G := ([], [])) sg_0 h2 (by decide +kernel)
  refine ⟨c1, r1, t1, e1, k2.ko ch1 (by decide +kernel), nd_keep h5 fun a j h9 => ?_⟩
  have e64 : sy_n (sy_ev [(n : Int), (r : Int)]) ((0, 0, 0, 64) : SyV) = 64 * n := by
    show 0 + ((64 : Nat) : Int) * (n : Int) = _
    omega
  have e1 : sy_n (sy_ev [(n : Int), (r : Int)]) ((0, 0, 0, 1) : SyV) = n := by
    show 0 + ((1 : Nat) : Int) * (n : Int) = _
    omega
  have c9 : ∀ (k9 : Nat) (z : Int), sy_n (sy_ev [(n : Int), (r : Int)]) ((k9, z, 0, 0) : SyV) = z := fun k9 z => sy_n0 rfl
  refine ch1.at (a := a) (by omega) ⟨fun z => ?_, fun z => ?_, fun z => ?_, fun z => ?_, fun z => ?_, fun z => ?_, fun z => ?_, fun z => ?_, fun z => ?_, fun z => ?_, fun z => ?_, fun z => ?_, fun z => ?_, fun z => ?_, fun z => ?_, fun z => ?_, trivial⟩
  · dsimp only at z; rw [c9, c9] at z; omega
  · dsimp only at z; rw [c9, c9] at z; omega
  · dsimp only at z; rw [c9, c9] at z; omega
  · dsimp only at z; rw [c9, c9] at z; omega
  · dsimp only at z; rw [c9, c9] at z; omega
  · dsimp only at z; rw [c9, e64] at z; omega
  · dsimp only at z; rw [c9, e64] at z; omega
  · dsimp only at z; rw [c9, e64] at z; omega
  · dsimp only at z; rw [c9, e64] at z; omega
  · dsimp only at z; rw [c9, e64] at z; omega
  · dsimp only at z; rw [c9, e64] at z; omega
  · dsimp only at z; rw [c9, e1] at z; omega
  · dsimp only at z; rw [c9, e1] at z; omega
  · dsimp only at z; rw [c9, e1] at z; omega
  · dsimp only at z; rw [c9, e1] at z; omega
  · dsimp only at z; rw [c9, e1] at z; omega
/-- the program is read -/
theorem pc_all (hn : 2 ≤ n ∧ n ≤ 11) (hr : r ≤ 20) (hf : ∀ j, j < n → fa_ok (fa j)) (hT : sy_T (sy_ev [(n : Int), (r : Int)]) [] gb_TF c) (hE : sy_E0 L xs c) (hM : sy_me (fun _ => 0) ga_CMx c.2) (ht : tape_tx n fa (9 * n + 115) c.2.2.1) : ∃ c', rch c c' ∧ sy_T (sy_ev [(n : Int), (r : Int)]) [] gc_T4 c' ∧ sy_E0 L xs c' ∧ sy_me (fun _ => 0) gc_CE c'.2 ∧ nd_ok fa n c'.2.2.1 := by
  obtain ⟨c1, r1, t1, h1⟩ := pc_0 hn hr hf hT hE hM ht
  obtain ⟨c2, r2, t2, h2⟩ := pc_toks hn hr hf n 0 c1 (by omega) t1 h1
  obtain ⟨c3, r3, t3, h3⟩ := pc_t hn hr t2 h2
  obtain ⟨c4, r4, t4, h4⟩ := pc_cls hn hr hf n 0 c3 (by omega) t3 h3
  obtain ⟨c5, r5, t5, h5⟩ := pc_e hn hr t4 h4
  exact ⟨c5, r1.tr (r2.tr (r3.tr (r4.tr r5))), t5, h5⟩
end PdS
