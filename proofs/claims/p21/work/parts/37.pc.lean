/-! PHASE C: the text is read. -/
/-- a place holds a value of a kind -/
def tv (M : Nat → Nat → Value) (a j k : Nat) (z : Int) : Prop := sy_v (fun _ => 0) (k, z, 0, 0) (M a j)
section TvS
variable {pv pw : Nat → Int} {M : Nat → Nat → Value} {S : AmS} {D : SyM} {c c' : MsC}
theorem tv.of {a : SyV} {q j : Nat} {z : Int} (h : sy_v pv a (M q j)) (hk : a.1 < 9) (hz : sy_n pv a = z) : tv M q j a.1 z := sy_v_eq (b := a) rfl hk (by rw [sy_n0 (a := (a.1, z, 0, 0)) rfl]; exact hz.symm) h
theorem tv.to {a : SyV} {q j k : Nat} {z : Int} (h : tv M q j k z) (hk : a.1 = k) (h9 : k < 9) (hz : sy_n pv a = z) : sy_v pv a (M q j) := sy_v_eq (b := (k, z, 0, 0)) hk (by rw [hk]; exact h9) (by rw [sy_n0 (a := (k, z, 0, 0)) rfl]; exact hz) h
theorem ai.tv {q j : Nat} {z : Int} (h : ai M q j z) : tv M q j 0 z := by
  obtain ⟨x, h1, h2⟩ := h
  show ∃ x : Int32, _
  exact ⟨x, h1, by rw [sy_n0 rfl]; exact h2⟩
theorem tv.eq {M' : Nat → Nat → Value} {q j k : Nat} {z : Int} (h : tv M q j k z) (he : M' q j = M q j) : tv M' q j k z := by
  unfold tv
  rw [he]
  exact h
/-- what is told of a place -/
theorem sy_me.look (hM : sy_me pv D S) {a i v : SyV} (h : D.any (fun e => decide (e.1 = a) && e.2.2.2.2.any (fun p => decide (p = (i, v)))) = true) (hk : v.1 < 9) {q j : Nat} {z : Int} (hc : sy_n pv a = q) (hj : sy_n pv i = j) (hz : sy_n pv v = z) : tv S.2.1 q j v.1 z := by
  obtain ⟨e, he, h2⟩ := List.any_eq_true.mp h
  obtain ⟨h3, h4⟩ := Bool.and_eq_true_iff.mp h2
  obtain ⟨p, hp, h5⟩ := List.any_eq_true.mp h4
  have h3 := of_decide_eq_true h3
  have h5 := of_decide_eq_true h5
  subst h5
  obtain ⟨-, -, g, -⟩ := sy_ce_at (hM e he) (k := q) (by rw [h3]; exact hc)
  obtain ⟨r, r1, r2⟩ := g _ hp
  have e1 : r = j := by dsimp only at r1; omega
  subst e1
  exact tv.of r2 hk hz
theorem sy_me.inst (hM : sy_me pv D S) (q t z : Nat) (h : D.any (fun e => decide (e.1 = (4, (q : Int), 0, 0)) && (Nat.beq e.2.1 t && Nat.beq e.2.2.1 z)) = true) : S.1 q = (t, z) ∧ (q < S.2.2.1 ∨ am_EXT ≤ q) := by
  obtain ⟨e, he, h2⟩ := List.any_eq_true.mp h
  obtain ⟨h3, h4⟩ := Bool.and_eq_true_iff.mp h2
  obtain ⟨h4, h5⟩ := Bool.and_eq_true_iff.mp h4
  have h3 := of_decide_eq_true h3
  obtain ⟨g1, g2, -, -⟩ := sy_ce_at (hM e he) (k := q) (by rw [h3]; exact sy_n0 rfl)
  rw [am_beq h4, am_beq h5] at g1
  exact ⟨g1, g2⟩
/-- a cell with a row of told places -/
theorem sy_ce_row {q t z m : Nat} {g f : Nat → SyV} (hI : S.1 q = (t, z) ∧ (q < S.2.2.1 ∨ am_EXT ≤ q)) (h : ∀ i, i < m → ∃ j : Nat, sy_n pv (g i) = j ∧ (f i).1 < 9 ∧ tv S.2.1 q j (f i).1 (sy_n pv (f i))) : sy_ce pv ((4, (q : Int), 0, 0), t, z, none, (List.range m).map (fun i => (g i, f i))) S := by
  refine sy_ce_of (k := q) (sy_n0 rfl) hI.1 hI.2 rfl fun p hp => ?_
  obtain ⟨i, hi, rfl⟩ := List.mem_map.mp hp
  obtain ⟨j, h1, h2, h3⟩ := h i (List.mem_range.mp hi)
  exact ⟨j, h1, h3.to rfl h2 rfl⟩
/-- cells that are not written stay -/
def sy_ko (L : SyW) (D : SyM) : Bool := D.all (fun e => (e.2.2.2.1.isNone && e.2.2.2.2.isEmpty) || (Nat.beq e.1.2.2.2 0 && L.all (fun w => Nat.beq w.1.2.2.2 0 && !(sy_eq w.1.2.1 e.1.2.1))))
theorem sy_me.ko {L : SyW} (hM : sy_me pw D c.2) (hc : sy_ch pv L c c') (h : sy_ko L D = true) : sy_me pw D c'.2 := by
  intro e he
  obtain ⟨q, g1, g2, g3, g4, g5⟩ := hM e he
  have g3' : q < c'.2.2.2.1 ∨ am_EXT ≤ q := g3.imp (fun z => Nat.lt_of_lt_of_le z hc.2.2) id
  have g2' := (hc.2.1 q g3).trans g2
  rcases Bool.or_eq_true_iff.mp (List.all_eq_true.mp h e he) with h1 | h1
  · obtain ⟨h1, h2⟩ := Bool.and_eq_true_iff.mp h1
    refine ⟨q, g1, g2', g3', fun p hp => ?_, fun d hd => ?_⟩
    · rw [List.isEmpty_iff.mp h2] at hp
      cases hp
    · rw [hd] at h1
      cases h1
  · obtain ⟨h1, h2⟩ := Bool.and_eq_true_iff.mp h1
    have hne : ∀ j, c'.2.2.1 q j = c.2.2.1 q j := fun j => hc.1 q j g3 fun w hw z => by
      obtain ⟨k1, k2⟩ := Bool.and_eq_true_iff.mp (List.all_eq_true.mp h2 w hw)
      have z1 := z.1
      rw [sy_n0 (am_beq k1)] at z1
      rw [sy_n0 (am_beq h1)] at g1
      cases hb : sy_eq w.1.2.1 e.1.2.1 with
      | true => rw [hb] at k2; cases k2
      | false => exact sy_eq_f hb (z1.trans g1.symm)
    exact ⟨q, g1, g2', g3', fun p hp => by
      obtain ⟨i, i1, i2⟩ := g4 p hp
      exact ⟨i, i1, by rw [hne i]; exact i2⟩, fun d hd j hj => by rw [hne j]; exact g5 d hd j hj⟩
/-- for all that is written -/
def sy_aw (P : SyV × SyV × SyV → Prop) : SyW → Prop
  | [] => True
  | q :: l => P q ∧ sy_aw P l
theorem sy_aw.mem {P : SyV × SyV × SyV → Prop} : ∀ {L : SyW}, sy_aw P L → ∀ q ∈ L, P q
  | [], _, q, hq => nomatch hq
  | a :: l, h, q, hq => by
    rcases List.mem_cons.mp hq with rfl | hq
    · exact h.1
    · exact h.2.mem q hq
/-- a place that is not written stays -/
theorem sy_ch.at {L : SyW} (hc : sy_ch pv L c c') {a j : Nat} (ha : a < c.2.2.2.1) (h : sy_aw (fun q => ¬ (sy_n pv q.1 = a ∧ sy_n pv q.2.1 ≤ j ∧ (j : Int) ≤ sy_n pv q.2.2)) L) : c'.2.2.1 a j = c.2.2.1 a j := hc.1 a j (Or.inl ha) h.mem
end TvS
/-! The tokens. -/
def tk_k (f : Int × Int × Int) (i : Nat) : Int := [5, 40, 5, 44, if f.2.2 = 88 then 3 else 5, 41, 46].getD i 0
def tk_t (f : Int × Int × Int) (i : Nat) : Int := [f.1, 40, f.2.1, 44, f.2.2, 41, 46].getD i 0
def tok_ok (fa : Fa) (k : Nat) (M : Nat → Nat → Value) : Prop := ∀ j, j < k → ∀ i, i < 7 → tv M 19 (7 * j + i) 0 (tk_k (fa j) i) ∧ tv M 21 (7 * j + i) 1 (tk_t (fa j) i)
/-- what stays while the tokens are read -/
def pc_S (L : Nat) (xs : Nat → Int32) (n : Nat) (fa : Fa) (k : Nat) (c : MsC) : Prop := sy_E0 L xs c ∧ sy_me (fun _ => 0) gc_CC c.2 ∧ sy_me (sy_ev [(n : Int)]) gc_TAPE c.2 ∧ tape_tx n fa (9 * n + 115) c.2.2.1 ∧ tok_ok fa k c.2.2.1 ∧ 54 ≤ c.2.2.2.1
section PcS
variable {L : Nat} {xs : Nat → Int32} {c c' : MsC} {n r : Nat} {fa : Fa}
theorem pc_top {pv : Nat → Int} {A : SyC} {F : List SyF} {M : SyM} (hT : sy_T pv [] A c) (hp : pv 1 = r) (h : A = (F, M, (0, 54, 1, 1), (0, 54, 1, 1), (0, 218347, 1, 5), [])) : 54 ≤ c.2.2.2.1 := by
  subst h
  have := hT.2.2.1
  have e9 : sy_n pv ((0, 54, 1, 1) : SyV) = 54 + r := by
    show 54 + ((1 : Nat) : Int) * pv 1 = _
    rw [hp]
    omega
  dsimp only at this
  omega
/-- the letter of the clause that comes next -/
theorem tx_p (hf : ∀ j, j < n → fa_ok (fa j)) {k : Nat} (hk : k ≤ n) : 112 ≤ tx n fa (9 * k) ∧ tx n fa (9 * k) ≤ 113 := by
  unfold tx
  by_cases h : 9 * k < 9 * n
  · rw [if_pos h, show 9 * k / 9 = k by omega, show 9 * k % 9 = 0 by omega]
    obtain ⟨h1, -, -⟩ := hf k (by omega)
    show 112 ≤ (fa k).1 ∧ (fa k).1 ≤ 113
    omega
  · rw [if_neg h, show 9 * k - 9 * n = 0 by omega]
    exact ⟨by decide, by decide⟩
theorem pc_0 (hn : 2 ≤ n ∧ n ≤ 11) (hr : r ≤ 20) (hf : ∀ j, j < n → fa_ok (fa j)) (hT : sy_T (sy_ev [(n : Int), (r : Int)]) [] gb_TF c) (hE : sy_E0 L xs c) (hM : sy_me (fun _ => 0) ga_CMx c.2) (ht : tape_tx n fa (9 * n + 115) c.2.2.1) : ∃ c', rch c c' ∧ sy_T (sy_ev [(n : Int), (r : Int), ((0 : Nat) : Int)]) [] gc_TK c' ∧ pc_S L xs n fa 0 c' := by
  have h54 : 54 ≤ c.2.2.2.1 := pc_top (pv := sy_ev [(n : Int), (r : Int)]) hT rfl rfl
  have hp := tx_p hf (k := 0) (by omega)
  have hT1 : sy_T (sy_ev [(n : Int), (r : Int), 0, tx n fa (9 * 0)]) [] gb_TF c := sy_b_T (m := [0, 1]) (fun p hp => by
    rcases List.mem_cons.mp hp with rfl | hp
    · rfl
    · rcases List.mem_cons.mp hp with rfl | hp
      · rfl
      · cases hp) (by decide +kernel) hT
  have hg : sy_g (sy_ev [(n : Int), (r : Int), 0, tx n fa (9 * 0)]) ([(0, 2, 11), (1, 0, 20), (3, 112, 113)], []) := by
    refine sg_b ?_ ?_ (sg_b ?_ ?_ (sg_b ?_ ?_ sg_0))
    · show (2 : Int) ≤ n; omega
    · show (n : Int) ≤ 11; omega
    · show (0 : Int) ≤ r; omega
    · show (r : Int) ≤ 20; omega
    · exact hp.1
    · exact hp.2
  have i2 := hT.2.1.inst 2 64 2000 (by decide +kernel)
  have hD : sy_me (sy_ev [(n : Int), (r : Int), 0, tx n fa (9 * 0)]) (ga_CMx ++ [((4, 2, 0, 0), 64, 2000, none, [((0, 0, 0, 0), (0, 0, 3, 1))])]) c.2 := (hM.const (by decide +kernel)).app fun e he => by
    rcases List.mem_cons.mp he with rfl | he
    · exact sy_ce_row (q := 2) (m := 1) (g := fun _ => (0, 0, 0, 0)) (f := fun _ => (0, 0, 3, 1)) i2 fun i hi => ⟨0, sy_n0 rfl, by decide, by
        have e9 : sy_n (sy_ev [(n : Int), (r : Int), 0, tx n fa (9 * 0)]) ((0, 0, 3, 1) : SyV) = tx n fa 0 := by
          show 0 + ((1 : Nat) : Int) * tx n fa 0 = _
          omega
        rw [e9]
        exact (ht 0 (by omega)).tv⟩
    · cases he
  have hA := sy_T_add (A := gc_A0) hT1 hg hD (by decide +kernel) rfl ⟨rfl, rfl, rfl⟩
  obtain ⟨c1, r1, t1, e1, ch1, -⟩ := gc_0_u (Nat.zero_le _) (n : Int) (r : Int) (tx n fa (9 * 0)) (by omega) (by omega) (by omega) (by omega) hp.1 hp.2 so_0 sx_0 hA hE
  have hT2 := sy_T_add (A := (gc_T0.1, gc_TK0, gc_T0.2.2)) (D := []) t1 (G := ([], [])) sg_0 (fun _ h => (nomatch h)) (by decide +kernel) rfl ⟨rfl, rfl, rfl⟩
  have hT3 : sy_T (sy_ev [(n : Int), (r : Int), ((0 : Nat) : Int)]) [] gc_TK c1 := sq_T.ok (T := (gc_T0.1, gc_TK0, gc_T0.2.2)) (pv := sy_ev [(n : Int), (r : Int)]) ⟨⟨rfl, rfl, ⟨rfl, ⟨rfl, rfl, by first | rfl | exact (sy_n0 rfl).trans rfl⟩, rfl, ⟨rfl, rfl, by first | rfl | exact (sy_n0 rfl).trans rfl⟩, trivial⟩, trivial, ⟨rfl, rfl, ⟨rfl, ⟨rfl, rfl, by first | rfl | exact (sy_n0 rfl).trans rfl⟩, rfl, ⟨rfl, rfl, by first | rfl | exact (sy_n0 rfl).trans rfl⟩, rfl, ⟨rfl, rfl, by first | rfl | exact (sy_n0 rfl).trans rfl⟩, rfl, ⟨rfl, rfl, by first | rfl | exact (sy_n0 rfl).trans rfl⟩, trivial⟩, trivial, ⟨rfl, rfl, ⟨rfl, ⟨rfl, rfl, by first | rfl | exact (sy_n0 rfl).trans rfl⟩, trivial⟩, trivial, ⟨rfl, rfl, ⟨rfl, ⟨rfl, rfl, by first | rfl | exact (sy_n0 rfl).trans rfl⟩, trivial⟩, trivial, ⟨rfl, rfl, ⟨rfl, ⟨rfl, rfl, by first | rfl | exact (sy_n0 rfl).trans rfl⟩, trivial⟩, ⟨⟨rfl, rfl, by first | rfl | exact (sy_n0 rfl).trans rfl⟩, trivial⟩, ⟨rfl, rfl, ⟨rfl, ⟨rfl, rfl, by first | rfl | exact (sy_n0 rfl).trans rfl⟩, rfl, ⟨rfl, rfl, by first | rfl | exact (sy_n0 rfl).trans rfl⟩, rfl, ⟨rfl, rfl, by first | rfl | exact (sy_n0 rfl).trans rfl⟩, rfl, ⟨rfl, rfl, by first | rfl | exact (sy_n0 rfl).trans rfl⟩, rfl, ⟨rfl, rfl, by first | rfl | exact (sy_n0 rfl).trans rfl⟩, trivial⟩, trivial, trivial⟩⟩⟩⟩⟩⟩, ⟨rfl, rfl, rfl, rfl, ⟨rfl, ⟨rfl, rfl, by first | rfl | exact (sy_n0 rfl).trans rfl⟩, rfl, ⟨rfl, rfl, by first | rfl | exact (sy_n0 rfl).trans rfl⟩, rfl, ⟨rfl, rfl, by first | rfl | exact (sy_n0 rfl).trans rfl⟩, rfl, ⟨rfl, rfl, by first | rfl | exact (sy_n0 rfl).trans rfl⟩, rfl, ⟨rfl, rfl, by first | rfl | exact (sy_n0 rfl).trans rfl⟩, trivial⟩, ⟨rfl, rfl, rfl, rfl, trivial, ⟨rfl, rfl, rfl, rfl, trivial, ⟨rfl, rfl, rfl, rfl, trivial, trivial⟩⟩⟩⟩, rfl, rfl, rfl⟩ hT2
  refine ⟨c1, r1, hT3, e1, ?_, ?_, fun i hi => ?_, fun j hj => absurd hj (by omega), by have := ch1.2.2; omega⟩
  · have k1 : sy_me (fun _ => 0) (ga_CMx.filter (fun e => !(sy_eq e.1.2.1 3) && !(sy_eq e.1.2.1 33) && !(sy_eq e.1.2.1 18))) c1.2 := sy_me.ko (fun e he => hM e (List.mem_filter.mp he).1) ch1 (by decide +kernel)
    have k3 : sy_me (fun _ => 0) gc_T0.2.1 c1.2 := t1.2.1.const (by decide +kernel)
    have k4 : sy_me (fun _ => 0) [((4, 2, 0, 0), 64, 2000, none, [])] c1.2 := fun e he => by
      rcases List.mem_cons.mp he with rfl | he
      · exact sy_ce_of (k := 2) (sy_n0 rfl) (by rw [ch1.2.1 2 (Or.inl (by omega))]; exact i2.1) (Or.inl (by have := ch1.2.2; omega)) rfl fun p hp9 => (nomatch hp9)
      · cases he
    exact sy_lM0_ok (G := ([], [])) sg_0 ((k1.app k3).app k4) (by decide +kernel)
  · have k0 : sy_me (sy_ev [(n : Int), (r : Int)]) gc_TAPE c.2 := fun e he => by
      rcases List.mem_cons.mp he with rfl | he
      · exact hT.2.1 _ List.mem_cons_self
      · cases he
    have k1 : sy_me (sy_ev [(n : Int)]) gc_TAPE c.2 := sy_b_m (m := [0]) (fun p hp => by
      rcases List.mem_cons.mp hp with rfl | hp
      · rfl
      · cases hp) (by decide +kernel) k0
    exact k1.ko ch1 (by decide +kernel)
  · obtain ⟨x, x1, x2⟩ := ht i hi
    refine ⟨x, ?_, x2⟩
    rw [ch1.at (a := 2) (by omega) ⟨fun z => absurd z.1 (by rw [sy_n0 rfl]; decide), fun z => absurd z.1 (by rw [sy_n0 rfl]; decide), fun z => absurd z.1 (by rw [sy_n0 rfl]; decide), trivial⟩]
    exact x1
/-- the description ahead of a fact's tokens -/
def pc_by (u : Int) (v : SyV) (i : Nat) : SyV := [(0, 0, 3, 1), (0, 40, 0, 0), (0, u, 0, 0), (0, 44, 0, 0), (0, 32, 0, 0), v, (0, 41, 0, 0), (0, 46, 0, 0), (0, 32, 0, 0), (0, 0, 4, 1)].getD i (0, 0, 0, 0)
def pc_tk (x : Int) (i : Nat) : SyV := [(0, 5, 0, 0), (0, 40, 0, 0), (0, 5, 0, 0), (0, 44, 0, 0), (0, x, 0, 0), (0, 41, 0, 0), (0, 46, 0, 0)].getD i (0, 0, 0, 0)
def pc_tt (u : Int) (v : SyV) (i : Nat) : SyV := [(1, 0, 3, 1), (1, 40, 0, 0), (1, u, 0, 0), (1, 44, 0, 0), v, (1, 41, 0, 0), (1, 46, 0, 0)].getD i (0, 0, 0, 0)
def pc_e2 (u : Int) (v : SyV) : SyE := ((4, 2, 0, 0), 64, 2000, none, (List.range 10).map (fun (i : Nat) => ((0, (i : Int), 2, 9), pc_by u v i)))
def pc_T1 (u : Int) (x : Int) (w : SyV) : SyM := [gc_TK.2.1.head!, ((4, 19, 0, 0), 61, 2001, none, (List.range 7).map (fun (i : Nat) => ((0, (i : Int) - 7, 2, 7), pc_tk x i))), ((4, 20, 0, 0), 61, 2001, none, []), ((4, 21, 0, 0), 62, 2001, none, (List.range 7).map (fun (i : Nat) => ((0, (i : Int) - 7, 2, 7), pc_tt u w i)))]
/-- a fact's tokens more -/
theorem pc_tok {k f : Nat} {A T : SyC} {u x : Int} {v w : SyV} (hn : 2 ≤ n ∧ n ≤ 11) (hr : r ≤ 20) (hf : ∀ j, j < n → fa_ok (fa j)) (hk : k < n) (hed : sx_edn gc_G1v [] [] [(5, 129, 0)] f 7 gc_WT [(2, (0, 1, 2, 1))] A T = true) (hl : A.2.2.2.2.2 = []) (ht : T.2.2 = gc_TK.2.2) (hb : sy_bC [0, 1, 2, 3, 5] T = true) (hF : A.1 = gc_TK.1) (hH : A.2.2 = gc_TK.2.2) (hlm : sy_lM gc_G1v (A.2.1.map (sy_suE [])) (gc_TK.2.1 ++ (gc_TAPE ++ [pc_e2 u v])) = true) (hT1 : T.1 = gc_TK.1) (hT2 : T.2.1 = pc_T1 u x w)
    (p2 v5 : Int) (hp2 : p2 = tx n fa (9 * (k + 1))) (hv5 : 97 ≤ v5 ∧ v5 ≤ 99) (hu : u = (fa k).2.1) (hx : x = if (fa k).2.2 = 88 then 3 else 5) (hv : v.1 = 0 ∧ sy_n (sy_ev [(n : Int), (r : Int), (k : Int), (fa k).1, p2, v5]) v = (fa k).2.2) (hw : w.1 = 1 ∧ sy_n (sy_ev [(n : Int), (r : Int), ((k + 1 : Nat) : Int), (fa k).1, p2, v5]) w = (fa k).2.2) (hT : sy_T (sy_ev [(n : Int), (r : Int), (k : Int)]) [] gc_TK c) (h : pc_S L xs n fa k c) : ∃ c', rch c c' ∧ sy_T (sy_ev [(n : Int), (r : Int), ((k + 1 : Nat) : Int)]) [] gc_TK c' ∧ pc_S L xs n fa (k + 1) c' := by
  obtain ⟨h1, h2, h3, h4, h5, h6⟩ := h
  obtain ⟨f1, f2, f3⟩ := hf k hk
  have hp := tx_p hf (k := k + 1) (by omega)
  have hg : sy_g (sy_ev [(n : Int), (r : Int), (k : Int), (fa k).1, p2, v5]) gc_G1v := by
    refine sg_b ?_ ?_ (sg_b ?_ ?_ (sg_b ?_ ?_ (sg_b ?_ ?_ (sg_b ?_ ?_ (sg_b ?_ ?_ (sg_r ?_ sg_0))))))
    · show (2 : Int) ≤ n; omega
    · show (n : Int) ≤ 11; omega
    · show (0 : Int) ≤ r; omega
    · show (r : Int) ≤ 20; omega
    · show (0 : Int) ≤ k; omega
    · show (k : Int) ≤ 10; omega
    · show (112 : Int) ≤ (fa k).1; omega
    · show (fa k).1 ≤ 113; omega
    · show (112 : Int) ≤ p2; omega
    · show p2 ≤ 113; omega
    · show (97 : Int) ≤ v5; omega
    · show v5 ≤ 99; omega
    · show (k : Int) < n; omega
  have hA0 : sy_T (sy_ev [(n : Int), (r : Int), (k : Int), (fa k).1, p2, v5]) [] gc_TK c := sy_b_T (m := [0, 1, 2]) (fun p hp => by
    rcases List.mem_cons.mp hp with rfl | hp
    · rfl
    · rcases List.mem_cons.mp hp with rfl | hp
      · rfl
      · rcases List.mem_cons.mp hp with rfl | hp
        · rfl
        · cases hp) (by decide +kernel) hT
  have hb9 : ∀ i, i < 10 → (pc_by u v i).1 = 0 ∧ sy_n (sy_ev [(n : Int), (r : Int), (k : Int), (fa k).1, p2, v5]) (pc_by u v i) = tx n fa (9 * k + i) := by
    intro i hi
    by_cases h9 : i < 9
    · have e9 : tx n fa (9 * k + i) = fa_b (fa k) i := by
        unfold tx
        rw [if_pos (by omega), show (9 * k + i) / 9 = k by omega, show (9 * k + i) % 9 = i by omega]
      rw [e9]
      match i, h9 with
      | 0, _ => exact ⟨rfl, by show 0 + ((1 : Nat) : Int) * (fa k).1 = (fa k).1; omega⟩
      | 1, _ => exact ⟨rfl, sy_n0 rfl⟩
      | 2, _ => exact ⟨rfl, (sy_n0 rfl).trans hu⟩
      | 3, _ => exact ⟨rfl, sy_n0 rfl⟩
      | 4, _ => exact ⟨rfl, sy_n0 rfl⟩
      | 5, _ => exact hv
      | 6, _ => exact ⟨rfl, sy_n0 rfl⟩
      | 7, _ => exact ⟨rfl, sy_n0 rfl⟩
      | 8, _ => exact ⟨rfl, sy_n0 rfl⟩
      | i + 9, h => exact absurd h (by omega)
    · have e9 : i = 9 := by omega
      subst e9
      refine ⟨rfl, ?_⟩
      show 0 + ((1 : Nat) : Int) * p2 = _
      rw [hp2, show 9 * k + 9 = 9 * (k + 1) by omega]
      omega
  have hD : sy_me (sy_ev [(n : Int), (r : Int), (k : Int), (fa k).1, p2, v5]) (gc_TAPE ++ [pc_e2 u v]) c.2 := (sy_b_m (m := [0]) (fun p hp => by
      rcases List.mem_cons.mp hp with rfl | hp
      · rfl
      · cases hp) (by decide +kernel) h3).app fun e he => by
    rcases List.mem_cons.mp he with rfl | he
    · exact sy_ce_row (q := 2) (m := 10) (g := fun i => (0, (i : Int), 2, 9)) (f := pc_by u v) (h2.inst 2 64 2000 (by decide +kernel)) fun i hi => ⟨9 * k + i, by
        show (i : Int) + ((9 : Nat) : Int) * (k : Int) = _
        omega, by rw [(hb9 i hi).1]; decide, by
        rw [(hb9 i hi).1, (hb9 i hi).2]
        exact (h4 (9 * k + i) (by omega)).tv⟩
    · cases he
  have hA := sy_T_add (A := A) hA0 hg hD hlm hF ⟨by rw [hH], by rw [hH], by rw [hH]⟩
  have hp5 : ∀ p ∈ [0, 1, 2, 3, 5], sy_pv (sy_ev [(n : Int), (r : Int), (k : Int), (fa k).1, p2, v5]) [(2, (0, 1, 2, 1))] p = sy_ev [(n : Int), (r : Int), ((k + 1 : Nat) : Int), (fa k).1, p2, v5] p := sp_c (sp_i rfl rfl) (sp_c (sp_i rfl rfl) (sp_c (sp_a rfl (by show 1 + ((1 : Nat) : Int) * (k : Int) = ((k + 1 : Nat) : Int); omega)) (sp_c (sp_i rfl rfl) (sp_c (sp_i rfl rfl) sp_0))))
  obtain ⟨c', r1, t1, e1, ch1, -⟩ := sy_gon hed hl (by rw [ht]; exact ⟨rfl, rfl, rfl⟩) hb hp5 hg so_0 (Nat.zero_le _) sx_0 hA h1
  have w7 : ∀ a j : Nat, a < 54 → (a = 19 → j < 7 * k) → (a = 20 → j < 7 * k) → (a = 21 → j < 7 * k) → (a = 18 → j ≠ 4) → c'.2.2.1 a j = c.2.2.1 a j := fun a j ha h19 h20 h21 h18 => by
    have e7 : sy_n (sy_ev [(n : Int), (r : Int), (k : Int), (fa k).1, p2, v5]) ((0, 0, 2, 7) : SyV) = 7 * k := by
      show 0 + ((7 : Nat) : Int) * (k : Int) = _
      omega
    have c1 : ∀ (k9 : Nat) (z : Int), sy_n (sy_ev [(n : Int), (r : Int), (k : Int), (fa k).1, p2, v5]) ((k9, z, 0, 0) : SyV) = z := fun k9 z => sy_n0 rfl
    refine ch1.at (a := a) (by omega) ⟨fun z => ?_, fun z => ?_, fun z => ?_, fun z => ?_, trivial⟩
    · dsimp only at z; rw [c1, c1] at z; omega
    · dsimp only at z; rw [c1, e7] at z; omega
    · dsimp only at z; rw [c1, e7] at z; omega
    · dsimp only at z; rw [c1, e7] at z; omega
  refine ⟨c', r1, ?_, e1, h2.ko ch1 (by decide +kernel), h3.ko ch1 (by decide +kernel), fun i hi => ?_, fun j hj i hi => ?_, by have := ch1.2.2; omega⟩
  · obtain ⟨a1, a2, a3⟩ := t1
    rw [hT1] at a1
    rw [hT2] at a2
    have t2 : sy_T (sy_ev [(n : Int), (r : Int), ((k + 1 : Nat) : Int), (fa k).1, p2, v5]) [] gc_TK c' := by
      refine ⟨a1, fun e he => ?_, by rw [← ht]; exact a3⟩
      rcases List.mem_cons.mp he with rfl | he
      · exact a2 _ List.mem_cons_self
      · have wk : ∀ (q t z : Nat), (pc_T1 u x w).any (fun e => decide (e.1 = (4, (q : Int), 0, 0)) && (Nat.beq e.2.1 t && Nat.beq e.2.2.1 z)) = true → sy_ce (sy_ev [(n : Int), (r : Int), ((k + 1 : Nat) : Int), (fa k).1, p2, v5]) ((4, (q : Int), 0, 0), t, z, none, []) c'.2 := fun q t z h9 => by
          have := a2.inst q t z h9
          exact sy_ce_of (k := q) (sy_n0 rfl) this.1 this.2 rfl fun p hp9 => (nomatch hp9)
        rcases List.mem_cons.mp he with rfl | he
        · exact wk 19 61 2001 rfl
        · rcases List.mem_cons.mp he with rfl | he
          · exact wk 20 61 2001 rfl
          · rcases List.mem_cons.mp he with rfl | he
            · exact wk 21 62 2001 rfl
            · cases he
    exact sy_b_T (m := [0, 1, 2]) (fun p hp => by
      rcases List.mem_cons.mp hp with rfl | hp
      · rfl
      · rcases List.mem_cons.mp hp with rfl | hp
        · rfl
        · rcases List.mem_cons.mp hp with rfl | hp
          · rfl
          · cases hp) (by decide +kernel) t2
  · obtain ⟨y, y1, y2⟩ := h4 i hi
    exact ⟨y, by rw [w7 2 i (by omega) (by omega) (by omega) (by omega) (by omega)]; exact y1, y2⟩
  · by_cases hlt : j < k
    · obtain ⟨b1, b2⟩ := h5 j hlt i hi
      exact ⟨b1.eq (w7 19 _ (by omega) (by omega) (by omega) (by omega) (by omega)), b2.eq (w7 21 _ (by omega) (by omega) (by omega) (by omega) (by omega))⟩
    · have e9 : j = k := by omega
      subst e9
      obtain ⟨-, a2, -⟩ := t1
      rw [hT2] at a2
      have hix : sy_n (sy_ev [(n : Int), (r : Int), ((j + 1 : Nat) : Int), (fa j).1, p2, v5]) ((0, (i : Int) - 7, 2, 7) : SyV) = ((7 * j + i : Nat) : Int) := by
        show ((i : Int) - 7) + ((7 : Nat) : Int) * ((j + 1 : Nat) : Int) = _
        omega
      have row : ∀ (q t z : Nat) (g : Nat → SyV), ((4, (q : Int), 0, 0), t, z, none, (List.range 7).map (fun (i : Nat) => (((0, (i : Int) - 7, 2, 7) : SyV), g i))) ∈ pc_T1 u x w → (g i).1 < 9 → tv c'.2.2.1 q (7 * j + i) (g i).1 (sy_n (sy_ev [(n : Int), (r : Int), ((j + 1 : Nat) : Int), (fa j).1, p2, v5]) (g i)) := fun q t z g hm h9 => by
        obtain ⟨-, -, b3, -⟩ := sy_ce_at (a2 _ hm) (k := q) (sy_n0 rfl)
        obtain ⟨y, y1, y2⟩ := b3 _ (List.mem_map.mpr ⟨i, List.mem_range.mpr hi, rfl⟩)
        have e1 : y = 7 * j + i := by
          dsimp only at y1
          rw [hix] at y1
          omega
        subst e1
        exact tv.of y2 h9 rfl
      have hk1 : (pc_tk x i).1 = 0 ∧ sy_n (sy_ev [(n : Int), (r : Int), ((j + 1 : Nat) : Int), (fa j).1, p2, v5]) (pc_tk x i) = tk_k (fa j) i := by
        match i, hi with
        | 0, _ => exact ⟨rfl, sy_n0 rfl⟩
        | 1, _ => exact ⟨rfl, sy_n0 rfl⟩
        | 2, _ => exact ⟨rfl, sy_n0 rfl⟩
        | 3, _ => exact ⟨rfl, sy_n0 rfl⟩
        | 4, _ => exact ⟨rfl, (sy_n0 rfl).trans hx⟩
        | 5, _ => exact ⟨rfl, sy_n0 rfl⟩
        | 6, _ => exact ⟨rfl, sy_n0 rfl⟩
        | i + 7, h => exact absurd h (by omega)
      have hk2 : (pc_tt u w i).1 = 1 ∧ sy_n (sy_ev [(n : Int), (r : Int), ((j + 1 : Nat) : Int), (fa j).1, p2, v5]) (pc_tt u w i) = tk_t (fa j) i := by
        match i, hi with
        | 0, _ => exact ⟨rfl, by show 0 + ((1 : Nat) : Int) * (fa j).1 = (fa j).1; omega⟩
        | 1, _ => exact ⟨rfl, sy_n0 rfl⟩
        | 2, _ => exact ⟨rfl, (sy_n0 rfl).trans hu⟩
        | 3, _ => exact ⟨rfl, sy_n0 rfl⟩
        | 4, _ => exact hw
        | 5, _ => exact ⟨rfl, sy_n0 rfl⟩
        | 6, _ => exact ⟨rfl, sy_n0 rfl⟩
        | i + 7, h => exact absurd h (by omega)
      have q1 := row 19 61 2001 (pc_tk x) (List.mem_cons_of_mem _ List.mem_cons_self) (by rw [hk1.1]; decide)
      have q2 := row 21 62 2001 (pc_tt u w) (List.mem_cons_of_mem _ (List.mem_cons_of_mem _ (List.mem_cons_of_mem _ List.mem_cons_self))) (by rw [hk2.1]; decide)
      rw [hk1.1, hk1.2] at q1
      rw [hk2.1, hk2.2] at q2
      exact ⟨q1, q2⟩
theorem pc_tok1 {k : Nat} (hn : 2 ≤ n ∧ n ≤ 11) (hr : r ≤ 20) (hf : ∀ j, j < n → fa_ok (fa j)) (hk : k < n) (hT : sy_T (sy_ev [(n : Int), (r : Int), (k : Int)]) [] gc_TK c) (h : pc_S L xs n fa k c) : ∃ c', rch c c' ∧ sy_T (sy_ev [(n : Int), (r : Int), ((k + 1 : Nat) : Int)]) [] gc_TK c' ∧ pc_S L xs n fa (k + 1) c' := by
  obtain ⟨-, f2, f3⟩ := hf k hk
  have hu : (fa k).2.1 = 97 ∨ (fa k).2.1 = 98 ∨ (fa k).2.1 = 99 := by omega
  rcases f3 with f3 | f3
  · have hx : (5 : Int) = if (fa k).2.2 = 88 then 3 else 5 := by rw [if_neg (by omega)]
    have hv : ∀ k9 : Nat, sy_n (sy_ev [(n : Int), (r : Int), (k9 : Int), (fa k).1, tx n fa (9 * (k + 1)), (fa k).2.2]) ((0, 0, 5, 1) : SyV) = (fa k).2.2 := fun k9 => by
      show 0 + ((1 : Nat) : Int) * (fa k).2.2 = _
      omega
    rcases hu with hu | hu | hu
    · exact pc_tok (v := (0, 0, 5, 1)) (w := (1, 0, 5, 1)) hn hr hf hk gc_1_970 rfl rfl (by decide +kernel) rfl rfl (by decide +kernel) rfl rfl _ (fa k).2.2 rfl f3 hu.symm hx ⟨rfl, hv k⟩ ⟨rfl, hv (k + 1)⟩ hT h
    · exact pc_tok (v := (0, 0, 5, 1)) (w := (1, 0, 5, 1)) hn hr hf hk gc_1_980 rfl rfl (by decide +kernel) rfl rfl (by decide +kernel) rfl rfl _ (fa k).2.2 rfl f3 hu.symm hx ⟨rfl, hv k⟩ ⟨rfl, hv (k + 1)⟩ hT h
    · exact pc_tok (v := (0, 0, 5, 1)) (w := (1, 0, 5, 1)) hn hr hf hk gc_1_990 rfl rfl (by decide +kernel) rfl rfl (by decide +kernel) rfl rfl _ (fa k).2.2 rfl f3 hu.symm hx ⟨rfl, hv k⟩ ⟨rfl, hv (k + 1)⟩ hT h
  · have hx : (3 : Int) = if (fa k).2.2 = 88 then 3 else 5 := by rw [if_pos f3]
    rcases hu with hu | hu | hu
    · exact pc_tok (v := (0, 88, 0, 0)) (w := (1, 88, 0, 0)) hn hr hf hk gc_1_971 rfl rfl (by decide +kernel) rfl rfl (by decide +kernel) rfl rfl _ 97 rfl (by omega) hu.symm hx ⟨rfl, (sy_n0 rfl).trans f3.symm⟩ ⟨rfl, (sy_n0 rfl).trans f3.symm⟩ hT h
    · exact pc_tok (v := (0, 88, 0, 0)) (w := (1, 88, 0, 0)) hn hr hf hk gc_1_981 rfl rfl (by decide +kernel) rfl rfl (by decide +kernel) rfl rfl _ 97 rfl (by omega) hu.symm hx ⟨rfl, (sy_n0 rfl).trans f3.symm⟩ ⟨rfl, (sy_n0 rfl).trans f3.symm⟩ hT h
    · exact pc_tok (v := (0, 88, 0, 0)) (w := (1, 88, 0, 0)) hn hr hf hk gc_1_991 rfl rfl (by decide +kernel) rfl rfl (by decide +kernel) rfl rfl _ 97 rfl (by omega) hu.symm hx ⟨rfl, (sy_n0 rfl).trans f3.symm⟩ ⟨rfl, (sy_n0 rfl).trans f3.symm⟩ hT h
theorem pc_toks (hn : 2 ≤ n ∧ n ≤ 11) (hr : r ≤ 20) (hf : ∀ j, j < n → fa_ok (fa j)) : ∀ (d k : Nat) (c : MsC), k + d = n → sy_T (sy_ev [(n : Int), (r : Int), (k : Int)]) [] gc_TK c → pc_S L xs n fa k c → ∃ c', rch c c' ∧ sy_T (sy_ev [(n : Int), (r : Int), (n : Int)]) [] gc_TK c' ∧ pc_S L xs n fa n c' := by
  intro d
  induction d with
  | zero =>
    intro k c hd hT h
    have e : k = n := by omega
    subst e
    exact ⟨c, rch.rf c, hT, h⟩
  | succ d ih =>
    intro k c hd hT h
    obtain ⟨c1, r1, t1, h1⟩ := pc_tok1 hn hr hf (k := k) (by omega) hT h
    obtain ⟨c2, r2, t2⟩ := ih (k + 1) c1 (by omega) t1 h1
    exact ⟨c2, r1.tr r2, t2⟩
end PcS
