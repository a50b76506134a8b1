/-! FROM EDGE TO EDGE. -/
section SyG
variable {pv pw : Nat → Int} {G : SyG} {M D : SyM} {S : AmS} {rest : List MsF} {c c' : MsC}
theorem sy_me.app (h1 : sy_me pv M S) (h2 : sy_me pv D S) : sy_me pv (M ++ D) S := fun e he => (List.mem_append.mp he).elim (h1 e) (h2 e)
/-- more is told -/
theorem sy_T_add {A T : SyC} (hT : sy_T pv rest T c) (hg : sy_g pv G) (hD : sy_me pv D c.2) (h : sy_lM G (A.2.1.map (sy_suE [])) (T.2.1 ++ D) = true) (hF : A.1 = T.1) (hH : A.2.2.1 = T.2.2.1 ∧ A.2.2.2.1 = T.2.2.2.1 ∧ A.2.2.2.2.1 = T.2.2.2.2.1) : sy_T pv rest A c := by
  obtain ⟨t1, t2, t3⟩ := hT
  refine ⟨by rw [hF]; exact t1, sy_lM0_ok hg (t2.app hD) h, ?_⟩
  rw [hH.1, hH.2.1, hH.2.2]
  exact t3
/-- an int within bounds on the stack is some int -/
theorem sy_T_top {j n : Nat} {ls : List (Nat × SyV)} {st : List SyV} {fr : List SyF} {H : SyH} {m : Int} (h : sy_T pv rest ((j, n, ls, (8, m, 0, 0) :: st) :: fr, H) c) : ∃ x : Int, 0 ≤ x ∧ x ≤ m ∧ sy_T pv rest ((j, n, ls, (0, x, 0, 0) :: st) :: fr, H) c := by
  obtain ⟨⟨f, q, e1, ⟨f1, f2, f3, f4⟩, hq⟩, h2⟩ := h
  obtain ⟨w, ws, e2, w1, w2⟩ := f4.cons
  obtain ⟨x, rfl, x1, x2⟩ := w1
  rw [sy_n0 rfl] at x2
  refine ⟨x.toInt, x1, x2, ⟨f, q, e1, ⟨f1, f2, f3, ?_⟩, hq⟩, h2⟩
  rw [e2]
  exact ⟨⟨x, rfl, by rw [sy_n0 rfl]⟩, w2⟩
theorem sy_T_topp {j n p : Nat} {ls : List (Nat × SyV)} {st : List SyV} {fr : List SyF} {H : SyH} {x : Int} (h : sy_T pv rest ((j, n, ls, (0, x, 0, 0) :: st) :: fr, H) c) (hp : pv p = x) : sy_T pv rest ((j, n, ls, (0, 0, p, 1) :: st) :: fr, H) c := by
  obtain ⟨⟨f, q, e1, ⟨f1, f2, f3, f4⟩, hq⟩, h2⟩ := h
  obtain ⟨w, ws, e2, w1, w2⟩ := f4.cons
  obtain ⟨y, rfl, x1⟩ := w1
  rw [sy_n0 rfl] at x1
  refine ⟨⟨f, q, e1, ⟨f1, f2, f3, ?_⟩, hq⟩, h2⟩
  rw [e2]
  refine ⟨⟨y, rfl, ?_⟩, w2⟩
  unfold sy_n
  dsimp only at x1 ⊢
  rw [hp, x1]
  simp
/-- what is told of cells in which nothing has changed still holds -/
def sy_out (G : SyG) (L : SyW) (M : SyM) : Bool := M.all (fun e => L.all (fun q => sy_df G q.1 e.1))
theorem sy_me.kept {L : SyW} (hg : sy_g pv G) (hM : sy_me pv M c.2) (hc : sy_ch pv L c c') (ho : sy_out G L M = true) : sy_me pv M c'.2 := by
  intro e he
  obtain ⟨k, g1, g2, g3, g4, g5⟩ := hM e he
  have hne : ∀ j, c'.2.2.1 k j = c.2.2.1 k j := fun j => hc.1 k j g3 fun q hq z => by
    have := sy_df_ok hg (List.all_eq_true.mp (List.all_eq_true.mp ho e he) q hq)
    exact this (z.1.trans g1.symm)
  refine ⟨k, g1, by rw [hc.2.1 k g3]; exact g2, g3.imp (fun z => Nat.lt_of_lt_of_le z hc.2.2) id, fun p hp => ?_, fun d hd j hj => ?_⟩
  · obtain ⟨i, i1, i2⟩ := g4 p hp
    exact ⟨i, i1, by rw [hne]; exact i2⟩
  · rw [hne]; exact g5 d hd j hj
theorem sy_ch.tr {L1 L2 L : SyW} {c2 : MsC} (h1 : sy_ch pv L1 c c') (h2 : sy_ch pw L2 c' c2) (i1 : ∀ a k : Nat, (∀ q ∈ L, ¬ (sy_n pv q.1 = a ∧ sy_n pv q.2.1 ≤ k ∧ (k : Int) ≤ sy_n pv q.2.2)) → ∀ q ∈ L1, ¬ (sy_n pv q.1 = a ∧ sy_n pv q.2.1 ≤ k ∧ (k : Int) ≤ sy_n pv q.2.2)) (i2 : ∀ a k : Nat, (∀ q ∈ L, ¬ (sy_n pv q.1 = a ∧ sy_n pv q.2.1 ≤ k ∧ (k : Int) ≤ sy_n pv q.2.2)) → ∀ q ∈ L2, ¬ (sy_n pw q.1 = a ∧ sy_n pw q.2.1 ≤ k ∧ (k : Int) ≤ sy_n pw q.2.2)) : sy_ch pv L c c2 := by
  refine ⟨fun a k ha hq => ?_, fun a ha => ?_, Nat.le_trans h1.2.2 h2.2.2⟩
  · rw [h2.1 a k (ha.imp (fun z => Nat.lt_of_lt_of_le z h1.2.2) id) (i2 a k hq)]
    exact h1.1 a k ha (i1 a k hq)
  · rw [h2.2.1 a (ha.imp (fun z => Nat.lt_of_lt_of_le z h1.2.2) id)]
    exact h1.2.1 a ha
/-! What is there at the start stays. -/
def sy_E0 (L : Nat) (xs : Nat → Int32) (c : MsC) : Prop := (∀ a k : Nat, am_EXT ≤ a → c.2.2.1 a k = am_M0 xs a k) ∧ (∀ a : Nat, am_EXT ≤ a → c.2.1 a = am_I0 L a) ∧ c.2.2.2.1 ≤ am_EXT
theorem sy_E0.k0 {L : Nat} {xs : Nat → Int32} (h : sy_E0 L xs c) : sy_K0 c := by
  refine ⟨h.2.2, ?_⟩
  rw [h.1 _ _ (Nat.le_add_right _ _), am_M0_z]
  unfold am_sz
  cases decide (xs 1000000 = 0)
  · exact Or.inr ⟨_, rfl⟩
  · exact Or.inl rfl
/-- an edge, with all that stays -/
theorem sy_go {X : List Nat} {O : SyO} {stops : List (Nat × Nat × Nat)} {f Ls : Nat} {L : SyW} {s : List (Nat × SyV)} {A T : SyC} {xs : Nat → Int32} {m : List Nat} (h : sx_ed G X O stops f L s A T = true) (hl : A.2.2.2.2.2 = []) (ht : T.2.2.1.1 = 0 ∧ T.2.2.2.1.1 = 0 ∧ T.2.2.2.2.1.1 = 0) (hb : sy_bC m T = true) (hp : ∀ p ∈ m, sy_pv pv s p = pw p) (hg : sy_g pv G) (hO : sy_Or pv (sy_x X c) O) (hr : rest.length ≤ sy_lim O) (hX : ∀ a ∈ X, a < c.2.2.2.1) (hA : sy_T pv rest A c) (hk : sy_E0 Ls xs c) :
    ∃ c', rch c c' ∧ sy_T pw rest T c' ∧ sy_E0 Ls xs c' ∧ sy_ch pv L c c' ∧ ∀ a ∈ X, ∀ k, c'.2.2.1 a k = c.2.2.1 a k := by
  obtain ⟨c', k1, k2, k3, k4, k5, k6⟩ := sx_ed_ok h hl ht hg hO hr hX hA hk.k0
  exact ⟨c', k1, sy_b_T hp hb k2, ⟨fun a k ha => by rw [k6 a k ha]; exact hk.1 a k ha, fun a ha => by rw [k4.2.1 a (Or.inr ha)]; exact hk.2.1 a ha, k3.1⟩, k4, k5⟩
end SyG
/-! THE TEXTS of the start are told. -/
def sy_xv (v : SyV) (w : Value) : Bool := match w with
  | .int x => Nat.beq v.1 0 && (Nat.beq v.2.2.2 0 && sy_eq v.2.1 x.toInt)
  | .ref k => Nat.beq v.1 4 && (Nat.beq v.2.2.2 0 && sy_eq v.2.1 k)
  | _ => false
def sy_xE (e : SyE) : Bool := Nat.beq e.1.2.2.2 0 && (sy_le (am_EXT + 4) e.1.2.1 && (decide (am_I0 0 e.1.2.1.toNat = (e.2.1, e.2.2.1)) && (e.2.2.2.1.isNone && e.2.2.2.2.all (fun p => Nat.beq p.1.2.2.2 0 && (sy_le 0 p.1.2.1 && sy_xv p.2 (am_M0 (fun _ => 0) e.1.2.1.toNat p.1.2.1.toNat))))))
theorem am_I0_L {L k : Nat} (h : am_EXT + 4 ≤ k) : am_I0 L k = am_I0 0 k := by
  unfold am_I0
  rw [am_beq_f (show k ≠ am_EXT by omega)]
  rfl
theorem am_M0_x {xs : Nat → Int32} {k j : Nat} (h : am_EXT + 4 ≤ k) : am_M0 xs k j = am_M0 (fun _ => 0) k j := by
  unfold am_M0
  rw [am_beq_f (show k ≠ am_EXT by omega), show Nat.blt k (am_EXT + 4) = false from by
    cases e : Nat.blt k (am_EXT + 4) with
    | true => exact absurd (am_blt e) (by omega)
    | false => rfl]
  rfl
theorem sy_xE_ok {pv : Nat → Int} {L : Nat} {xs : Nat → Int32} {c : MsC} {M : SyM} (hE : sy_E0 L xs c) (h : M.all sy_xE = true) : sy_me pv M c.2 := by
  intro e he
  obtain ⟨h1, h2⟩ := Bool.and_eq_true_iff.mp (List.all_eq_true.mp h e he)
  obtain ⟨h2, h3⟩ := Bool.and_eq_true_iff.mp h2
  obtain ⟨h3, h4⟩ := Bool.and_eq_true_iff.mp h3
  obtain ⟨h4, h5⟩ := Bool.and_eq_true_iff.mp h4
  have h2 := sy_le_t h2
  have hk : am_EXT + 4 ≤ e.1.2.1.toNat := by omega
  refine ⟨e.1.2.1.toNat, by rw [sy_n0 (am_beq h1)]; omega, ?_, Or.inr (by omega), fun p hp => ?_, fun d hd => ?_⟩
  · rw [hE.2.1 _ (by omega), am_I0_L hk]
    exact of_decide_eq_true h3
  · obtain ⟨g1, g2⟩ := Bool.and_eq_true_iff.mp (List.all_eq_true.mp h5 p hp)
    obtain ⟨g2, g3⟩ := Bool.and_eq_true_iff.mp g2
    have g2 := sy_le_t g2
    refine ⟨p.1.2.1.toNat, by rw [sy_n0 (am_beq g1)]; omega, ?_⟩
    rw [hE.1 _ _ (by omega), am_M0_x hk]
    revert g3
    generalize am_M0 (fun _ => 0) e.1.2.1.toNat p.1.2.1.toNat = w
    intro g3
    unfold sy_xv at g3
    split at g3
    · obtain ⟨k1, k2⟩ := Bool.and_eq_true_iff.mp g3
      obtain ⟨k2, k3⟩ := Bool.and_eq_true_iff.mp k2
      unfold sy_v
      rw [am_beq k1]
      exact ⟨_, rfl, by rw [sy_n0 (am_beq k2)]; exact (sy_eq_t k3).symm⟩
    · obtain ⟨k1, k2⟩ := Bool.and_eq_true_iff.mp g3
      obtain ⟨k2, k3⟩ := Bool.and_eq_true_iff.mp k2
      have k3 := sy_eq_t k3
      unfold sy_v
      rw [am_beq k1]
      refine ⟨by rw [sy_n0 (am_beq k2), k3]; exact Int.natCast_nonneg _, ?_⟩
      rw [sy_n0 (am_beq k2), k3]
      rfl
    · cases g3
  · rw [hd] at h4
    cases h4
/-! CELL, a method of the law: it answers some int. -/
theorem ms_nx1 {j n n' : Nat} {ls ls' : AmL} {st st' : List Value} {S S' : AmS} {r : List MsF} {o : AmIns} {c : MsC} (ho : (am_P.1 j)[n]? = some o) (h : Nat.blt o.1 40 = true) (hn : am_nxt o n ls st S am_fk = some (n', ls', st', S')) (hc : rch ((j, n', ls', st') :: r, S') c) : rch ((j, n, ls, st) :: r, S) c := by
  refine rch.st ?_ hc
  have hl := am_blt h
  unfold ms_step
  dsimp only
  rw [ho]
  dsimp only
  rw [am_beq_f (show o.1 ≠ 40 by omega), am_beq_f (show o.1 ≠ 41 by omega), am_beq_f (show o.1 ≠ 42 by omega)]
  simp only [cond_false]
  unfold ms_nx
  rw [hn]
theorem ms_end1 {j n : Nat} {ls : AmL} {st : List Value} {S : AmS} {r : List MsF} {F : MsF} {o : AmIns} {v : Option Value} (ho : (am_P.1 j)[n]? = some o) (h : Nat.beq o.1 41 = true) (he : am_ends o st S = some (.inl v, S)) : rch ((j, n, ls, st) :: F :: r, S) ((F.1, F.2.1, F.2.2.1, v.toList ++ F.2.2.2) :: r, S) := by
  refine rch.st ?_ (rch.rf _)
  unfold ms_step
  dsimp only
  rw [ho]
  dsimp only
  rw [am_beq h, show Nat.beq 41 40 = false from rfl, show Nat.beq 41 41 = true from rfl]
  simp only [cond_false, cond_true]
  unfold ms_end
  rw [he]
  rfl
theorem ms_cell {L : Nat} {xs : Nat → Int32} {S : AmS} (hL : L ≤ 1000) (hI : S.1 am_EXT = (71, L)) (hM : ∀ j, S.2.1 am_EXT j = .int (xs j)) (q : Int32) (hq : 0 ≤ q.toInt) (F : MsF) (r : List MsF) : ∃ w : Int32, rch ((159, 0, [(0, .ref am_EXT), (1, .int q)], []) :: F :: r, S) ((F.1, F.2.1, F.2.2.1, .int w :: F.2.2.2) :: r, S) := by
  have e2 : ∀ (n : Nat) (ls : AmL) (st : List Value), am_nxt (31, 0, 0, 0, []) n ls (.ref am_EXT :: st) S am_fk = some (n + 1, ls, .int (Int32.ofNat L) :: st, S) := fun n ls st => by
    show am_o31 (31, 0, 0, 0, []) n ls (.ref am_EXT :: st) S = _
    unfold am_o31
    dsimp only
    rw [hI]
    rfl
  have hLi : (Int32.ofNat L).toInt = L := Int32.toInt_ofNat_of_lt (by omega)
  by_cases hlt : q.toInt < L
  · refine ⟨xs q.toNatClampNeg, ?_⟩
    refine ms_nx1 (o := (0, 1, 0, 0, [])) rfl rfl rfl ?_
    refine ms_nx1 (o := (0, 0, 3, 0, [])) rfl rfl rfl ?_
    refine ms_nx1 (o := (31, 0, 0, 0, [])) rfl rfl (e2 _ _ _) ?_
    refine ms_nx1 (o := (19, 8, 3, 0, [])) (n' := 4) (ls' := [(0, .ref am_EXT), (1, .int q)]) (st' := []) (S' := S) rfl rfl ?_ ?_
    · show some (cond (am_cn 3 q (Int32.ofNat L)) 8 4, _, _, _) = _
      have hc : am_cn 3 q (Int32.ofNat L) = false := decide_eq_false fun z => by have := Int32.le_iff_toInt_le.mp z; omega
      rw [hc]; rfl
    refine ms_nx1 (o := (0, 0, 3, 0, [])) rfl rfl rfl ?_
    refine ms_nx1 (o := (0, 1, 0, 0, [])) rfl rfl rfl ?_
    refine ms_nx1 (o := (32, 0, 0, 0, [])) (n' := 7) (ls' := [(0, .ref am_EXT), (1, .int q)]) (st' := [.int (xs q.toNatClampNeg)]) (S' := S) rfl rfl ?_ ?_
    · show am_o32 (32, 0, 0, 0, []) 6 [(0, .ref am_EXT), (1, .int q)] [.int q, .ref am_EXT] S = _
      unfold am_o32
      dsimp only
      rw [hI, hM]
      have hin : am_in q L = true := by
        unfold am_in
        have n1 : ¬ q < 0 := fun z => by have := Int32.lt_iff_toInt_lt.mp z; have e0 : (0 : Int32).toInt = 0 := rfl; omega
        have n2 : q.toNatClampNeg < L := by
          have : q.toNatClampNeg = q.toInt.toNat := rfl
          omega
        rw [decide_eq_false n1, sy_blt n2]; rfl
      dsimp only
      rw [hin]
      rfl
    refine ms_nx1 (o := (22, 13, 0, 0, [])) rfl rfl rfl ?_
    exact ms_end1 (o := (41, 0, 0, 0, [])) (v := some (.int (xs q.toNatClampNeg))) rfl rfl rfl
  · refine ⟨790386105 * (q + 3), ?_⟩
    refine ms_nx1 (o := (0, 1, 0, 0, [])) rfl rfl rfl ?_
    refine ms_nx1 (o := (0, 0, 3, 0, [])) rfl rfl rfl ?_
    refine ms_nx1 (o := (31, 0, 0, 0, [])) rfl rfl (e2 _ _ _) ?_
    refine ms_nx1 (o := (19, 8, 3, 0, [])) (n' := 8) (ls' := [(0, .ref am_EXT), (1, .int q)]) (st' := []) (S' := S) rfl rfl ?_ ?_
    · show some (cond (am_cn 3 q (Int32.ofNat L)) 8 4, _, _, _) = _
      have hc : am_cn 3 q (Int32.ofNat L) = true := decide_eq_true (Int32.le_iff_toInt_le.mpr (by omega))
      rw [hc]; rfl
    refine ms_nx1 (o := (2, 0, 0, 790386105, [])) rfl rfl rfl ?_
    refine ms_nx1 (o := (0, 1, 0, 0, [])) rfl rfl rfl ?_
    refine ms_nx1 (o := (2, 0, 0, 3, [])) rfl rfl rfl ?_
    refine ms_nx1 (o := (8, 0, 0, 0, [])) rfl rfl rfl ?_
    refine ms_nx1 (o := (8, 0, 2, 0, [])) rfl rfl rfl ?_
    exact ms_end1 (o := (41, 0, 0, 0, [])) (v := some (.int (790386105 * (q + 3)))) rfl rfl rfl
/-- what is known of its calls -/
def sy_OC : SyO := [(159, [(4, 1000000, 0, 0), (0, 0, 0, 0)], (2, 0, 0, 0)), (159, [(4, 1000000, 0, 0), (8, 5, 0, 0)], (2, 0, 0, 0)), (159, [(4, 1000000, 0, 0), (0, 6, 0, 0)], (2, 0, 0, 0)), (159, [(4, 1000000, 0, 0), (0, 7, 0, 0)], (2, 0, 0, 0))]
theorem sy_OC_ok {pv : Nat → Int} {L : Nat} {xs : Nat → Int32} {c : MsC} {X : List Nat} (hL : L ≤ 1000) (hE : sy_E0 L xs c) : sy_Or pv (sy_x X c) sy_OC := by
  have key : ∀ (a : SyV) (vs : List Value), (a.1 = 0 ∧ a.2.2.2 = 0 ∧ 0 ≤ a.2.1) ∨ a.1 = 8 → sy_st pv [(4, 1000000, 0, 0), a] vs → ∃ q : Int32, vs = [.ref am_EXT, .int q] ∧ 0 ≤ q.toInt := fun a vs ha h => by
    obtain ⟨w, q, rfl, h1, h2⟩ := h.cons
    obtain ⟨w2, q2, rfl, h3, h4⟩ := h2.cons
    rw [h4.nil, (h1.ref rfl).2, sy_n0 rfl]
    rcases ha with ⟨b1, b2, b3⟩ | b1
    · obtain ⟨x, rfl, hx⟩ := h3.int b1
      rw [sy_n0 b2] at hx
      exact ⟨x, rfl, by omega⟩
    · unfold sy_v at h3
      rw [b1] at h3
      obtain ⟨x, rfl, hx, -⟩ := h3
      exact ⟨x, rfl, hx⟩
  have key2 : ∀ (a : SyV) (vs : List Value), (a.1 = 0 ∧ a.2.2.2 = 0 ∧ 0 ≤ a.2.1) ∨ a.1 = 8 → sy_st pv [(4, 1000000, 0, 0), a] vs → ∀ (S : AmS) (G : MsF) (r : List MsF), sy_K (sy_x X c) S → ∃ w : Int32, rch ((159, 0, lv_args 0 vs, []) :: G :: r, S) ((G.1, G.2.1, G.2.2.1, .int w :: G.2.2.2) :: r, S) := fun a vs ha h S G r hK => by
    obtain ⟨q, rfl, hq⟩ := key a vs ha h
    obtain ⟨k1, k2, k3, k4, k5, k6⟩ := hK
    refine ms_cell (xs := xs) hL ?_ (fun j => ?_) q hq G r
    · rw [k1 _ (Or.inr (Nat.le_refl _))]
      show c.2.1 am_EXT = _
      rw [hE.2.1 _ (Nat.le_refl _)]
      rfl
    · rw [k6 _ _ (Nat.le_refl _)]
      show c.2.2.1 am_EXT j = _
      rw [hE.1 _ _ (Nat.le_refl _)]
      rfl
  intro q hq vs hs S G r hK _
  have hv : ∀ w : Int32, sy_v pv (2, 0, 0, 0) (.int w) := fun w => ⟨w, rfl⟩
  unfold sy_OC at hq
  rcases List.mem_cons.mp hq with rfl | hq
  · obtain ⟨w, hw⟩ := key2 _ vs (Or.inl ⟨rfl, rfl, Int.le_refl _⟩) hs S G r hK
    exact ⟨_, S, hv w, ⟨fun _ _ => ⟨rfl, fun _ => rfl⟩, rfl⟩, hw⟩
  · rcases List.mem_cons.mp hq with rfl | hq
    · obtain ⟨w, hw⟩ := key2 _ vs (Or.inr rfl) hs S G r hK
      exact ⟨_, S, hv w, ⟨fun _ _ => ⟨rfl, fun _ => rfl⟩, rfl⟩, hw⟩
    · rcases List.mem_cons.mp hq with rfl | hq
      · obtain ⟨w, hw⟩ := key2 _ vs (Or.inl ⟨rfl, rfl, by decide⟩) hs S G r hK
        exact ⟨_, S, hv w, ⟨fun _ _ => ⟨rfl, fun _ => rfl⟩, rfl⟩, hw⟩
      · rcases List.mem_cons.mp hq with rfl | hq
        · obtain ⟨w, hw⟩ := key2 _ vs (Or.inl ⟨rfl, rfl, by decide⟩) hs S G r hK
          exact ⟨_, S, hv w, ⟨fun _ _ => ⟨rfl, fun _ => rfl⟩, rfl⟩, hw⟩
        · cases hq
section SgP
variable {pv pw : Nat → Int} {B : List (Nat × Int × Int)} {R : List (Nat × Nat)}
theorem sg_0 : sy_g pv ([], []) := ⟨fun _ h => (nomatch h), fun _ h => (nomatch h)⟩
theorem sg_b {p : Nat} {lo hi : Int} (h1 : lo ≤ pv p) (h2 : pv p ≤ hi) (h : sy_g pv (B, R)) : sy_g pv ((p, lo, hi) :: B, R) := ⟨fun q hq => by
  rcases List.mem_cons.mp hq with rfl | hq
  · exact ⟨h1, h2⟩
  · exact h.1 q hq, h.2⟩
theorem sg_r {p q : Nat} (h1 : pv p < pv q) (h : sy_g pv (B, R)) : sy_g pv (B, (p, q) :: R) := ⟨h.1, fun r hr => by
  rcases List.mem_cons.mp hr with rfl | hr
  · exact h1
  · exact h.2 r hr⟩
theorem sp_0 {s : List (Nat × SyV)} : ∀ p ∈ ([] : List Nat), sy_pv pv s p = pw p := fun _ h => (nomatch h)
theorem sp_c {s : List (Nat × SyV)} {p : Nat} {m : List Nat} (h : sy_pv pv s p = pw p) (t : ∀ q ∈ m, sy_pv pv s q = pw q) : ∀ q ∈ p :: m, sy_pv pv s q = pw q := fun q hq => by
  rcases List.mem_cons.mp hq with rfl | hq
  · exact h
  · exact t q hq
theorem sp_i {s : List (Nat × SyV)} {p : Nat} (h : sy_sp s p = (0, 0, p, 1)) (h2 : pv p = pw p) : sy_pv pv s p = pw p := by
  unfold sy_pv
  rw [h]
  unfold sy_n
  dsimp only
  rw [← h2]
  simp
theorem sp_k {s : List (Nat × SyV)} {p q : Nat} {c : Int} (h : sy_sp s p = (0, c, q, 0)) (h2 : c = pw p) : sy_pv pv s p = pw p := by
  unfold sy_pv
  rw [h, sy_n0 rfl]
  exact h2
theorem sp_a {s : List (Nat × SyV)} {p q f : Nat} {c : Int} (h : sy_sp s p = (0, c, q, f)) (h2 : c + (f : Int) * pv q = pw p) : sy_pv pv s p = pw p := by
  unfold sy_pv
  rw [h]
  exact h2
theorem so_0 {X : SyX} : sy_Or pv X [] := fun _ h => (nomatch h)
theorem sx_0 {P : Nat → Prop} : ∀ a ∈ ([] : List Nat), P a := fun _ h => (nomatch h)
/-- what is told of constant places is told whatever the parameters are -/
theorem sy_me.const {M : SyM} {S : AmS} (h : sy_me pv M S) (hb : M.all (sy_bE []) = true) : sy_me pw M S := sy_b_m (m := []) (fun _ h => (nomatch h)) hb h
end SgP
/-! The same description over other parameters. -/
def sq_v (pv pw : Nat → Int) (a b : SyV) : Prop := a.1 = b.1 ∧ Nat.blt a.1 9 = true ∧ sy_n pv a = sy_n pw b
def sq_ls (pv pw : Nat → Int) : List (Nat × SyV) → List (Nat × SyV) → Prop
  | [], [] => True
  | p :: l, q :: m => p.1 = q.1 ∧ sq_v pv pw p.2 q.2 ∧ sq_ls pv pw l m
  | _, _ => False
def sq_st (pv pw : Nat → Int) : List SyV → List SyV → Prop
  | [], [] => True
  | p :: l, q :: m => sq_v pv pw p q ∧ sq_st pv pw l m
  | _, _ => False
def sq_Fs (pv pw : Nat → Int) : List SyF → List SyF → Prop
  | [], [] => True
  | F :: r, D :: q => F.1 = D.1 ∧ F.2.1 = D.2.1 ∧ sq_ls pv pw F.2.2.1 D.2.2.1 ∧ sq_st pv pw F.2.2.2 D.2.2.2 ∧ sq_Fs pv pw r q
  | _, _ => False
def sq_pl (pv pw : Nat → Int) : List (SyV × SyV) → List (SyV × SyV) → Prop
  | [], [] => True
  | p :: l, q :: m => sy_n pv p.1 = sy_n pw q.1 ∧ sq_v pv pw p.2 q.2 ∧ sq_pl pv pw l m
  | _, _ => False
/-- cells without a default -/
def sq_M (pv pw : Nat → Int) : SyM → SyM → Prop
  | [], [] => True
  | e :: l, d :: m => sy_n pv e.1 = sy_n pw d.1 ∧ e.2.1 = d.2.1 ∧ e.2.2.1 = d.2.2.1 ∧ d.2.2.2.1 = none ∧ sq_pl pv pw e.2.2.2.2 d.2.2.2.2 ∧ sq_M pv pw l m
  | _, _ => False
def sq_T (pv pw : Nat → Int) (T D : SyC) : Prop := sq_Fs pv pw T.1 D.1 ∧ sq_M pv pw T.2.1 D.2.1 ∧ sy_n pv T.2.2.1 = sy_n pw D.2.2.1 ∧ sy_n pv T.2.2.2.1 = sy_n pw D.2.2.2.1 ∧ sy_n pv T.2.2.2.2.1 = sy_n pw D.2.2.2.2.1
section SqS
variable {pv pw : Nat → Int}
theorem sq_v.ok {a b : SyV} {v : Value} (h : sq_v pv pw a b) (hv : sy_v pv a v) : sy_v pw b v := sy_v_eq h.1.symm (by rw [← h.1]; exact am_blt h.2.1) h.2.2.symm hv
theorem sq_ls.lk : ∀ {l m : List (Nat × SyV)} {i : Nat} {a : SyV}, sq_ls pv pw l m → sy_lk m i = some a → ∃ b, sy_lk l i = some b ∧ sq_v pv pw b a := by
  intro l
  induction l with
  | nil =>
    intro m i a h hi
    cases m with
    | nil => cases hi
    | cons q m => exact h.elim
  | cons p l ih =>
    intro m i a h hi
    cases m with
    | nil => exact h.elim
    | cons q m =>
      obtain ⟨h1, h2, h3⟩ := h
      unfold sy_lk at hi ⊢
      rw [h1]
      cases hb : Nat.beq q.1 i with
      | true =>
        rw [hb] at hi
        have e : q.2 = a := Option.some.inj hi
        exact ⟨p.2, rfl, by rw [← e]; exact h2⟩
      | false =>
        rw [hb] at hi
        exact ih h3 hi
theorem sq_st.ok : ∀ {l m : List SyV} {st : List Value}, sq_st pv pw l m → sy_st pv l st → sy_st pw m st := by
  intro l
  induction l with
  | nil =>
    intro m st h hs
    cases m with
    | nil => rw [hs.nil]; exact trivial
    | cons q m => exact h.elim
  | cons p l ih =>
    intro m st h hs
    cases m with
    | nil => exact h.elim
    | cons q m =>
      obtain ⟨w, ws, rfl, w1, w2⟩ := hs.cons
      exact ⟨h.1.ok w1, ih h.2 w2⟩
theorem sq_Fs.ok {rest : List MsF} : ∀ {r q : List SyF} {fs : List MsF}, sq_Fs pv pw r q → sy_Fs pv rest r fs → sy_Fs pw rest q fs := by
  intro r
  induction r with
  | nil =>
    intro q fs h hs
    cases q with
    | nil => exact hs
    | cons D q => exact h.elim
  | cons F r ih =>
    intro q fs h hs
    cases q with
    | nil => exact h.elim
    | cons D q =>
      obtain ⟨h1, h2, h3, h4, h5⟩ := h
      obtain ⟨f, qq, rfl, ⟨g1, g2, g3, g4⟩, k2⟩ := hs
      refine ⟨f, qq, rfl, ⟨by rw [g1, h1], by rw [g2, h2], fun i a hi => ?_, h4.ok g4⟩, ih h5 k2⟩
      obtain ⟨b, b1, b2⟩ := h3.lk hi
      obtain ⟨w, w1, w2⟩ := g3 i b b1
      exact ⟨w, w1, b2.ok w2⟩
theorem sq_pl.ok {S : AmS} {k : Nat} : ∀ {l m : List (SyV × SyV)}, sq_pl pv pw l m → (∀ p ∈ l, ∃ i : Nat, sy_n pv p.1 = i ∧ sy_v pv p.2 (S.2.1 k i)) → ∀ p ∈ m, ∃ i : Nat, sy_n pw p.1 = i ∧ sy_v pw p.2 (S.2.1 k i) := by
  intro l
  induction l with
  | nil =>
    intro m h _ p hp
    cases m with
    | nil => cases hp
    | cons q m => exact h.elim
  | cons a l ih =>
    intro m h hl p hp
    cases m with
    | nil => cases hp
    | cons q m =>
      obtain ⟨h1, h2, h3⟩ := h
      rcases List.mem_cons.mp hp with rfl | hp
      · obtain ⟨i, i1, i2⟩ := hl a List.mem_cons_self
        exact ⟨i, by rw [← h1]; exact i1, h2.ok i2⟩
      · exact ih h3 (fun p hp => hl p (List.mem_cons_of_mem _ hp)) p hp
theorem sq_M.ok {S : AmS} : ∀ {l m : SyM}, sq_M pv pw l m → sy_me pv l S → sy_me pw m S := by
  intro l
  induction l with
  | nil =>
    intro m h _ e he
    cases m with
    | nil => cases he
    | cons q m => exact h.elim
  | cons a l ih =>
    intro m h hl e he
    cases m with
    | nil => cases he
    | cons q m =>
      obtain ⟨h1, h2, h3, h4, h5, h6⟩ := h
      rcases List.mem_cons.mp he with rfl | he
      · obtain ⟨k, g1, g2, g3, g4, g5⟩ := hl a List.mem_cons_self
        exact ⟨k, by rw [← h1]; exact g1, by rw [g2, h2, h3], g3, h5.ok g4, fun d hd => by rw [h4] at hd; cases hd⟩
      · exact ih h6 (fun e he => hl e (List.mem_cons_of_mem _ he)) e he
theorem sq_T.ok {T D : SyC} {rest : List MsF} {c : MsC} (h : sq_T pv pw T D) (hT : sy_T pv rest T c) : sy_T pw rest D c := by
  obtain ⟨h1, h2, h3, h4, h5⟩ := h
  obtain ⟨t1, t2, t3, t4, t5⟩ := hT
  exact ⟨h1.ok t1, h2.ok t2, by rw [← h3]; exact t3, by rw [← h4]; exact t4, by rw [← h5]; exact t5⟩
end SqS
