/-! RUNS KEEP THE KINDS OF CELLS (written by wip/p21/gI.py). -/
/-- what cells were made stay as they are -/
def am_Ki (S S' : AmS) : Prop := (∀ q : Nat, q < S.2.2.1 → S'.1 q = S.1 q) ∧ S.2.2.1 ≤ S'.2.2.1
theorem am_Ki.rf (S : AmS) : am_Ki S S := ⟨fun _ _ => rfl, Nat.le_refl _⟩
theorem am_Ki.tr {S S' S9 : AmS} (h : am_Ki S S') (h2 : am_Ki S' S9) : am_Ki S S9 := ⟨fun q hq => (h2.1 q (Nat.lt_of_lt_of_le hq h.2)).trans (h.1 q hq), Nat.le_trans h.2 h2.2⟩
theorem am_upI_ne {f : Nat → Nat × Nat} {k q : Nat} {v : Nat × Nat} (h : q < k) : am_upI f k v q = f q := by
  unfold am_upI
  cases e : Nat.beq q k with
  | true =>
    have := am_beq e
    omega
  | false => rfl
section KiS
variable {n n' : Nat} {o : AmIns} {ls ls' : AmL} {st st' : List Value} {S S' : AmS} {fk : Nat → Nat → Nat}
theorem am_ki0 (h : am_o0 o n ls st S = some (n', ls', st', S')) : am_Ki S S' := by
  unfold am_o0 at h
  split at h
  · rename_i v hv
    obtain ⟨-, h2⟩ := am_cnd h
    cases h2
    exact am_Ki.rf S
  · cases h
theorem am_ki1 (h : am_o1 o n ls st S = some (n', ls', st', S')) : am_Ki S S' := by
  unfold am_o1 at h
  split at h
  · rename_i v r
    obtain ⟨-, h2⟩ := am_cnd h
    cases hB : Nat.beq v.category 1 <;> rw [hB] at h2 <;> cases h2
    · exact am_Ki.rf S
    · exact am_Ki.rf S
  · cases h
theorem am_ki2 (h : am_o2 o n ls st S = some (n', ls', st', S')) : am_Ki S S' := by
  unfold am_o2 at h
  cases h
  exact am_Ki.rf S
theorem am_ki3 (h : am_o3 o n ls st S = some (n', ls', st', S')) : am_Ki S S' := by
  unfold am_o3 at h
  cases h
  exact am_Ki.rf S
theorem am_ki4 (h : am_o4 o n ls st S = some (n', ls', st', S')) : am_Ki S S' := by
  unfold am_o4 at h
  cases h
  exact am_Ki.rf S
theorem am_ki5 (h : am_o5 o n ls st S = some (n', ls', st', S')) : am_Ki S S' := by
  unfold am_o5 at h
  cases h
  exact am_Ki.rf S
theorem am_ki6 (h : am_o6 o n ls st S = some (n', ls', st', S')) : am_Ki S S' := by
  unfold am_o6 at h
  cases hc : Nat.beq o.2.2.1 1 with
  | true =>
    rw [hc] at h
    cases h
    exact am_Ki.rf S
  | false =>
    rw [hc] at h
    cases h
    exact am_Ki.rf S
theorem am_ki8 (h : am_o8 o n ls st S = some (n', ls', st', S')) : am_Ki S S' := by
  unfold am_o8 at h
  split at h
  · split at h
    · cases h
      exact am_Ki.rf S
    · cases h
  · cases h
theorem am_ki10 (h : am_o10 o n ls st S = some (n', ls', st', S')) : am_Ki S S' := by
  unfold am_o10 at h
  split at h
  · split at h
    · cases h
      exact am_Ki.rf S
    · cases h
  · cases h
theorem am_ki11 (h : am_o11 o n ls st S = some (n', ls', st', S')) : am_Ki S S' := by
  unfold am_o11 at h
  split at h
  · cases hB : Nat.beq o.2.2.1 0 <;> rw [hB] at h <;> cases h
    · exact am_Ki.rf S
    · exact am_Ki.rf S
  · cases h
theorem am_ki13 (h : am_o13 o n ls st S = some (n', ls', st', S')) : am_Ki S S' := by
  unfold am_o13 at h
  split at h
  · cases h
    exact am_Ki.rf S
  · cases h
theorem am_ki14 (h : am_o14 o n ls st S = some (n', ls', st', S')) : am_Ki S S' := by
  unfold am_o14 at h
  split at h
  · split at h
    · rename_i w hz
      cases h
      exact am_Ki.rf S
    · cases h
  · cases h
theorem am_ki15 (h : am_o15 o n ls st S = some (n', ls', st', S')) : am_Ki S S' := by
  unfold am_o15 at h
  split at h
  · obtain ⟨-, h2⟩ := am_cnd h
    cases h2
    exact am_Ki.rf S
  · cases h
theorem am_ki16 (h : am_o16 o n ls st S = some (n', ls', st', S')) : am_Ki S S' := by
  unfold am_o16 at h
  split at h
  · cases h
    exact am_Ki.rf S
  · cases h
theorem am_ki17 (h : am_o17 o n ls st S = some (n', ls', st', S')) : am_Ki S S' := by
  unfold am_o17 at h
  split at h
  · cases h
    exact am_Ki.rf S
  · cases h
theorem am_ki18 (h : am_o18 o n ls st S = some (n', ls', st', S')) : am_Ki S S' := by
  unfold am_o18 at h
  split at h
  · cases h
    exact am_Ki.rf S
  · cases h
theorem am_ki19 (h : am_o19 o n ls st S = some (n', ls', st', S')) : am_Ki S S' := by
  unfold am_o19 at h
  split at h
  · cases h
    exact am_Ki.rf S
  · cases h
theorem am_ki20 (h : am_o20 o n ls st S = some (n', ls', st', S')) : am_Ki S S' := by
  unfold am_o20 at h
  split at h
  · cases h
    exact am_Ki.rf S
  · cases h
    exact am_Ki.rf S
  · cases h
theorem am_ki22 (h : am_o22 o n ls st S = some (n', ls', st', S')) : am_Ki S S' := by
  unfold am_o22 at h
  cases h
  exact am_Ki.rf S
theorem am_ki23 (h : am_o23 o n ls st S = some (n', ls', st', S')) : am_Ki S S' := by
  unfold am_o23 at h
  split at h
  · cases h
    exact am_Ki.rf S
  · cases h
theorem am_ki24 (h : am_o24 o n ls st S = some (n', ls', st', S')) : am_Ki S S' := by
  unfold am_o24 at h
  split at h
  · rename_i k r
    obtain ⟨-, h2⟩ := am_cnd h
    cases h2
    exact am_Ki.rf S
  · cases h
theorem am_ki25 (h : am_o25 o n ls st S = some (n', ls', st', S')) : am_Ki S S' := by
  unfold am_o25 at h
  split at h
  · obtain ⟨-, h2⟩ := am_cnd h
    cases h2
    exact ⟨fun _ _ => rfl, Nat.le_refl _⟩
  · cases h
theorem am_ki26 (h : am_o26 o n ls st S = some (n', ls', st', S')) : am_Ki S S' := by
  unfold am_o26 at h
  split at h
  · obtain ⟨-, h2⟩ := am_cnd h
    cases h2
    exact am_Ki.rf S
  · cases h
theorem am_ki27 (h : am_o27 o n ls st S = some (n', ls', st', S')) : am_Ki S S' := by
  unfold am_o27 at h
  split at h
  · obtain ⟨-, h2⟩ := am_cnd h
    cases h2
    exact am_Ki.rf S
  · cases h
theorem am_ki28 (h : am_o28 o n ls st S fk = some (n', ls', st', S')) : am_Ki S S' := by
  unfold am_o28 at h
  obtain ⟨-, h2⟩ := am_cnd h
  cases h2
  exact ⟨fun _ hq => am_upI_ne hq, Nat.le_succ _⟩
theorem am_ki29 (h : am_o29 o n ls st S = some (n', ls', st', S')) : am_Ki S S' := by
  unfold am_o29 at h
  split at h
  · obtain ⟨-, h2⟩ := am_cnd h
    cases h2
    exact ⟨fun _ hq => am_upI_ne hq, Nat.le_succ _⟩
  · cases h
theorem am_ki31 (h : am_o31 o n ls st S = some (n', ls', st', S')) : am_Ki S S' := by
  unfold am_o31 at h
  split at h
  · obtain ⟨-, h2⟩ := am_cnd h
    cases h2
    exact am_Ki.rf S
  · cases h
theorem am_ki32 (h : am_o32 o n ls st S = some (n', ls', st', S')) : am_Ki S S' := by
  unfold am_o32 at h
  split at h
  · rename_i i k r
    obtain ⟨-, h2⟩ := am_cnd h
    cases h2
    exact am_Ki.rf S
  · cases h
theorem am_ki33 (h : am_o33 o n ls st S = some (n', ls', st', S')) : am_Ki S S' := by
  unfold am_o33 at h
  split at h
  · obtain ⟨-, h2⟩ := am_cnd h
    cases h2
    exact ⟨fun _ _ => rfl, Nat.le_refl _⟩
  · cases h
theorem am_ki34 (h : am_o34 o n ls st S = some (n', ls', st', S')) : am_Ki S S' := by
  unfold am_o34 at h
  split at h
  · obtain ⟨-, h2⟩ := am_cnd h
    cases h2
    exact am_Ki.rf S
  · cases h
theorem am_ki35 (h : am_o35 o n ls st S = some (n', ls', st', S')) : am_Ki S S' := by
  unfold am_o35 at h
  split at h
  · obtain ⟨-, h2⟩ := am_cnd h
    cases h2
    exact am_Ki.rf S
  · cases h
theorem am_ki36 (h : am_o36 o n ls st S = some (n', ls', st', S')) : am_Ki S S' := by
  unfold am_o36 at h
  cases h
theorem am_ki37 (h : am_o37 o n ls st S = some (n', ls', st', S')) : am_Ki S S' := by
  unfold am_o37 at h
  cases h
theorem am_ki38 (h : am_o38 o n ls st S = some (n', ls', st', S')) : am_Ki S S' := by
  unfold am_o38 at h
  split at h
  · obtain ⟨-, h2⟩ := am_cnd h
    cases h2
    exact am_Ki.rf S
  · obtain ⟨-, h2⟩ := am_cnd h
    cases h2
    exact am_Ki.rf S
  · cases h
theorem am_ki39 (h : am_o39 o n ls st S = some (n', ls', st', S')) : am_Ki S S' := by
  unfold am_o39 at h
  split at h
  · obtain ⟨-, h2⟩ := am_cnd h
    cases h2
    exact am_Ki.rf S
  · cases h
set_option maxHeartbeats 4000000 in
theorem am_nxt_k (h : am_nxt o n ls st S fk = some (n', ls', st', S')) : am_Ki S S' := by
  unfold am_nxt at h
  cases hb0 : Nat.beq o.1 0 with
  | true => rw [hb0] at h; exact am_ki0 (n := n) (o := o) (ls := ls) (st := st) h
  | false =>
  rw [hb0] at h
  simp only [cond_false] at h
  cases hb24 : Nat.beq o.1 24 with
  | true => rw [hb24] at h; exact am_ki24 (n := n) (o := o) (ls := ls) (st := st) h
  | false =>
  rw [hb24] at h
  simp only [cond_false] at h
  cases hb2 : Nat.beq o.1 2 with
  | true => rw [hb2] at h; exact am_ki2 (n := n) (o := o) (ls := ls) (st := st) h
  | false =>
  rw [hb2] at h
  simp only [cond_false] at h
  cases hb19 : Nat.beq o.1 19 with
  | true => rw [hb19] at h; exact am_ki19 (n := n) (o := o) (ls := ls) (st := st) h
  | false =>
  rw [hb19] at h
  simp only [cond_false] at h
  cases hb18 : Nat.beq o.1 18 with
  | true => rw [hb18] at h; exact am_ki18 (n := n) (o := o) (ls := ls) (st := st) h
  | false =>
  rw [hb18] at h
  simp only [cond_false] at h
  cases hb32 : Nat.beq o.1 32 with
  | true => rw [hb32] at h; exact am_ki32 (n := n) (o := o) (ls := ls) (st := st) h
  | false =>
  rw [hb32] at h
  simp only [cond_false] at h
  cases hb25 : Nat.beq o.1 25 with
  | true => rw [hb25] at h; exact am_ki25 (n := n) (o := o) (ls := ls) (st := st) h
  | false =>
  rw [hb25] at h
  simp only [cond_false] at h
  cases hb22 : Nat.beq o.1 22 with
  | true => rw [hb22] at h; exact am_ki22 (n := n) (o := o) (ls := ls) (st := st) h
  | false =>
  rw [hb22] at h
  simp only [cond_false] at h
  cases hb1 : Nat.beq o.1 1 with
  | true => rw [hb1] at h; exact am_ki1 (n := n) (o := o) (ls := ls) (st := st) h
  | false =>
  rw [hb1] at h
  simp only [cond_false] at h
  cases hb8 : Nat.beq o.1 8 with
  | true => rw [hb8] at h; exact am_ki8 (n := n) (o := o) (ls := ls) (st := st) h
  | false =>
  rw [hb8] at h
  simp only [cond_false] at h
  cases hb33 : Nat.beq o.1 33 with
  | true => rw [hb33] at h; exact am_ki33 (n := n) (o := o) (ls := ls) (st := st) h
  | false =>
  rw [hb33] at h
  simp only [cond_false] at h
  cases hb26 : Nat.beq o.1 26 with
  | true => rw [hb26] at h; exact am_ki26 (n := n) (o := o) (ls := ls) (st := st) h
  | false =>
  rw [hb26] at h
  simp only [cond_false] at h
  cases hb29 : Nat.beq o.1 29 with
  | true => rw [hb29] at h; exact am_ki29 (n := n) (o := o) (ls := ls) (st := st) h
  | false =>
  rw [hb29] at h
  simp only [cond_false] at h
  cases hb17 : Nat.beq o.1 17 with
  | true => rw [hb17] at h; exact am_ki17 (n := n) (o := o) (ls := ls) (st := st) h
  | false =>
  rw [hb17] at h
  simp only [cond_false] at h
  cases hb3 : Nat.beq o.1 3 with
  | true => rw [hb3] at h; exact am_ki3 (n := n) (o := o) (ls := ls) (st := st) h
  | false =>
  rw [hb3] at h
  simp only [cond_false] at h
  cases hb13 : Nat.beq o.1 13 with
  | true => rw [hb13] at h; exact am_ki13 (n := n) (o := o) (ls := ls) (st := st) h
  | false =>
  rw [hb13] at h
  simp only [cond_false] at h
  cases hb31 : Nat.beq o.1 31 with
  | true => rw [hb31] at h; exact am_ki31 (n := n) (o := o) (ls := ls) (st := st) h
  | false =>
  rw [hb31] at h
  simp only [cond_false] at h
  cases hb14 : Nat.beq o.1 14 with
  | true => rw [hb14] at h; exact am_ki14 (n := n) (o := o) (ls := ls) (st := st) h
  | false =>
  rw [hb14] at h
  simp only [cond_false] at h
  cases hb6 : Nat.beq o.1 6 with
  | true => rw [hb6] at h; exact am_ki6 (n := n) (o := o) (ls := ls) (st := st) h
  | false =>
  rw [hb6] at h
  simp only [cond_false] at h
  cases hb10 : Nat.beq o.1 10 with
  | true => rw [hb10] at h; exact am_ki10 (n := n) (o := o) (ls := ls) (st := st) h
  | false =>
  rw [hb10] at h
  simp only [cond_false] at h
  cases hb28 : Nat.beq o.1 28 with
  | true => rw [hb28] at h; exact am_ki28 (n := n) (o := o) (ls := ls) (st := st) h
  | false =>
  rw [hb28] at h
  simp only [cond_false] at h
  cases hb20 : Nat.beq o.1 20 with
  | true => rw [hb20] at h; exact am_ki20 (n := n) (o := o) (ls := ls) (st := st) h
  | false =>
  rw [hb20] at h
  simp only [cond_false] at h
  cases hb23 : Nat.beq o.1 23 with
  | true => rw [hb23] at h; exact am_ki23 (n := n) (o := o) (ls := ls) (st := st) h
  | false =>
  rw [hb23] at h
  simp only [cond_false] at h
  cases hb11 : Nat.beq o.1 11 with
  | true => rw [hb11] at h; exact am_ki11 (n := n) (o := o) (ls := ls) (st := st) h
  | false =>
  rw [hb11] at h
  simp only [cond_false] at h
  cases hb35 : Nat.beq o.1 35 with
  | true => rw [hb35] at h; exact am_ki35 (n := n) (o := o) (ls := ls) (st := st) h
  | false =>
  rw [hb35] at h
  simp only [cond_false] at h
  cases hb27 : Nat.beq o.1 27 with
  | true => rw [hb27] at h; exact am_ki27 (n := n) (o := o) (ls := ls) (st := st) h
  | false =>
  rw [hb27] at h
  simp only [cond_false] at h
  cases hb4 : Nat.beq o.1 4 with
  | true => rw [hb4] at h; exact am_ki4 (n := n) (o := o) (ls := ls) (st := st) h
  | false =>
  rw [hb4] at h
  simp only [cond_false] at h
  cases hb5 : Nat.beq o.1 5 with
  | true => rw [hb5] at h; exact am_ki5 (n := n) (o := o) (ls := ls) (st := st) h
  | false =>
  rw [hb5] at h
  simp only [cond_false] at h
  cases hb15 : Nat.beq o.1 15 with
  | true => rw [hb15] at h; exact am_ki15 (n := n) (o := o) (ls := ls) (st := st) h
  | false =>
  rw [hb15] at h
  simp only [cond_false] at h
  cases hb16 : Nat.beq o.1 16 with
  | true => rw [hb16] at h; exact am_ki16 (n := n) (o := o) (ls := ls) (st := st) h
  | false =>
  rw [hb16] at h
  simp only [cond_false] at h
  cases hb34 : Nat.beq o.1 34 with
  | true => rw [hb34] at h; exact am_ki34 (n := n) (o := o) (ls := ls) (st := st) h
  | false =>
  rw [hb34] at h
  simp only [cond_false] at h
  cases hb36 : Nat.beq o.1 36 with
  | true => rw [hb36] at h; exact am_ki36 (n := n) (o := o) (ls := ls) (st := st) h
  | false =>
  rw [hb36] at h
  simp only [cond_false] at h
  cases hb37 : Nat.beq o.1 37 with
  | true => rw [hb37] at h; exact am_ki37 (n := n) (o := o) (ls := ls) (st := st) h
  | false =>
  rw [hb37] at h
  simp only [cond_false] at h
  cases hb38 : Nat.beq o.1 38 with
  | true => rw [hb38] at h; exact am_ki38 (n := n) (o := o) (ls := ls) (st := st) h
  | false =>
  rw [hb38] at h
  simp only [cond_false] at h
  cases hb39 : Nat.beq o.1 39 with
  | true => rw [hb39] at h; exact am_ki39 (n := n) (o := o) (ls := ls) (st := st) h
  | false =>
  rw [hb39] at h
  simp only [cond_false] at h
  cases h
end KiS
theorem ms_step_k {c c' : MsC} (h : ms_step c = some c') : am_Ki c.2 c'.2 := by
  obtain ⟨fs, S⟩ := c
  unfold ms_step at h
  cases fs with
  | nil => cases h
  | cons F rest =>
    dsimp only at h
    cases ho : (am_P.1 F.1)[F.2.1]? with
    | none => rw [ho] at h; cases h
    | some o =>
      rw [ho] at h
      dsimp only at h
      cases h40 : Nat.beq o.1 40 with
      | true =>
        rw [h40] at h
        simp only [cond_true] at h
        unfold ms_call at h
        obtain ⟨-, h2⟩ := am_cnd h
        cases h2
        exact am_Ki.rf S
      | false =>
        rw [h40] at h
        simp only [cond_false] at h
        cases h41 : Nat.beq o.1 41 with
        | true =>
          rw [h41] at h
          simp only [cond_true] at h
          unfold ms_end at h
          split at h
          · unfold ms_ret at h
            split at h
            · cases h
            · cases h
              exact am_Ki.rf S
          · cases h
        | false =>
          rw [h41] at h
          simp only [cond_false] at h
          cases h42 : Nat.beq o.1 42 with
          | true => rw [h42] at h; cases h
          | false =>
            rw [h42] at h
            simp only [cond_false] at h
            unfold ms_nx at h
            split at h
            · rename_i hx
              cases h
              exact am_nxt_k hx
            · cases h
theorem rch_k {c c' : MsC} (h : rch c c') : am_Ki c.2 c'.2 := by
  obtain ⟨k, h⟩ := h
  induction k generalizing c with
  | zero =>
    unfold ms_it at h
    cases h
    exact am_Ki.rf _
  | succ k ih =>
    rw [ms_it_s] at h
    cases hs : ms_step c with
    | none => rw [hs] at h; cases h
    | some d =>
      rw [hs] at h
      exact (ms_step_k hs).tr (ih h)
