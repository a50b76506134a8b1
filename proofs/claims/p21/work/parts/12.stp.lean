/-! WHERE THE SMALL MACHINE GOES ON: the references that it holds are of cells that are there; what has been made grows. -/
def am_Wf (S : AmS) (ls : AmL) (st : List Value) : Prop := (∀ v ∈ st, am_wf S.2.2.1 v) ∧ (∀ q ∈ ls, am_wf S.2.2.1 q.2)
def am_Mo (S S' : AmS) : Prop := S.2.2.1 ≤ S'.2.2.1 ∧ S.2.2.2.1 ≤ S'.2.2.2.1 ∧ S.2.2.2.2 ≤ S'.2.2.2.2
theorem am_Mo.rf (S : AmS) : am_Mo S S := ⟨Nat.le_refl _, Nat.le_refl _, Nat.le_refl _⟩
theorem am_Mo.tr {S S' S9 : AmS} (h : am_Mo S S') (h2 : am_Mo S' S9) : am_Mo S S9 := ⟨Nat.le_trans h.1 h2.1, Nat.le_trans h.2.1 h2.2.1, Nat.le_trans h.2.2 h2.2.2⟩
theorem am_Wf.mono {S S' : AmS} {ls : AmL} {st : List Value} (h : am_Wf S ls st) (h2 : S.2.2.1 ≤ S'.2.2.1) : am_Wf S' ls st := ⟨fun v hv => (h.1 v hv).mono h2, fun q hq => (h.2 q hq).mono h2⟩
theorem am_wp {t : Nat} {v : Value} {r : List Value} (h : ∀ z ∈ v :: r, am_wf t z) : am_wf t v ∧ ∀ z ∈ r, am_wf t z := List.forall_mem_cons.mp h
theorem am_wc {t : Nat} {v : Value} {r : List Value} (h1 : am_wf t v) (h2 : ∀ z ∈ r, am_wf t z) : ∀ z ∈ v :: r, am_wf t z := List.forall_mem_cons.mpr ⟨h1, h2⟩
theorem am_cv_wf {t b : Nat} {v w : Value} (h : am_cv b v = some w) : am_wf t w := by
  unfold am_cv at h
  split at h <;> first | (cases h; done) | (cases h; first | exact am_wf_i | exact am_wf_l | exact am_wf_d)
/-- what lies in the cells -/
def am_Cn (S : AmS) : Prop := ∀ k j, (k < S.2.2.1 ∨ am_EXT ≤ k) → am_wf S.2.2.1 (S.2.1 k j)
theorem am_Rp.cn {D : va_G} {B L : Nat} {xs : Nat → Int32} {ax : Nat → Nat} {U : State} {ad : Nat → Nat} {S : AmS} {H : Heap} (h : am_Rp D B L xs ax U ad S H) : am_Cn S := by
  intro k j hk
  rcases hk with hk | hk
  · exact h.2.2.2.2.2 k j hk
  · rw [(h.2.2.1 k hk).2.2 j]
    exact (am_M0_wf xs k j).mono (Nat.zero_le _)
section AmW
variable {n n' : Nat} {o : AmIns} {ls ls' : AmL} {st st' : List Value} {S S' : AmS} {fk : Nat → Nat → Nat}
theorem am_w0 (h : am_o0 o n ls st S = some (n', ls', st', S')) : am_Mo S S' ∧ (am_Cn S → am_Wf S ls st → am_Wf S' ls' st') := by
  unfold am_o0 at h
  split at h
  · rename_i v hv
    obtain ⟨-, h2⟩ := am_cnd h
    cases h2
    exact ⟨am_Mo.rf S, fun hc hw => ⟨am_wc (hw.2 _ (am_lk_mem hv)) hw.1, hw.2⟩⟩
  · cases h
theorem am_w1 (h : am_o1 o n ls st S = some (n', ls', st', S')) : am_Mo S S' ∧ (am_Cn S → am_Wf S ls st → am_Wf S' ls' st') := by
  unfold am_o1 at h
  split at h
  · rename_i v r
    obtain ⟨-, h2⟩ := am_cnd h
    cases hB : Nat.beq v.category 1 <;> rw [hB] at h2 <;> cases h2
    · exact ⟨am_Mo.rf S, fun hc hw => ⟨(am_wp hw.1).2, List.forall_mem_cons.mpr ⟨(am_wp hw.1).1, fun q hq => hw.2 q (List.mem_filter.mp hq).1⟩⟩⟩
    · exact ⟨am_Mo.rf S, fun hc hw => ⟨(am_wp hw.1).2, List.forall_mem_cons.mpr ⟨(am_wp hw.1).1, fun q hq => hw.2 q (List.mem_filter.mp hq).1⟩⟩⟩
  · cases h
theorem am_w2 (h : am_o2 o n ls st S = some (n', ls', st', S')) : am_Mo S S' ∧ (am_Cn S → am_Wf S ls st → am_Wf S' ls' st') := by
  unfold am_o2 at h
  cases h
  exact ⟨am_Mo.rf S, fun hc hw => ⟨am_wc am_wf_i hw.1, hw.2⟩⟩
theorem am_w3 (h : am_o3 o n ls st S = some (n', ls', st', S')) : am_Mo S S' ∧ (am_Cn S → am_Wf S ls st → am_Wf S' ls' st') := by
  unfold am_o3 at h
  cases h
  exact ⟨am_Mo.rf S, fun hc hw => ⟨am_wc am_wf_l hw.1, hw.2⟩⟩
theorem am_w4 (h : am_o4 o n ls st S = some (n', ls', st', S')) : am_Mo S S' ∧ (am_Cn S → am_Wf S ls st → am_Wf S' ls' st') := by
  unfold am_o4 at h
  cases h
  exact ⟨am_Mo.rf S, fun hc hw => ⟨am_wc am_wf_d hw.1, hw.2⟩⟩
theorem am_w5 (h : am_o5 o n ls st S = some (n', ls', st', S')) : am_Mo S S' ∧ (am_Cn S → am_Wf S ls st → am_Wf S' ls' st') := by
  unfold am_o5 at h
  cases h
  exact ⟨am_Mo.rf S, fun hc hw => ⟨am_wc am_wf_n hw.1, hw.2⟩⟩
theorem am_w6 (h : am_o6 o n ls st S = some (n', ls', st', S')) : am_Mo S S' ∧ (am_Cn S → am_Wf S ls st → am_Wf S' ls' st') := by
  unfold am_o6 at h
  cases hc : Nat.beq o.2.2.1 1 with
  | true =>
    rw [hc] at h
    cases h
    exact ⟨am_Mo.rf S, fun hc hw => ⟨am_wc (hc _ _ (Or.inr (Nat.le_add_right _ _))) hw.1, hw.2⟩⟩
  | false =>
    rw [hc] at h
    cases h
    exact ⟨am_Mo.rf S, fun hc hw => ⟨am_wc (fun q hq => Or.inr (by have e : @Eq Nat _ q := Value.ref.inj hq; omega)) hw.1, hw.2⟩⟩
theorem am_w8 (h : am_o8 o n ls st S = some (n', ls', st', S')) : am_Mo S S' ∧ (am_Cn S → am_Wf S ls st → am_Wf S' ls' st') := by
  unfold am_o8 at h
  split at h
  · split at h
    · cases h
      exact ⟨am_Mo.rf S, fun hc hw => ⟨am_wc am_wf_i (am_wp (am_wp hw.1).2).2, hw.2⟩⟩
    · cases h
  · cases h
theorem am_w10 (h : am_o10 o n ls st S = some (n', ls', st', S')) : am_Mo S S' ∧ (am_Cn S → am_Wf S ls st → am_Wf S' ls' st') := by
  unfold am_o10 at h
  split at h
  · split at h
    · cases h
      exact ⟨am_Mo.rf S, fun hc hw => ⟨am_wc am_wf_l (am_wp (am_wp hw.1).2).2, hw.2⟩⟩
    · cases h
  · cases h
theorem am_w11 (h : am_o11 o n ls st S = some (n', ls', st', S')) : am_Mo S S' ∧ (am_Cn S → am_Wf S ls st → am_Wf S' ls' st') := by
  unfold am_o11 at h
  split at h
  · cases hB : Nat.beq o.2.2.1 0 <;> rw [hB] at h <;> cases h
    · exact ⟨am_Mo.rf S, fun hc hw => ⟨am_wc am_wf_l (am_wp (am_wp hw.1).2).2, hw.2⟩⟩
    · exact ⟨am_Mo.rf S, fun hc hw => ⟨am_wc am_wf_l (am_wp (am_wp hw.1).2).2, hw.2⟩⟩
  · cases h
theorem am_w13 (h : am_o13 o n ls st S = some (n', ls', st', S')) : am_Mo S S' ∧ (am_Cn S → am_Wf S ls st → am_Wf S' ls' st') := by
  unfold am_o13 at h
  split at h
  · cases h
    exact ⟨am_Mo.rf S, fun hc hw => ⟨am_wc am_wf_i (am_wp (am_wp hw.1).2).2, hw.2⟩⟩
  · cases h
theorem am_w14 (h : am_o14 o n ls st S = some (n', ls', st', S')) : am_Mo S S' ∧ (am_Cn S → am_Wf S ls st → am_Wf S' ls' st') := by
  unfold am_o14 at h
  split at h
  · split at h
    · rename_i w hz
      cases h
      exact ⟨am_Mo.rf S, fun hc hw => ⟨am_wc (am_cv_wf hz) (am_wp hw.1).2, hw.2⟩⟩
    · cases h
  · cases h
theorem am_w15 (h : am_o15 o n ls st S = some (n', ls', st', S')) : am_Mo S S' ∧ (am_Cn S → am_Wf S ls st → am_Wf S' ls' st') := by
  unfold am_o15 at h
  split at h
  · obtain ⟨-, h2⟩ := am_cnd h
    cases h2
    exact ⟨am_Mo.rf S, fun hc hw => ⟨am_wc am_wf_d (am_wp (am_wp hw.1).2).2, hw.2⟩⟩
  · cases h
theorem am_w16 (h : am_o16 o n ls st S = some (n', ls', st', S')) : am_Mo S S' ∧ (am_Cn S → am_Wf S ls st → am_Wf S' ls' st') := by
  unfold am_o16 at h
  split at h
  · cases h
    exact ⟨am_Mo.rf S, fun hc hw => ⟨am_wc am_wf_i (am_wp (am_wp hw.1).2).2, hw.2⟩⟩
  · cases h
theorem am_w17 (h : am_o17 o n ls st S = some (n', ls', st', S')) : am_Mo S S' ∧ (am_Cn S → am_Wf S ls st → am_Wf S' ls' st') := by
  unfold am_o17 at h
  split at h
  · cases h
    exact ⟨am_Mo.rf S, fun hc hw => ⟨hw.1, List.forall_mem_cons.mpr ⟨am_wf_i, fun q hq => hw.2 q (List.mem_filter.mp hq).1⟩⟩⟩
  · cases h
theorem am_w18 (h : am_o18 o n ls st S = some (n', ls', st', S')) : am_Mo S S' ∧ (am_Cn S → am_Wf S ls st → am_Wf S' ls' st') := by
  unfold am_o18 at h
  split at h
  · cases h
    exact ⟨am_Mo.rf S, fun hc hw => ⟨(am_wp hw.1).2, hw.2⟩⟩
  · cases h
theorem am_w19 (h : am_o19 o n ls st S = some (n', ls', st', S')) : am_Mo S S' ∧ (am_Cn S → am_Wf S ls st → am_Wf S' ls' st') := by
  unfold am_o19 at h
  split at h
  · cases h
    exact ⟨am_Mo.rf S, fun hc hw => ⟨(am_wp (am_wp hw.1).2).2, hw.2⟩⟩
  · cases h
theorem am_w20 (h : am_o20 o n ls st S = some (n', ls', st', S')) : am_Mo S S' ∧ (am_Cn S → am_Wf S ls st → am_Wf S' ls' st') := by
  unfold am_o20 at h
  split at h
  · cases h
    exact ⟨am_Mo.rf S, fun hc hw => ⟨(am_wp hw.1).2, hw.2⟩⟩
  · cases h
    exact ⟨am_Mo.rf S, fun hc hw => ⟨(am_wp hw.1).2, hw.2⟩⟩
  · cases h
theorem am_w22 (h : am_o22 o n ls st S = some (n', ls', st', S')) : am_Mo S S' ∧ (am_Cn S → am_Wf S ls st → am_Wf S' ls' st') := by
  unfold am_o22 at h
  cases h
  exact ⟨am_Mo.rf S, fun hc hw => ⟨hw.1, hw.2⟩⟩
theorem am_w23 (h : am_o23 o n ls st S = some (n', ls', st', S')) : am_Mo S S' ∧ (am_Cn S → am_Wf S ls st → am_Wf S' ls' st') := by
  unfold am_o23 at h
  split at h
  · cases h
    exact ⟨am_Mo.rf S, fun hc hw => ⟨(am_wp hw.1).2, hw.2⟩⟩
  · cases h
theorem am_w24 (h : am_o24 o n ls st S = some (n', ls', st', S')) : am_Mo S S' ∧ (am_Cn S → am_Wf S ls st → am_Wf S' ls' st') := by
  unfold am_o24 at h
  split at h
  · rename_i k r
    obtain ⟨-, h2⟩ := am_cnd h
    cases h2
    exact ⟨am_Mo.rf S, fun hc hw => ⟨am_wc (hc _ _ ((am_wp hw.1).1 k rfl)) (am_wp hw.1).2, hw.2⟩⟩
  · cases h
theorem am_w25 (h : am_o25 o n ls st S = some (n', ls', st', S')) : am_Mo S S' ∧ (am_Cn S → am_Wf S ls st → am_Wf S' ls' st') := by
  unfold am_o25 at h
  split at h
  · obtain ⟨-, h2⟩ := am_cnd h
    cases h2
    exact ⟨⟨Nat.le_refl _, Nat.le_refl _, Nat.le_refl _⟩, fun hc hw => ⟨(am_wp (am_wp hw.1).2).2, hw.2⟩⟩
  · cases h
theorem am_w26 (h : am_o26 o n ls st S = some (n', ls', st', S')) : am_Mo S S' ∧ (am_Cn S → am_Wf S ls st → am_Wf S' ls' st') := by
  unfold am_o26 at h
  split at h
  · obtain ⟨-, h2⟩ := am_cnd h
    cases h2
    exact ⟨am_Mo.rf S, fun hc hw => ⟨am_wc (am_wp hw.1).1 hw.1, hw.2⟩⟩
  · cases h
theorem am_w27 (h : am_o27 o n ls st S = some (n', ls', st', S')) : am_Mo S S' ∧ (am_Cn S → am_Wf S ls st → am_Wf S' ls' st') := by
  unfold am_o27 at h
  split at h
  · obtain ⟨-, h2⟩ := am_cnd h
    cases h2
    exact ⟨am_Mo.rf S, fun hc hw => ⟨(am_wp hw.1).2, hw.2⟩⟩
  · cases h
theorem am_w28 (h : am_o28 o n ls st S fk = some (n', ls', st', S')) : am_Mo S S' ∧ (am_Cn S → am_Wf S ls st → am_Wf S' ls' st') := by
  unfold am_o28 at h
  obtain ⟨-, h2⟩ := am_cnd h
  cases h2
  exact ⟨⟨Nat.le_succ _, Nat.le_succ _, Nat.le_add_right _ _⟩, fun hc hw => ⟨am_wc (fun q hq => Or.inl (by have e : S.2.2.1 = q := Value.ref.inj hq; show q < S.2.2.1 + 1; omega)) fun z hz => (hw.1 z hz).mono (Nat.le_succ _), fun q hq => (hw.2 q hq).mono (Nat.le_succ _)⟩⟩
theorem am_w29 (h : am_o29 o n ls st S = some (n', ls', st', S')) : am_Mo S S' ∧ (am_Cn S → am_Wf S ls st → am_Wf S' ls' st') := by
  unfold am_o29 at h
  split at h
  · obtain ⟨-, h2⟩ := am_cnd h
    cases h2
    exact ⟨⟨Nat.le_succ _, Nat.le_succ _, Nat.le_add_right _ _⟩, fun hc hw => ⟨am_wc (fun q hq => Or.inl (by have e : S.2.2.1 = q := Value.ref.inj hq; show q < S.2.2.1 + 1; omega)) fun z hz => ((am_wp hw.1).2 z hz).mono (Nat.le_succ _), fun q hq => (hw.2 q hq).mono (Nat.le_succ _)⟩⟩
  · cases h
theorem am_w31 (h : am_o31 o n ls st S = some (n', ls', st', S')) : am_Mo S S' ∧ (am_Cn S → am_Wf S ls st → am_Wf S' ls' st') := by
  unfold am_o31 at h
  split at h
  · obtain ⟨-, h2⟩ := am_cnd h
    cases h2
    exact ⟨am_Mo.rf S, fun hc hw => ⟨am_wc am_wf_i (am_wp hw.1).2, hw.2⟩⟩
  · cases h
theorem am_w32 (h : am_o32 o n ls st S = some (n', ls', st', S')) : am_Mo S S' ∧ (am_Cn S → am_Wf S ls st → am_Wf S' ls' st') := by
  unfold am_o32 at h
  split at h
  · rename_i i k r
    obtain ⟨-, h2⟩ := am_cnd h
    cases h2
    exact ⟨am_Mo.rf S, fun hc hw => ⟨am_wc (hc _ _ ((am_wp (am_wp hw.1).2).1 k rfl)) (am_wp (am_wp hw.1).2).2, hw.2⟩⟩
  · cases h
theorem am_w33 (h : am_o33 o n ls st S = some (n', ls', st', S')) : am_Mo S S' ∧ (am_Cn S → am_Wf S ls st → am_Wf S' ls' st') := by
  unfold am_o33 at h
  split at h
  · obtain ⟨-, h2⟩ := am_cnd h
    cases h2
    exact ⟨⟨Nat.le_refl _, Nat.le_refl _, Nat.le_refl _⟩, fun hc hw => ⟨(am_wp (am_wp (am_wp hw.1).2).2).2, hw.2⟩⟩
  · cases h
theorem am_w34 (h : am_o34 o n ls st S = some (n', ls', st', S')) : am_Mo S S' ∧ (am_Cn S → am_Wf S ls st → am_Wf S' ls' st') := by
  unfold am_o34 at h
  split at h
  · obtain ⟨-, h2⟩ := am_cnd h
    cases h2
    exact ⟨am_Mo.rf S, fun hc hw => ⟨hw.1, hw.2⟩⟩
  · cases h
theorem am_w35 (h : am_o35 o n ls st S = some (n', ls', st', S')) : am_Mo S S' ∧ (am_Cn S → am_Wf S ls st → am_Wf S' ls' st') := by
  unfold am_o35 at h
  split at h
  · obtain ⟨-, h2⟩ := am_cnd h
    cases h2
    exact ⟨am_Mo.rf S, fun hc hw => ⟨(am_wp hw.1).2, hw.2⟩⟩
  · cases h
theorem am_w36 (h : am_o36 o n ls st S = some (n', ls', st', S')) : am_Mo S S' ∧ (am_Cn S → am_Wf S ls st → am_Wf S' ls' st') := by
  unfold am_o36 at h
  cases h
theorem am_w37 (h : am_o37 o n ls st S = some (n', ls', st', S')) : am_Mo S S' ∧ (am_Cn S → am_Wf S ls st → am_Wf S' ls' st') := by
  unfold am_o37 at h
  cases h
theorem am_w38 (h : am_o38 o n ls st S = some (n', ls', st', S')) : am_Mo S S' ∧ (am_Cn S → am_Wf S ls st → am_Wf S' ls' st') := by
  unfold am_o38 at h
  split at h
  · obtain ⟨-, h2⟩ := am_cnd h
    cases h2
    exact ⟨am_Mo.rf S, fun hc hw => ⟨am_wc am_wf_i (am_wp (am_wp hw.1).2).2, hw.2⟩⟩
  · obtain ⟨-, h2⟩ := am_cnd h
    cases h2
    exact ⟨am_Mo.rf S, fun hc hw => ⟨am_wc am_wf_i (am_wp (am_wp hw.1).2).2, hw.2⟩⟩
  · cases h
theorem am_w39 (h : am_o39 o n ls st S = some (n', ls', st', S')) : am_Mo S S' ∧ (am_Cn S → am_Wf S ls st → am_Wf S' ls' st') := by
  unfold am_o39 at h
  split at h
  · obtain ⟨-, h2⟩ := am_cnd h
    cases h2
    exact ⟨am_Mo.rf S, fun hc hw => ⟨am_wc (am_wp hw.1).1 (am_wc (am_wp (am_wp hw.1).2).1 hw.1), hw.2⟩⟩
  · cases h
set_option maxHeartbeats 4000000 in
theorem am_nxt_w (h : am_nxt o n ls st S fk = some (n', ls', st', S')) : am_Mo S S' ∧ (am_Cn S → am_Wf S ls st → am_Wf S' ls' st') := by
  unfold am_nxt at h
  cases hb0 : Nat.beq o.1 0 with
  | true => rw [hb0] at h; exact am_w0 (n := n) (o := o) h
  | false =>
  rw [hb0] at h
  simp only [cond_false] at h
  cases hb24 : Nat.beq o.1 24 with
  | true => rw [hb24] at h; exact am_w24 (n := n) (o := o) h
  | false =>
  rw [hb24] at h
  simp only [cond_false] at h
  cases hb2 : Nat.beq o.1 2 with
  | true => rw [hb2] at h; exact am_w2 (n := n) (o := o) h
  | false =>
  rw [hb2] at h
  simp only [cond_false] at h
  cases hb19 : Nat.beq o.1 19 with
  | true => rw [hb19] at h; exact am_w19 (n := n) (o := o) h
  | false =>
  rw [hb19] at h
  simp only [cond_false] at h
  cases hb18 : Nat.beq o.1 18 with
  | true => rw [hb18] at h; exact am_w18 (n := n) (o := o) h
  | false =>
  rw [hb18] at h
  simp only [cond_false] at h
  cases hb32 : Nat.beq o.1 32 with
  | true => rw [hb32] at h; exact am_w32 (n := n) (o := o) h
  | false =>
  rw [hb32] at h
  simp only [cond_false] at h
  cases hb25 : Nat.beq o.1 25 with
  | true => rw [hb25] at h; exact am_w25 (n := n) (o := o) h
  | false =>
  rw [hb25] at h
  simp only [cond_false] at h
  cases hb22 : Nat.beq o.1 22 with
  | true => rw [hb22] at h; exact am_w22 (n := n) (o := o) h
  | false =>
  rw [hb22] at h
  simp only [cond_false] at h
  cases hb1 : Nat.beq o.1 1 with
  | true => rw [hb1] at h; exact am_w1 (n := n) (o := o) h
  | false =>
  rw [hb1] at h
  simp only [cond_false] at h
  cases hb8 : Nat.beq o.1 8 with
  | true => rw [hb8] at h; exact am_w8 (n := n) (o := o) h
  | false =>
  rw [hb8] at h
  simp only [cond_false] at h
  cases hb33 : Nat.beq o.1 33 with
  | true => rw [hb33] at h; exact am_w33 (n := n) (o := o) h
  | false =>
  rw [hb33] at h
  simp only [cond_false] at h
  cases hb26 : Nat.beq o.1 26 with
  | true => rw [hb26] at h; exact am_w26 (n := n) (o := o) h
  | false =>
  rw [hb26] at h
  simp only [cond_false] at h
  cases hb29 : Nat.beq o.1 29 with
  | true => rw [hb29] at h; exact am_w29 (n := n) (o := o) h
  | false =>
  rw [hb29] at h
  simp only [cond_false] at h
  cases hb17 : Nat.beq o.1 17 with
  | true => rw [hb17] at h; exact am_w17 (n := n) (o := o) h
  | false =>
  rw [hb17] at h
  simp only [cond_false] at h
  cases hb3 : Nat.beq o.1 3 with
  | true => rw [hb3] at h; exact am_w3 (n := n) (o := o) h
  | false =>
  rw [hb3] at h
  simp only [cond_false] at h
  cases hb13 : Nat.beq o.1 13 with
  | true => rw [hb13] at h; exact am_w13 (n := n) (o := o) h
  | false =>
  rw [hb13] at h
  simp only [cond_false] at h
  cases hb31 : Nat.beq o.1 31 with
  | true => rw [hb31] at h; exact am_w31 (n := n) (o := o) h
  | false =>
  rw [hb31] at h
  simp only [cond_false] at h
  cases hb14 : Nat.beq o.1 14 with
  | true => rw [hb14] at h; exact am_w14 (n := n) (o := o) h
  | false =>
  rw [hb14] at h
  simp only [cond_false] at h
  cases hb6 : Nat.beq o.1 6 with
  | true => rw [hb6] at h; exact am_w6 (n := n) (o := o) h
  | false =>
  rw [hb6] at h
  simp only [cond_false] at h
  cases hb10 : Nat.beq o.1 10 with
  | true => rw [hb10] at h; exact am_w10 (n := n) (o := o) h
  | false =>
  rw [hb10] at h
  simp only [cond_false] at h
  cases hb28 : Nat.beq o.1 28 with
  | true => rw [hb28] at h; exact am_w28 (n := n) (o := o) h
  | false =>
  rw [hb28] at h
  simp only [cond_false] at h
  cases hb20 : Nat.beq o.1 20 with
  | true => rw [hb20] at h; exact am_w20 (n := n) (o := o) h
  | false =>
  rw [hb20] at h
  simp only [cond_false] at h
  cases hb23 : Nat.beq o.1 23 with
  | true => rw [hb23] at h; exact am_w23 (n := n) (o := o) h
  | false =>
  rw [hb23] at h
  simp only [cond_false] at h
  cases hb11 : Nat.beq o.1 11 with
  | true => rw [hb11] at h; exact am_w11 (n := n) (o := o) h
  | false =>
  rw [hb11] at h
  simp only [cond_false] at h
  cases hb35 : Nat.beq o.1 35 with
  | true => rw [hb35] at h; exact am_w35 (n := n) (o := o) h
  | false =>
  rw [hb35] at h
  simp only [cond_false] at h
  cases hb27 : Nat.beq o.1 27 with
  | true => rw [hb27] at h; exact am_w27 (n := n) (o := o) h
  | false =>
  rw [hb27] at h
  simp only [cond_false] at h
  cases hb4 : Nat.beq o.1 4 with
  | true => rw [hb4] at h; exact am_w4 (n := n) (o := o) h
  | false =>
  rw [hb4] at h
  simp only [cond_false] at h
  cases hb5 : Nat.beq o.1 5 with
  | true => rw [hb5] at h; exact am_w5 (n := n) (o := o) h
  | false =>
  rw [hb5] at h
  simp only [cond_false] at h
  cases hb15 : Nat.beq o.1 15 with
  | true => rw [hb15] at h; exact am_w15 (n := n) (o := o) h
  | false =>
  rw [hb15] at h
  simp only [cond_false] at h
  cases hb16 : Nat.beq o.1 16 with
  | true => rw [hb16] at h; exact am_w16 (n := n) (o := o) h
  | false =>
  rw [hb16] at h
  simp only [cond_false] at h
  cases hb34 : Nat.beq o.1 34 with
  | true => rw [hb34] at h; exact am_w34 (n := n) (o := o) h
  | false =>
  rw [hb34] at h
  simp only [cond_false] at h
  cases hb36 : Nat.beq o.1 36 with
  | true => rw [hb36] at h; exact am_w36 (n := n) (o := o) h
  | false =>
  rw [hb36] at h
  simp only [cond_false] at h
  cases hb37 : Nat.beq o.1 37 with
  | true => rw [hb37] at h; exact am_w37 (n := n) (o := o) h
  | false =>
  rw [hb37] at h
  simp only [cond_false] at h
  cases hb38 : Nat.beq o.1 38 with
  | true => rw [hb38] at h; exact am_w38 (n := n) (o := o) h
  | false =>
  rw [hb38] at h
  simp only [cond_false] at h
  cases hb39 : Nat.beq o.1 39 with
  | true => rw [hb39] at h; exact am_w39 (n := n) (o := o) h
  | false =>
  rw [hb39] at h
  simp only [cond_false] at h
  cases h
end AmW
section AmStep
variable {p : Program} {l : Launch} {e : Env} {R : Room} {s : State} {m : MethodId} {args : Array Value} {below : List Frame} {meth : Method} {c : Code} {H : Heap} {locs : List Loc} {cells slots : Nat} {Q : State → Prop}
variable {j n n' : Nat} {o : AmIns} {ls ls' : AmL} {st st' : List Value} {S S' : AmS} {lsA : Array Slot} {ad ad0 ax : Nat → Nat} {B L t0 c0 s0 : Nat} {xs : Nat → Int32} {D : va_G}
def am_LW : Nat := 163
/-- within a body: the machine, the code, the words -/
def am_Fr (p : Program) (s : State) (m : MethodId) (args : Array Value) (meth : Method) (c : Code) (j : Nat) : Prop :=
  p.tables.exec = Jvm.exec ∧ c.code = am_b j ∧ s.vm.findClass (am_own j) = some m.cls ∧ c.maxLocals = am_ml j ∧ (∀ w ∈ am_T, w.before args s = true) ∧ (meth.name = (am_y j).name ∨ j = am_LW) ∧ (am_hh j = [] ∨ c.exceptionTable.toList = tableOf (am_hh j))
theorem am_kl_get {j : Nat} {o : AmIns} : ∀ {l : List AmIns} {k i : Nat}, am_kl j k l = true → l[i]? = some o → am_kk j (k + i) o = true := by
  intro l
  induction l with
  | nil => intro k i _ h; simp at h
  | cons q l ih =>
    intro k i h hi
    obtain ⟨h1, h2⟩ := Bool.and_eq_true_iff.mp (show (am_kk j k q && am_kl j (k + 1) l) = true from h)
    cases i with
    | zero =>
      have e : q = o := by simpa using hi
      rw [← e]; exact h1
    | succ i =>
      have := ih h2 (i := i) (by simpa using hi)
      rw [show k + (i + 1) = k + 1 + i by omega]
      exact this
theorem am_kk_at {j n : Nat} {o : AmIns} (hj : j < 164) (ho : (am_P.1 j)[n]? = some o) : decode (am_b j) (am_e j n).1 = .ok ((am_e j n).2.1, (am_e j n).2.2.1) ∧ am_ko j n o (am_e j n) = true := by
  have h := am_kl_get (Bool.and_eq_true_iff.mp (am_ck j hj)).2 ho
  rw [Nat.zero_add] at h
  obtain ⟨h1, h2⟩ := Bool.and_eq_true_iff.mp h
  exact ⟨of_decide_eq_true h1, h2⟩
set_option maxRecDepth 100000 in
theorem am_no25 : (am_P.1 am_LW).all (fun o => !(Nat.beq o.1 25)) = true := by decide +kernel
set_option maxHeartbeats 8000000 in
/-- one instruction that is no call, no end -/
theorem am_stp (hF : am_Fr p s m args meth c j) (hj : j < 164) (ho : (am_P.1 j)[n]? = some o) (hE : am_E D B L xs ax s s.heap) (hI : am_I D B L xs ax s ad0 t0 c0 s0 ad S H locs cells slots) (hW : am_Wf S ls st) (hl : lv_has lsA (am_ml j) (am_lt ad ls)) (hRf : 1 ≤ R.frames) (hRl : 112 ≤ R.locals) (hRc : S'.2.2.2.1 ≤ c0 + R.cells) (hRs : S'.2.2.2.2 ≤ s0 + R.slots) (hM : am_Mo S S') (h : am_nxt o n ls st S am_fk = some (n', ls', st', S'))
    (kk : ∀ (ad' : Nat → Nat) (H' : Heap) (locs' : List Loc) (cells' slots' : Nat) (lsB : Array Slot), am_I D B L xs ax s ad0 t0 c0 s0 ad' S' H' locs' cells' slots' → lv_has lsB (am_ml j) (am_lt ad' ls') → W p l e R s m args below meth c H' locs' cells' slots' Q (F0 m (am_pc j n') lsB (st'.map (am_tr ad')))) : W p l e R s m args below meth c H locs cells slots Q (F0 m (am_pc j n) lsA (st.map (am_tr ad))) := by
  obtain ⟨hx, hb, hown, hml, hts, hmn, -⟩ := hF
  obtain ⟨hd, hk⟩ := am_kk_at hj ho
  obtain ⟨hw, hwl⟩ := hW
  show W p l e R s m args below meth c H locs cells slots Q (F0 m (am_e j n).1 lsA (st.map (am_tr ad)))
  unfold am_nxt at h
  unfold am_ko at hk
  cases hb0 : Nat.beq o.1 0 with
  | true =>
    rw [hb0] at h hk
    exact am_p0 (n := n) (o := o) hx hb hd hk hl h (fun hS lsB hB => kk ad H locs cells slots lsB (by rw [hS]; exact hI) hB)
  | false =>
  rw [hb0] at h hk
  simp only [cond_false] at h hk
  cases hb24 : Nat.beq o.1 24 with
  | true =>
    rw [hb24] at h hk
    exact am_p24 (n := n) (o := o) hx hb hd hk hown hts hE hI hw hwl hl h kk
  | false =>
  rw [hb24] at h hk
  simp only [cond_false] at h hk
  cases hb2 : Nat.beq o.1 2 with
  | true =>
    rw [hb2] at h hk
    exact am_p2 (n := n) (o := o) hx hb hd hk hown hts hE.2.2.2.2.2.2.2.1 hI.2.1 hl h (fun hS lsB hB => kk ad H locs cells slots lsB (by rw [hS]; exact hI) hB)
  | false =>
  rw [hb2] at h hk
  simp only [cond_false] at h hk
  cases hb19 : Nat.beq o.1 19 with
  | true =>
    rw [hb19] at h hk
    exact am_p19 (n := n) (o := o) hx hb hd hk hl h (fun hS lsB hB => kk ad H locs cells slots lsB (by rw [hS]; exact hI) hB)
  | false =>
  rw [hb19] at h hk
  simp only [cond_false] at h hk
  cases hb18 : Nat.beq o.1 18 with
  | true =>
    rw [hb18] at h hk
    exact am_p18 (n := n) (o := o) hx hb hd hk hl h (fun hS lsB hB => kk ad H locs cells slots lsB (by rw [hS]; exact hI) hB)
  | false =>
  rw [hb18] at h hk
  simp only [cond_false] at h hk
  cases hb32 : Nat.beq o.1 32 with
  | true =>
    rw [hb32] at h hk
    exact am_p32 (n := n) (o := o) hx hb hd hk hown hts hE hI hw hwl hl h kk
  | false =>
  rw [hb32] at h hk
  simp only [cond_false] at h hk
  cases hb25 : Nat.beq o.1 25 with
  | true =>
    rw [hb25] at h hk
    exact am_p25 (n := n) (o := o) hx hb hd hk hown hts hE hI hw hwl hl (by
        rcases hmn with q | q
        · exact q
        · exfalso
          have := List.all_eq_true.mp am_no25 o (List.mem_of_getElem? (by rw [← q]; exact ho))
          rw [hb25] at this
          cases this) h kk
  | false =>
  rw [hb25] at h hk
  simp only [cond_false] at h hk
  cases hb22 : Nat.beq o.1 22 with
  | true =>
    rw [hb22] at h hk
    exact am_p22 (n := n) (o := o) hx hb hd hk hl h (fun hS lsB hB => kk ad H locs cells slots lsB (by rw [hS]; exact hI) hB)
  | false =>
  rw [hb22] at h hk
  simp only [cond_false] at h hk
  cases hb1 : Nat.beq o.1 1 with
  | true =>
    rw [hb1] at h hk
    exact am_p1 (n := n) (o := o) hx hb hd hk rfl hl h (fun hS lsB hB => kk ad H locs cells slots lsB (by rw [hS]; exact hI) hB)
  | false =>
  rw [hb1] at h hk
  simp only [cond_false] at h hk
  cases hb8 : Nat.beq o.1 8 with
  | true =>
    rw [hb8] at h hk
    exact am_p8 (n := n) (o := o) hx hb hd hk hl h (fun hS lsB hB => kk ad H locs cells slots lsB (by rw [hS]; exact hI) hB)
  | false =>
  rw [hb8] at h hk
  simp only [cond_false] at h hk
  cases hb33 : Nat.beq o.1 33 with
  | true =>
    rw [hb33] at h hk
    exact am_p33 (n := n) (o := o) hx hb hd hk hown hts hE hI hw hwl hl h kk
  | false =>
  rw [hb33] at h hk
  simp only [cond_false] at h hk
  cases hb26 : Nat.beq o.1 26 with
  | true =>
    rw [hb26] at h hk
    exact am_p26 (n := n) (o := o) hx hb hd hk hl h (fun hS lsB hB => kk ad H locs cells slots lsB (by rw [hS]; exact hI) hB)
  | false =>
  rw [hb26] at h hk
  simp only [cond_false] at h hk
  cases hb29 : Nat.beq o.1 29 with
  | true =>
    rw [hb29] at h hk
    exact am_p29 (n := n) (o := o) hx hb hd hk hown hts hE hI hw hwl hl hRc hRs h kk
  | false =>
  rw [hb29] at h hk
  simp only [cond_false] at h hk
  cases hb17 : Nat.beq o.1 17 with
  | true =>
    rw [hb17] at h hk
    exact am_p17 (n := n) (o := o) hx hb hd hk rfl hl h (fun hS lsB hB => kk ad H locs cells slots lsB (by rw [hS]; exact hI) hB)
  | false =>
  rw [hb17] at h hk
  simp only [cond_false] at h hk
  cases hb3 : Nat.beq o.1 3 with
  | true =>
    rw [hb3] at h hk
    exact am_p3 (n := n) (o := o) hx hb hd hk hown hts hl h (fun hS lsB hB => kk ad H locs cells slots lsB (by rw [hS]; exact hI) hB)
  | false =>
  rw [hb3] at h hk
  simp only [cond_false] at h hk
  cases hb13 : Nat.beq o.1 13 with
  | true =>
    rw [hb13] at h hk
    exact am_p13 (n := n) (o := o) hx hb hd hk hl h (fun hS lsB hB => kk ad H locs cells slots lsB (by rw [hS]; exact hI) hB)
  | false =>
  rw [hb13] at h hk
  simp only [cond_false] at h hk
  cases hb31 : Nat.beq o.1 31 with
  | true =>
    rw [hb31] at h hk
    exact am_p31 (n := n) (o := o) hx hb hd hk hown hts hE hI hw hwl hl h kk
  | false =>
  rw [hb31] at h hk
  simp only [cond_false] at h hk
  cases hb14 : Nat.beq o.1 14 with
  | true =>
    rw [hb14] at h hk
    exact am_p14 (n := n) (o := o) hx hb hd hk hl h (fun hS lsB hB => kk ad H locs cells slots lsB (by rw [hS]; exact hI) hB)
  | false =>
  rw [hb14] at h hk
  simp only [cond_false] at h hk
  cases hb6 : Nat.beq o.1 6 with
  | true =>
    rw [hb6] at h hk
    exact am_p6 (n := n) (o := o) hx hb hd hk hown hts hE hI hw hwl hl h kk
  | false =>
  rw [hb6] at h hk
  simp only [cond_false] at h hk
  cases hb10 : Nat.beq o.1 10 with
  | true =>
    rw [hb10] at h hk
    exact am_p10 (n := n) (o := o) hx hb hd hk hl h (fun hS lsB hB => kk ad H locs cells slots lsB (by rw [hS]; exact hI) hB)
  | false =>
  rw [hb10] at h hk
  simp only [cond_false] at h hk
  cases hb28 : Nat.beq o.1 28 with
  | true =>
    rw [hb28] at h hk
    exact am_p28 (n := n) (o := o) hx hb hd hk hown hts hE hI hw hwl hl hRc hRs h kk
  | false =>
  rw [hb28] at h hk
  simp only [cond_false] at h hk
  cases hb20 : Nat.beq o.1 20 with
  | true =>
    rw [hb20] at h hk
    exact am_p20 (n := n) (o := o) hx hb hd hk hl h (fun hS lsB hB => kk ad H locs cells slots lsB (by rw [hS]; exact hI) hB)
  | false =>
  rw [hb20] at h hk
  simp only [cond_false] at h hk
  cases hb23 : Nat.beq o.1 23 with
  | true =>
    rw [hb23] at h hk
    exact am_p23 (n := n) (o := o) hx hb hd hk hl h (fun hS lsB hB => kk ad H locs cells slots lsB (by rw [hS]; exact hI) hB)
  | false =>
  rw [hb23] at h hk
  simp only [cond_false] at h hk
  cases hb11 : Nat.beq o.1 11 with
  | true =>
    rw [hb11] at h hk
    exact am_p11 (n := n) (o := o) hx hb hd hk hl h (fun hS lsB hB => kk ad H locs cells slots lsB (by rw [hS]; exact hI) hB)
  | false =>
  rw [hb11] at h hk
  simp only [cond_false] at h hk
  cases hb35 : Nat.beq o.1 35 with
  | true =>
    rw [hb35] at h hk
    exact am_p35 (n := n) (o := o) hx hb hd hk hown hts hE hI hw hwl hl hml hRf hRl h kk
  | false =>
  rw [hb35] at h hk
  simp only [cond_false] at h hk
  cases hb27 : Nat.beq o.1 27 with
  | true =>
    rw [hb27] at h hk
    exact am_p27 (n := n) (o := o) hx hb hd hk hl h (fun hS lsB hB => kk ad H locs cells slots lsB (by rw [hS]; exact hI) hB)
  | false =>
  rw [hb27] at h hk
  simp only [cond_false] at h hk
  cases hb4 : Nat.beq o.1 4 with
  | true =>
    rw [hb4] at h hk
    exact am_p4 (n := n) (o := o) hx hb hd hk hl h (fun hS lsB hB => kk ad H locs cells slots lsB (by rw [hS]; exact hI) hB)
  | false =>
  rw [hb4] at h hk
  simp only [cond_false] at h hk
  cases hb5 : Nat.beq o.1 5 with
  | true =>
    rw [hb5] at h hk
    exact am_p5 (n := n) (o := o) hx hb hd hk hl h (fun hS lsB hB => kk ad H locs cells slots lsB (by rw [hS]; exact hI) hB)
  | false =>
  rw [hb5] at h hk
  simp only [cond_false] at h hk
  cases hb15 : Nat.beq o.1 15 with
  | true =>
    rw [hb15] at h hk
    exact am_p15 (n := n) (o := o) hx hb hd hk hl h (fun hS lsB hB => kk ad H locs cells slots lsB (by rw [hS]; exact hI) hB)
  | false =>
  rw [hb15] at h hk
  simp only [cond_false] at h hk
  cases hb16 : Nat.beq o.1 16 with
  | true =>
    rw [hb16] at h hk
    exact am_p16 (n := n) (o := o) hx hb hd hk hl h (fun hS lsB hB => kk ad H locs cells slots lsB (by rw [hS]; exact hI) hB)
  | false =>
  rw [hb16] at h hk
  simp only [cond_false] at h hk
  cases hb34 : Nat.beq o.1 34 with
  | true =>
    rw [hb34] at h hk
    exact am_p34 (n := n) (o := o) hx hb hd hk hown hts hE hI hw hwl hl h kk
  | false =>
  rw [hb34] at h hk
  simp only [cond_false] at h hk
  cases hb36 : Nat.beq o.1 36 with
  | true =>
    rw [hb36] at h hk
    unfold am_o36 at h
    cases h
  | false =>
  rw [hb36] at h hk
  simp only [cond_false] at h hk
  cases hb37 : Nat.beq o.1 37 with
  | true =>
    rw [hb37] at h hk
    unfold am_o37 at h
    cases h
  | false =>
  rw [hb37] at h hk
  simp only [cond_false] at h hk
  cases hb38 : Nat.beq o.1 38 with
  | true =>
    rw [hb38] at h hk
    exact am_p38 (n := n) (o := o) hx hb hd hk hown hts hE hI hw hwl hl hml hRf hRl (Nat.le_trans hM.2.1 hRc) (Nat.le_trans hM.2.2 hRs) h kk
  | false =>
  rw [hb38] at h hk
  simp only [cond_false] at h hk
  cases hb39 : Nat.beq o.1 39 with
  | true =>
    rw [hb39] at h hk
    exact am_p39 (n := n) (o := o) hx hb hd hk hl h (fun hS lsB hB => kk ad H locs cells slots lsB (by rw [hS]; exact hI) hB)
  | false =>
  rw [hb39] at h hk
  simp only [cond_false] at h hk
  cases h
end AmStep
