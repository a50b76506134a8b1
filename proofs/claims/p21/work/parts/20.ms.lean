/-! THE SMALL MACHINE, STEP BY STEP: its frames one above the other; a run of steps is one of am_go. -/
abbrev MsF : Type := Nat × Nat × AmL × List Value
abbrev MsC : Type := List MsF × AmS
def ms_call (o : AmIns) (j n : Nat) (ls : AmL) (st : List Value) (rest : List MsF) (S : AmS) : Option MsC :=
  cond (Nat.blt rest.length 58 && am_okc o.2.1 (st.take o.2.2.1).reverse (st.drop o.2.2.1) S) (some ((o.2.1, 0, lv_args 0 (st.take o.2.2.1).reverse, []) :: (j, n + 1, ls, st.drop o.2.2.1) :: rest, S)) none
def ms_ret (v : Option Value) (rest : List MsF) (S : AmS) : Option MsC := match rest with
  | [] => none
  | G :: r => some ((G.1, G.2.1, G.2.2.1, v.toList ++ G.2.2.2) :: r, S)
def ms_end (o : AmIns) (st : List Value) (rest : List MsF) (S : AmS) : Option MsC := match am_ends o st S with
  | some (.inl v, _) => ms_ret v rest S
  | _ => none
def ms_nx (o : AmIns) (j n : Nat) (ls : AmL) (st : List Value) (rest : List MsF) (S : AmS) : Option MsC := match am_nxt o n ls st S am_fk with
  | some (n', ls', st', S') => some ((j, n', ls', st') :: rest, S')
  | none => none
def ms_step (c : MsC) : Option MsC := match c.1 with
  | [] => none
  | F :: rest => match (am_P.1 F.1)[F.2.1]? with
    | none => none
    | some o => cond (Nat.beq o.1 40) (ms_call o F.1 F.2.1 F.2.2.1 F.2.2.2 rest c.2)
      (cond (Nat.beq o.1 41) (ms_end o F.2.2.2 rest c.2) (cond (Nat.beq o.1 42) none (ms_nx o F.1 F.2.1 F.2.2.1 F.2.2.2 rest c.2)))
def ms_it : Nat → MsC → Option MsC
  | 0, c => some c
  | k + 1, c => match ms_step c with
    | some c' => ms_it k c'
    | none => none
def rch (c c' : MsC) : Prop := ∃ k, ms_it k c = some c'
theorem rch.rf (c : MsC) : rch c c := ⟨0, rfl⟩
theorem ms_it_s (k : Nat) (c : MsC) : ms_it (k + 1) c = (match ms_step c with
    | some c' => ms_it k c'
    | none => none) := rfl
theorem ms_it_add : ∀ (k i : Nat) (c : MsC), ms_it (k + i) c = (match ms_it k c with
    | some c' => ms_it i c'
    | none => none) := by
  intro k
  induction k with
  | zero => intro i c; rw [Nat.zero_add]; rfl
  | succ k ih =>
    intro i c
    rw [show k + 1 + i = k + i + 1 by omega, ms_it_s, ms_it_s]
    cases ms_step c with
    | none => rfl
    | some c' => exact ih i c'
theorem rch.tr {a b c : MsC} (h1 : rch a b) (h2 : rch b c) : rch a c := by
  obtain ⟨k, h1⟩ := h1
  obtain ⟨i, h2⟩ := h2
  refine ⟨k + i, ?_⟩
  rw [ms_it_add, h1]
  exact h2
theorem rch.st {a b c : MsC} (h1 : ms_step a = some b) (h2 : rch b c) : rch a c := by
  obtain ⟨i, h2⟩ := h2
  refine ⟨i + 1, ?_⟩
  unfold ms_it
  rw [h1]
  exact h2
theorem am_go_s (f d j n : Nat) (ls : AmL) (st : List Value) (S : AmS) : am_go (f + 1) d j n ls st S = (match (am_P.1 j)[n]? with
    | none => none
    | some o => cond (Nat.beq o.1 40)
      (match d with
      | 0 => none
      | d' + 1 => cond (am_okc o.2.1 (st.take o.2.2.1).reverse (st.drop o.2.2.1) S)
        (match am_go f d' o.2.1 0 (lv_args 0 (st.take o.2.2.1).reverse) [] S with
        | none => none
        | some (.inl none, S1) => am_go f d j (n + 1) ls (st.drop o.2.2.1) S1
        | some (.inl (some v), S1) => am_go f d j (n + 1) ls (v :: st.drop o.2.2.1) S1
        | some (.inr (E, a), S1) => cond (decide (o.2.2.2.1 = 0)) (match am_hd (am_P.2.1 j).2.2 n E with
          | some h => am_go f d j h ls [.ref a] S1
          | none => none) none) none)
      (cond (Nat.beq o.1 41 || Nat.beq o.1 42) (am_fin o st S)
        (match am_nxt o n ls st S am_fk with
        | some (n', ls', st', S') => am_go f d j n' ls' st' S'
        | none => none))) := by
  conv => lhs; unfold am_go
  rfl
/-- more fuel and more depth do no harm -/
theorem am_go_m : ∀ (f : Nat) {d j n : Nat} {ls : AmL} {st : List Value} {S : AmS} {r : AmO × AmS}, am_go f d j n ls st S = some r → ∀ (g e : Nat), am_go (f + g) (d + e) j n ls st S = some r := by
  intro f
  induction f with
  | zero => intro d j n ls st S r h; cases h
  | succ f ih =>
    intro d j n ls st S r h g e
    rw [am_go_s] at h
    rw [show f + 1 + g = f + g + 1 by omega, am_go_s]
    split at h
    · cases h
    · rename_i o ho
      try rw [ho]
      try dsimp only at h ⊢
      cases h40 : Nat.beq o.1 40 with
      | true =>
        rw [h40] at h
        simp only [cond_true] at h ⊢
        cases d with
        | zero => cases h
        | succ d =>
          rw [show d + 1 + e = d + e + 1 by omega]
          dsimp only at h ⊢
          cases hk : am_okc o.2.1 (st.take o.2.2.1).reverse (st.drop o.2.2.1) S with
          | false => rw [hk] at h; cases h
          | true =>
            rw [hk] at h
            simp only [cond_true] at h ⊢
            split at h
            · cases h
            · rename_i S1 hq
              rw [ih hq g e]
              dsimp only
              rw [← ih h g e, show d + 1 + e = d + e + 1 by omega]
            · rename_i v S1 hq
              rw [ih hq g e]
              dsimp only
              rw [← ih h g e, show d + 1 + e = d + e + 1 by omega]
            · rename_i E a S1 hq
              rw [ih hq g e]
              dsimp only
              cases hc : decide (o.2.2.2.1 = 0) with
              | false => rw [hc] at h; cases h
              | true =>
                rw [hc] at h
                simp only [cond_true] at h ⊢
                split at h
                · rename_i hh hhd
                  try rw [hhd]
                  try dsimp only
                  rw [← ih h g e, show d + 1 + e = d + e + 1 by omega]
                · cases h
      | false =>
        rw [h40] at h
        simp only [cond_false] at h ⊢
        cases h41 : (Nat.beq o.1 41 || Nat.beq o.1 42) with
        | true => rw [h41] at h; exact h
        | false =>
          rw [h41] at h
          simp only [cond_false] at h ⊢
          split at h
          · rename_i n' ls' st' S2 hn
            try rw [hn]
            exact ih h g e
          · cases h
def axg (d j n : Nat) (ls : AmL) (st : List Value) (S : AmS) (Q : AmO → AmS → Prop) : Prop := ∃ f r S', am_go f d j n ls st S = some (r, S') ∧ Q r S'
/-- what is to come behind the frames' ends -/
def axk (Q : AmO → AmS → Prop) : List MsF → AmO → AmS → Prop
  | [], r, S => Q r S
  | G :: rest, r, S => ∃ v, r = .inl v ∧ axg (60 - rest.length) G.1 G.2.1 G.2.2.1 (v.toList ++ G.2.2.2) S (axk Q rest)
def axs (Q : AmO → AmS → Prop) (c : MsC) : Prop := match c.1 with
  | [] => False
  | F :: rest => axg (60 - rest.length) F.1 F.2.1 F.2.2.1 F.2.2.2 c.2 (axk Q rest)
theorem ms_back {Q : AmO → AmS → Prop} {c c' : MsC} (h : ms_step c = some c') (hq : axs Q c') : axs Q c := by
  obtain ⟨fs, S⟩ := c
  cases fs with
  | nil => cases h
  | cons F rest =>
    obtain ⟨j, n, ls, st⟩ := F
    unfold ms_step at h
    dsimp only at h
    split at h
    · cases h
    · rename_i o ho
      show axg (60 - rest.length) j n ls st S (axk Q rest)
      cases h40 : Nat.beq o.1 40 with
      | true =>
        rw [h40] at h
        simp only [cond_true] at h
        unfold ms_call at h
        obtain ⟨hc, h2⟩ := am_cnd h
        cases h2
        obtain ⟨hl, hok⟩ := Bool.and_eq_true_iff.mp hc
        replace hl := am_blt hl
        obtain ⟨f, r, S1, g1, v, rfl, f2, r2, S2, g2, g3⟩ := hq
        have hd : 60 - rest.length = (60 - (rest.length + 1)) + 1 := by omega
        refine ⟨f + f2 + 1, r2, S2, ?_, g3⟩
        have k1 := am_go_m f g1 f2 0
        have k2 := am_go_m f2 g2 f 0
        rw [Nat.add_zero] at k1 k2
        rw [show f2 + f = f + f2 by omega, hd] at k2
        rw [hd, am_go_s, ho]
        dsimp only
        rw [h40]
        simp only [cond_true]
        rw [hok]
        simp only [cond_true]
        have k1' : am_go (f + f2) (60 - (rest.length + 1)) o.2.1 0 (lv_args 0 (st.take o.2.2.1).reverse) [] S = some (.inl v, S1) := k1
        rw [k1']
        cases v with
        | none => exact k2
        | some v => exact k2
      | false =>
        rw [h40] at h
        simp only [cond_false] at h
        cases h41 : Nat.beq o.1 41 with
        | true =>
          rw [h41] at h
          simp only [cond_true] at h
          unfold ms_end at h
          split at h
          · rename_i v S9 he
            have eS := am_ends_S he
            subst eS
            cases rest with
            | nil => cases h
            | cons G r =>
              cases h
              refine ⟨1, .inl v, S9, ?_, v, rfl, hq⟩
              rw [am_go_s, ho]
              dsimp only
              rw [h40, h41]
              simp only [cond_false, Bool.true_or, cond_true]
              unfold am_fin
              rw [h41]
              exact he
          · cases h
        | false =>
          rw [h41] at h
          simp only [cond_false] at h
          cases h42 : Nat.beq o.1 42 with
          | true => rw [h42] at h; cases h
          | false =>
            rw [h42] at h
            simp only [cond_false] at h
            unfold ms_nx at h
            split at h
            · rename_i n' ls' st' S' hn
              cases h
              obtain ⟨f, r, S1, g1, g2⟩ := hq
              refine ⟨f + 1, r, S1, ?_, g2⟩
              rw [am_go_s, ho]
              dsimp only
              rw [h40, h41, h42, hn]
              exact g1
            · cases h
theorem ms_backs {Q : AmO → AmS → Prop} : ∀ (k : Nat) {c c' : MsC}, ms_it k c = some c' → axs Q c' → axs Q c := by
  intro k
  induction k with
  | zero => intro c c' h hq; cases h; exact hq
  | succ k ih =>
    intro c c' h hq
    unfold ms_it at h
    split at h
    · rename_i c1 h1
      exact ms_back h1 (ih h hq)
    · cases h
/-- a run of steps to an end is a run of am_go -/
theorem ms_go {j n n' : Nat} {ls ls' : AmL} {st st' : List Value} {S S' : AmS} {o : AmIns} {v : Option Value} (h : rch ([(j, n, ls, st)], S) ([(j, n', ls', st')], S')) (ho : (am_P.1 j)[n']? = some o) (h40 : Nat.beq o.1 40 = false) (h41 : Nat.beq o.1 41 = true) (he : am_ends o st' S' = some (.inl v, S')) : ∃ f, am_go f 60 j n ls st S = some (.inl v, S') := by
  obtain ⟨k, h⟩ := h
  have hq : axs (fun r S9 => r = .inl v ∧ S9 = S') ([(j, n', ls', st')], S') := by
    refine ⟨1, .inl v, S', ?_, rfl, rfl⟩
    rw [am_go_s, ho]
    dsimp only
    rw [h40, h41]
    simp only [cond_false, Bool.true_or, cond_true]
    unfold am_fin
    rw [h41]
    exact he
  obtain ⟨f, r, S1, g1, rfl, rfl⟩ := ms_backs k h hq
  exact ⟨f, g1⟩
