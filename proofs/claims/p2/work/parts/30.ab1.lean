/-! AN ABSTRACT RUN: what holds of a run whatever its ints are, told by boxes. kinds: 0 int, 1 long, 2 double, 3 the cell lo, 5 an lcmp of the variable that the origin names with a long of the box, 7 some cell. -/
abbrev AbV : Type := Nat × Int × Int × Nat
/-- variables, stack, boxes of fields, 'this variable is less than this field' -/
abbrev AbS : Type := List (Nat × AbV) × List AbV × List (Nat × Int × Int) × List (Nat × Nat)
/-- the things that stand: tag and size of each cell, and what its fields or elements hold -/
abbrev AbW : Type := List (Nat × Nat) × List (List AbV)
def ab_v (a : AbV) (v : Value) : Prop := match a.1 with
  | 0 => ∃ x : Int32, v = .int x ∧ a.2.1 ≤ x.toInt ∧ x.toInt ≤ a.2.2.1
  | 1 => ∃ x : Int64, v = .long x ∧ a.2.1 ≤ x.toInt ∧ x.toInt ≤ a.2.2.1
  | 2 => ∃ x, v = .double x
  | 3 => v = .ref a.2.1.toNat
  | 7 => ∃ q, v = .ref q
  | _ => ∃ x : Int32, v = .int x
/-- where a value came from: 2 i + 1 the variable i, 2 (64 a + f) + 2 the field f of the cell a -/
def ab_og (ls : AmL) (M : Nat → Nat → Value) (a : AbV) (v : Value) : Prop :=
  (a.1 = 5 → ∃ x y : Int64, a.2.2.2 % 2 = 1 ∧ am_lk ls (a.2.2.2 / 2) = some (.long x) ∧ v = .int (lg_cmp x y) ∧ a.2.1 ≤ y.toInt ∧ y.toInt ≤ a.2.2.1) ∧
  (a.1 ≠ 5 → a.2.2.2 % 2 = 1 → am_lk ls (a.2.2.2 / 2) = some v) ∧
  (a.1 ≠ 5 → a.2.2.2 % 2 = 0 → a.2.2.2 ≠ 0 → M ((a.2.2.2 / 2 - 1) / 64) ((a.2.2.2 / 2 - 1) % 64) = v)
def ab_st (ls : AmL) (M : Nat → Nat → Value) : List AbV → List Value → Prop
  | [], [] => True
  | a :: r, v :: q => (ab_v a v ∧ ab_og ls M a v) ∧ ab_st ls M r q
  | _, _ => False
def ab_fd (M : Nat → Nat → Value) (q : Nat × Int × Int) : Prop := ∃ x : Int32, M (q.1 / 64) (q.1 % 64) = .int x ∧ q.2.1 ≤ x.toInt ∧ x.toInt ≤ q.2.2
def ab_rl (ls : AmL) (M : Nat → Nat → Value) (q : Nat × Nat) : Prop := ∃ x y : Int32, am_lk ls q.1 = some (.int x) ∧ M (q.2 / 64) (q.2 % 64) = .int y ∧ x.toInt < y.toInt
def ab_g (A : AbS) (ls : AmL) (st : List Value) (M : Nat → Nat → Value) : Prop :=
  (∀ p ∈ A.1, ∃ v, am_lk ls p.1 = some v ∧ ab_v p.2 v) ∧ ab_st ls M A.2.1 st ∧ (∀ q ∈ A.2.2.1, ab_fd M q) ∧ (∀ q ∈ A.2.2.2, ab_rl ls M q)
def ab_cn (W : AbW) (a : Nat) : AbV := (W.2.getD a []).headD (2, 0, 0, 0)
/-- the world stands -/
def ab_G (W : AbW) (S : AmS) : Prop := ∀ a t z, W.1[a]? = some (t, z) → S.1 a = (t, z) ∧ a < S.2.2.1 ∧ (t ≤ 13 → ∀ f av, (W.2.getD a [])[f]? = some av → ab_v av (S.2.1 a f)) ∧ (61 ≤ t → ∀ i, i < z → ab_v (ab_cn W a) (S.2.1 a i))
/-- a step comes to one of these -/
def ab_R (W : AbW) (S : AmS) (q : AmR) (outs : List (Nat × AbS)) : Prop := ∃ n' ls' st' M', q = some (n', ls', st', (S.1, M', S.2.2)) ∧ ab_G W (S.1, M', S.2.2) ∧ (∀ a, W.1[a]? = none → M' a = S.2.1 a) ∧ ∃ p ∈ outs, p.1 = n' ∧ ab_g p.2 ls' st' M'
def ab_lk : List (Nat × AbV) → Nat → Option AbV
  | [], _ => none
  | p :: l, i => cond (Nat.beq p.1 i) (some p.2) (ab_lk l i)
def ab_kd (k : Nat) : Nat := match k with
  | 0 => 0
  | 1 => 1
  | 2 => 2
  | 3 => 3
  | 5 => 0
  | 7 => 3
  | _ => 99
def ab_i0 : Int := -2147483648
def ab_i1 : Int := 2147483647
def ab_l0 : Int := -9223372036854775808
def ab_l1 : Int := 9223372036854775807
def ab_full : AbV := (0, ab_i0, ab_i1, 0)
def ab_lfull : AbV := (1, ab_l0, ab_l1, 0)
def ab_no (a : AbV) : AbV := (a.1, a.2.1, a.2.2.1, 0)
section AbV
variable {a b : AbV} {v w : Value} {ls : AmL} {M : Nat → Nat → Value} {r : List AbV} {st : List Value} {W : AbW} {S : AmS}
theorem ab_32 (x : Int32) : ab_i0 ≤ x.toInt ∧ x.toInt ≤ ab_i1 := by
  have h1 := Int32.le_toInt x
  have h2 := Int32.toInt_lt x
  exact ⟨by show (-2147483648 : Int) ≤ _; omega, by show _ ≤ (2147483647 : Int); omega⟩
theorem ab_64 (x : Int64) : ab_l0 ≤ x.toInt ∧ x.toInt ≤ ab_l1 := by
  have h1 := Int64.le_toInt x
  have h2 := Int64.toInt_lt x
  exact ⟨by show (-9223372036854775808 : Int) ≤ _; omega, by show _ ≤ (9223372036854775807 : Int); omega⟩
theorem ab_fv (x : Int32) : ab_v ab_full (.int x) := ⟨x, rfl, ab_32 x⟩
theorem ab_lv (x : Int64) : ab_v ab_lfull (.long x) := ⟨x, rfl, ab_64 x⟩
theorem ab_og0 (h5 : a.1 ≠ 5) (h : a.2.2.2 = 0) : ab_og ls M a v := ⟨fun e => absurd e h5, fun _ e => by rw [h] at e; cases e, fun _ _ e => absurd h e⟩
theorem ab_v.kd (h : ab_v a v) {k : Nat} (hk : ab_kd a.1 = k) (h9 : k < 9) : am_kd v = k := by
  unfold ab_v at h
  unfold ab_kd at hk
  split at h
  · rename_i e; rw [e] at hk; obtain ⟨x, rfl, -⟩ := h; exact hk
  · rename_i e; rw [e] at hk; obtain ⟨x, rfl, -⟩ := h; exact hk
  · rename_i e; rw [e] at hk; obtain ⟨x, rfl⟩ := h; exact hk
  · rename_i e; rw [e] at hk; rw [h]; exact hk
  · rename_i e; rw [e] at hk; obtain ⟨x, rfl⟩ := h; exact hk
  · obtain ⟨x, rfl⟩ := h
    split at hk <;> first | exact hk | omega
theorem ab_v.int (h : ab_v a v) (hk : a.1 = 0) : ∃ x : Int32, v = .int x ∧ a.2.1 ≤ x.toInt ∧ x.toInt ≤ a.2.2.1 := by
  unfold ab_v at h
  rw [hk] at h
  exact h
theorem ab_v.long (h : ab_v a v) (hk : a.1 = 1) : ∃ x : Int64, v = .long x ∧ a.2.1 ≤ x.toInt ∧ x.toInt ≤ a.2.2.1 := by
  unfold ab_v at h
  rw [hk] at h
  exact h
theorem ab_v.ref (h : ab_v a v) (hk : a.1 = 3) : v = .ref a.2.1.toNat := by
  unfold ab_v at h
  rw [hk] at h
  exact h
theorem ab_st.cons (h : ab_st ls M (a :: r) st) : ∃ w q, st = w :: q ∧ ab_v a w ∧ ab_og ls M a w ∧ ab_st ls M r q := by
  cases st with
  | nil => exact h.elim
  | cons w q => exact ⟨w, q, rfl, h.1.1, h.1.2, h.2⟩
theorem ab_st.nil (h : ab_st ls M [] st) : st = [] := by
  cases st with
  | nil => rfl
  | cons w q => exact h.elim
theorem ab_no_v (h : ab_v a v) : ab_v (ab_no a) v := h
theorem ab_no_og (h5 : a.1 ≠ 5) : ab_og ls M (ab_no a) v := ab_og0 h5 rfl
theorem ab_lk_mem : ∀ {l : List (Nat × AbV)} {i : Nat} {a : AbV}, ab_lk l i = some a → (i, a) ∈ l := by
  intro l
  induction l with
  | nil => intro i a h; cases h
  | cons p l ih =>
    intro i a h
    unfold ab_lk at h
    cases hb : Nat.beq p.1 i with
    | true =>
      rw [hb] at h
      have e : p.2 = a := Option.some.inj h
      rw [← am_beq hb, ← e]
      exact List.mem_cons_self
    | false =>
      rw [hb] at h
      exact List.mem_cons_of_mem _ (ih h)
/-- forget where things came from -/
def ab_cl (r : List AbV) : List AbV := r.map ab_no
theorem ab_st_cl {ls2 : AmL} {M2 : Nat → Nat → Value} : ∀ {r : List AbV} {st : List Value}, r.all (fun a => !(Nat.beq a.1 5)) = true → ab_st ls M r st → ab_st ls2 M2 (ab_cl r) st := by
  intro r
  induction r with
  | nil => intro st _ h; rw [h.nil]; exact trivial
  | cons a r ih =>
    intro st h5 h
    obtain ⟨h6, h7⟩ := Bool.and_eq_true_iff.mp (show ((!(Nat.beq a.1 5)) && r.all (fun a => !(Nat.beq a.1 5))) = true from h5)
    obtain ⟨w, q, rfl, h1, -, h2⟩ := h.cons
    have h8 : a.1 ≠ 5 := fun e => by rw [e] at h6; cases h6
    exact ⟨⟨ab_no_v h1, ab_no_og h8⟩, ih h7 h2⟩
theorem ab_lk_f {f : Nat × Value → Bool} : ∀ {ls : AmL} {i : Nat} {v : Value}, am_lk ls i = some v → f (i, v) = true → am_lk (ls.filter f) i = some v := by
  intro ls
  induction ls with
  | nil => intro i v h _; cases h
  | cons q l ih =>
    intro i v h hf
    unfold am_lk at h
    cases hb : Nat.beq q.1 i with
    | true =>
      rw [hb] at h
      have e : q.2 = v := Option.some.inj h
      have e2 : q = (i, v) := by rw [← am_beq hb, ← e]
      rw [List.filter_cons_of_pos (by rw [e2]; exact hf)]
      unfold am_lk
      rw [hb, e]; rfl
    | false =>
      rw [hb] at h
      cases hq : f q with
      | true =>
        rw [List.filter_cons_of_pos hq]
        unfold am_lk
        rw [hb]
        exact ih h hf
      | false =>
        rw [List.filter_cons_of_neg (by rw [hq]; decide)]
        exact ih h hf
/-- the world is unchanged, or changed at a place that it has, to what that place may hold -/
theorem ab_G.put (h : ab_G W S) {a f : Nat} {w : Value} (h1 : ∀ t z, W.1[a]? = some (t, z) → (t ≤ 13 → ∀ av, (W.2.getD a [])[f]? = some av → ab_v av w) ∧ (61 ≤ t → ab_v (ab_cn W a) w)) : ab_G W (S.1, am_upM S.2.1 a f w, S.2.2) := by
  intro b t z hb
  obtain ⟨g1, g2, g3, g4⟩ := h b t z hb
  refine ⟨g1, g2, fun ht k av hk => ?_, fun ht i hi => ?_⟩
  · show ab_v av (am_upM S.2.1 a f w b k)
    unfold am_upM
    cases e1 : Nat.beq b a with
    | false => exact g3 ht k av hk
    | true =>
      cases e2 : Nat.beq k f with
      | false => exact g3 ht k av hk
      | true =>
        rw [am_beq e1] at hb hk
        rw [am_beq e2] at hk
        exact (h1 t z hb).1 ht av hk
  · show ab_v (ab_cn W b) (am_upM S.2.1 a f w b i)
    unfold am_upM
    cases e1 : Nat.beq b a with
    | false => exact g4 ht i hi
    | true =>
      cases e2 : Nat.beq i f with
      | false => exact g4 ht i hi
      | true =>
        rw [am_beq e1] at hb ⊢
        exact (h1 t z hb).2 ht
theorem ab_R_pure {n' : Nat} {ls' : AmL} {st' : List Value} {q : AmR} {outs : List (Nat × AbS)} {p : Nat × AbS} (hG : ab_G W S) (hq : q = some (n', ls', st', S)) (hp : p ∈ outs) (hn : p.1 = n') (hg : ab_g p.2 ls' st' S.2.1) : ab_R W S q outs := ⟨n', ls', st', S.2.1, hq, hG, fun _ _ => rfl, p, hp, hn, hg⟩
end AbV
