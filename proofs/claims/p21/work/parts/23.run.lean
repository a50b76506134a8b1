/-! THE RUN with unknowns. -/
def sx_one (G : SyG) (X : List Nat) (O : SyO) (C : SyC) : Option SyC := match C.1 with
  | [] => none
  | F :: rest => match am_q F.1 F.2.1 with
    | none => none
    | some o => cond (Nat.beq o.1 40) (sx_call O o F rest C.2)
      (cond (Nat.beq o.1 41) (sx_ret G o F.2.2.2 rest C.2) (cond (Nat.beq o.1 42) none (match sx_nx G X o F.2.1 (F.2.2.1, F.2.2.2, C.2) with
        | some (n', l) => some ((F.1, n', l.1, l.2.1) :: rest, l.2.2)
        | none => none)))
/-- places where a run is to stop: how many frames lie below, method, place; and a return of the lowest frame -/
def sx_stop (stops : List (Nat × Nat × Nat)) (C : SyC) : Bool := match C.1 with
  | [] => true
  | F :: rest => (match rest with
    | [] => (match am_q F.1 F.2.1 with
      | some o => Nat.beq o.1 41
      | none => true)
    | _ => false) || stops.any (fun q => Nat.beq q.2.2 F.2.1 && (Nat.beq q.2.1 F.1 && Nat.beq q.1 rest.length))
def sx_run (G : SyG) (X : List Nat) (O : SyO) (stops : List (Nat × Nat × Nat)) : Nat → SyC → Option SyC
  | 0, _ => none
  | f + 1, C => cond (sx_stop stops C) (some C) (match sx_one G X O C with
    | some C' => sx_run G X O stops f C'
    | none => none)
/-- at least one step -/
def sx_go (G : SyG) (X : List Nat) (O : SyO) (stops : List (Nat × Nat × Nat)) (f : Nat) (C : SyC) : Option SyC := match sx_one G X O C with
  | some C' => sx_run G X O stops f C'
  | none => none
/-! WHAT SUCH A RUN TELLS of the small machine's own. -/
def sy_st (pv : Nat → Int) : List SyV → List Value → Prop
  | [], [] => True
  | a :: r, v :: q => sy_v pv a v ∧ sy_st pv r q
  | _, _ => False
def sy_ls (pv : Nat → Int) (l : List (Nat × SyV)) (ls : AmL) : Prop := ∀ i a, sy_lk l i = some a → ∃ v, am_lk ls i = some v ∧ sy_v pv a v
/-- what is told of a cell -/
def sy_ce (pv : Nat → Int) (e : SyE) (S : AmS) : Prop := ∃ k : Nat, sy_n pv e.1 = k ∧ S.1 k = (e.2.1, e.2.2.1) ∧ (k < S.2.2.1 ∨ am_EXT ≤ k) ∧
  (∀ p ∈ e.2.2.2.2, ∃ i : Nat, sy_n pv p.1 = i ∧ sy_v pv p.2 (S.2.1 k i)) ∧ (∀ d, e.2.2.2.1 = some d → ∀ j : Nat, (∀ p ∈ e.2.2.2.2, sy_n pv p.1 ≠ j) → sy_v pv d (S.2.1 k j))
def sy_me (pv : Nat → Int) (M : SyM) (S : AmS) : Prop := ∀ e ∈ M, sy_ce pv e S
/-- cells that are never written; memory, info, next cell at the beginning -/
abbrev SyX : Type := List Nat × (Nat → Nat → Value) × (Nat → Nat × Nat) × Nat
/-- nothing has changed but what was written, and what is new -/
def sy_fr (pv : Nat → Int) (X : SyX) (w : List (SyV × SyV)) (m : Nat → Nat → Value) : Prop := ∀ a k : Nat, (a < X.2.2.2 ∨ am_EXT ≤ a) → (∀ p ∈ w, ¬ (sy_n pv p.1 = a ∧ sy_n pv p.2 = k)) → m a k = X.2.1 a k
def sy_K (X : SyX) (S : AmS) : Prop := (∀ a : Nat, (a < X.2.2.2 ∨ am_EXT ≤ a) → S.1 a = X.2.2.1 a) ∧ (∀ a ∈ X.1, a < X.2.2.2 ∧ ∀ k, S.2.1 a k = X.2.1 a k) ∧ S.2.2.1 ≤ am_EXT ∧ X.2.2.2 ≤ S.2.2.1 ∧ (X.2.1 (am_EXT + 1) 0 = .null ∨ ∃ k, X.2.1 (am_EXT + 1) 0 = .ref k) ∧ ∀ a k : Nat, am_EXT ≤ a → S.2.1 a k = X.2.1 a k
def sy_HP (pv : Nat → Int) (X : SyX) (H : SyH) (S : AmS) : Prop :=
  sy_me pv H.1 S ∧ ((S.2.2.1 : Int) = sy_n pv H.2.1 ∧ (S.2.2.2.1 : Int) = sy_n pv H.2.2.1 ∧ (S.2.2.2.2 : Int) = sy_n pv H.2.2.2.1) ∧ sy_fr pv X H.2.2.2.2 S.2.1 ∧ sy_K X S
def sy_F (pv : Nat → Int) (F : SyF) (f : MsF) : Prop := f.1 = F.1 ∧ f.2.1 = F.2.1 ∧ sy_ls pv F.2.2.1 f.2.2.1 ∧ sy_st pv F.2.2.2 f.2.2.2
def sy_Fs (pv : Nat → Int) (rest : List MsF) : List SyF → List MsF → Prop
  | [], fs => fs = rest
  | F :: r, fs => ∃ f q, fs = f :: q ∧ sy_F pv F f ∧ sy_Fs pv rest r q
def sy_C (pv : Nat → Int) (X : SyX) (rest : List MsF) (C : SyC) (c : MsC) : Prop := sy_Fs pv rest C.1 c.1 ∧ sy_HP pv X C.2 c.2
/-- nothing is changed of what there is -/
def sy_sm (S S' : AmS) : Prop := (∀ a : Nat, (a < S.2.2.1 ∨ am_EXT ≤ a) → S'.1 a = S.1 a ∧ ∀ k, S'.2.1 a k = S.2.1 a k) ∧ S'.2.2 = S.2.2
/-- how many frames may lie below: more where no calls are told -/
def sy_lim : SyO → Nat
  | [] => 37
  | _ :: _ => 17
/-- the calls of which something is known -/
def sy_Or (pv : Nat → Int) (X : SyX) (O : SyO) : Prop := ∀ q ∈ O, ∀ vs, sy_st pv q.2.1 vs → ∀ (S : AmS) (G : MsF) (r : List MsF), sy_K X S → r.length ≤ 36 → ∃ v S', sy_v pv q.2.2 v ∧ sy_sm S S' ∧ rch ((q.1, 0, lv_args 0 vs, []) :: G :: r, S) ((G.1, G.2.1, G.2.2.1, v :: G.2.2.2) :: r, S')
/-- the small machine's step that answers to one of the run -/
def sy_Q (pv : Nat → Int) (X : SyX) (q : AmR) (n' : Nat) (C' : SyL) : Prop := ∃ ls' st' S', q = some (n', ls', st', S') ∧ sy_ls pv C'.1 ls' ∧ sy_st pv C'.2.1 st' ∧ sy_HP pv X C'.2.2 S'
section SyV
variable {pv : Nat → Int} {G : SyG} {a b x y z : SyV} {u v w : Value} {ls : AmL} {st : List Value} {S : AmS} {n n' : Nat} {l : List (Nat × SyV)}
theorem sy_lt_t {a b : Int} (h : sy_lt a b = true) : a < b := by
  cases a <;> cases b <;> unfold sy_lt at h
  · have := am_blt h
    show ((_ : Nat) : Int) < ((_ : Nat) : Int)
    omega
  · cases h
  · rename_i i k
    have e := Int.negSucc_eq i
    show Int.negSucc i < ((k : Nat) : Int)
    omega
  · rename_i i k
    have := am_blt h
    have e1 := Int.negSucc_eq i
    have e2 := Int.negSucc_eq k
    omega
theorem sy_blf {i k : Nat} (h : Nat.blt i k = false) : k ≤ i := by
  apply Classical.byContradiction
  intro hn
  rw [show Nat.blt i k = true from Nat.ble_eq_true_of_le (by omega)] at h
  cases h
theorem sy_lt_f {a b : Int} (h : sy_lt a b = false) : b ≤ a := by
  cases a <;> cases b <;> unfold sy_lt at h
  · have := sy_blf h
    show ((_ : Nat) : Int) ≤ ((_ : Nat) : Int)
    omega
  · rename_i i k
    have e := Int.negSucc_eq k
    show Int.negSucc k ≤ ((i : Nat) : Int)
    omega
  · cases h
  · rename_i i k
    have := sy_blf h
    have e1 := Int.negSucc_eq i
    have e2 := Int.negSucc_eq k
    omega
theorem sy_le_t {a b : Int} (h : sy_le a b = true) : a ≤ b := by
  unfold sy_le at h
  cases hb : sy_lt b a with
  | true => rw [hb] at h; cases h
  | false => exact sy_lt_f hb
theorem sy_eq_t {a b : Int} (h : sy_eq a b = true) : a = b := by
  cases a <;> cases b <;> unfold sy_eq at h
  · rw [am_beq h]
  · cases h
  · cases h
  · rw [am_beq h]
theorem sy_eq_f {a b : Int} (h : sy_eq a b = false) : a ≠ b := by
  intro e
  subst e
  cases a with
  | ofNat k =>
    have h : Nat.beq k k = false := h
    rw [am_beq_t] at h
    cases h
  | negSucc k =>
    have h : Nat.beq k k = false := h
    rw [am_beq_t] at h
    cases h
theorem sy_v.kd (h : sy_v pv a v) : am_kd v = sy_kd a := by
  unfold sy_v at h
  unfold sy_kd
  split at h
  · rename_i e; rw [e]; obtain ⟨x, rfl, -⟩ := h; rfl
  · rename_i e; rw [e]; obtain ⟨x, rfl, -⟩ := h; rfl
  · rename_i e; rw [e]; obtain ⟨x, rfl⟩ := h; rfl
  · rename_i e; rw [e]; obtain ⟨x, rfl⟩ := h; rfl
  · rename_i e; rw [e, h.2]; rfl
  · rename_i e; rw [e, h]; rfl
  · rename_i e; rw [e]; obtain ⟨x, rfl, -⟩ := h; rfl
  · rename_i e; rw [e]; obtain ⟨x, rfl, -⟩ := h; rfl
  · rename_i e; rw [e]; obtain ⟨x, rfl, -⟩ := h; rfl
  · rename_i e; rw [e]; obtain ⟨x, rfl, -⟩ := h; rfl
  · rename_i e; rw [e]; obtain ⟨x, rfl, -⟩ := h; rfl
  · rename_i e0 e1 e2 e3 e4 e5 e6 e7 e8 e9 e10
    rcases h with rfl | ⟨x, rfl⟩
    · split <;> first | rfl | contradiction
    · split <;> first | rfl | contradiction
theorem sy_v.cat (h : sy_v pv a v) : v.category = cond (sy_two a) 2 1 := by
  have hk := h.kd
  unfold sy_two
  rw [← hk]
  unfold sy_v at h
  split at h
  · obtain ⟨x, rfl, -⟩ := h; rfl
  · obtain ⟨x, rfl, -⟩ := h; rfl
  · obtain ⟨x, rfl⟩ := h; rfl
  · obtain ⟨x, rfl⟩ := h; rfl
  · rw [h.2]; rfl
  · rw [h]; rfl
  · obtain ⟨x, rfl, -⟩ := h; rfl
  · obtain ⟨x, rfl, -⟩ := h; rfl
  · obtain ⟨x, rfl, -⟩ := h; rfl
  · obtain ⟨x, rfl, -⟩ := h; rfl
  · obtain ⟨x, rfl, -⟩ := h; rfl
  · rcases h with rfl | ⟨x, rfl⟩ <;> rfl
theorem sy_v.int (h : sy_v pv a v) (hk : a.1 = 0) : ∃ x : Int32, v = .int x ∧ x.toInt = sy_n pv a := by
  unfold sy_v at h
  rw [hk] at h
  exact h
theorem sy_v.long (h : sy_v pv a v) (hk : a.1 = 1) : ∃ x : Int64, v = .long x ∧ x.toInt = sy_n pv a := by
  unfold sy_v at h
  rw [hk] at h
  exact h
theorem sy_v.ref (h : sy_v pv a v) (hk : a.1 = 4) : 0 ≤ sy_n pv a ∧ v = .ref (sy_n pv a).toNat := by
  unfold sy_v at h
  rw [hk] at h
  exact h
theorem sy_v.anyi (h : sy_v pv a v) (hk : sy_kd a = 0) : ∃ x : Int32, v = .int x := by
  have := h.kd
  rw [hk] at this
  cases v <;> first | exact ⟨_, rfl⟩ | cases this
theorem sy_v.anyl (h : sy_v pv a v) (hk : sy_kd a = 1) : ∃ x : Int64, v = .long x := by
  have := h.kd
  rw [hk] at this
  cases v <;> first | exact ⟨_, rfl⟩ | cases this
theorem sy_n_i (c : Int) : sy_n pv (sy_i c) = c := by
  show c + ((0 : Nat) : Int) * pv 0 = c
  simp
theorem sy_v_i (x : Int32) : sy_v pv (sy_i x.toInt) (.int x) := ⟨x, rfl, (sy_n_i _).symm⟩
theorem sy_v_any (x : Int32) : sy_v pv sy_any (.int x) := ⟨x, rfl⟩
theorem sy_st.cons {r : List SyV} (h : sy_st pv (a :: r) st) : ∃ w q, st = w :: q ∧ sy_v pv a w ∧ sy_st pv r q := by
  cases st with
  | nil => exact h.elim
  | cons w q => exact ⟨w, q, rfl, h.1, h.2⟩
theorem sy_st.nil (h : sy_st pv [] st) : st = [] := by
  cases st with
  | nil => rfl
  | cons w q => exact h.elim
theorem sy_n0 (h : a.2.2.2 = 0) : sy_n pv a = a.2.1 := by
  unfold sy_n
  rw [h]
  simp
/-- bounds -/
theorem sy_lo_ok (hg : sy_g pv G) {p : Int × Int} (h : sy_lo G a = some p) : p.1 ≤ sy_n pv a ∧ sy_n pv a ≤ p.2 := by
  unfold sy_lo at h
  unfold sy_n
  cases hb : Nat.beq a.2.2.2 0 with
  | true =>
    rw [hb] at h
    cases h
    rw [am_beq hb]
    simp
  | false =>
    rw [hb] at h
    simp only [cond_false] at h
    split at h
    · rename_i q hq
      cases h
      have hm : ∀ {l : List (Nat × Int × Int)} {i : Nat} {q : Int × Int}, sy_bd l i = some q → (i, q) ∈ l := by
        intro l
        induction l with
        | nil => intro i q h; cases h
        | cons r l ih =>
          intro i q h
          unfold sy_bd at h
          cases hb : Nat.beq r.1 i with
          | true =>
            rw [hb] at h
            have e : r.2 = q := Option.some.inj h
            rw [← am_beq hb, ← e]
            exact List.mem_cons_self
          | false =>
            rw [hb] at h
            exact List.mem_cons_of_mem _ (ih h)
      obtain ⟨h1, h2⟩ := hg.1 _ (hm hq)
      have h3 := Int.mul_le_mul_of_nonneg_left h1 (Int.natCast_nonneg a.2.2.2)
      have h4 := Int.mul_le_mul_of_nonneg_left h2 (Int.natCast_nonneg a.2.2.2)
      exact ⟨by dsimp only at h3 ⊢; omega, by dsimp only at h4 ⊢; omega⟩
    · cases h
theorem sy_rg_ok (hg : sy_g pv G) {lo hi : Int} (h : sy_rg G a lo hi = true) : lo ≤ sy_n pv a ∧ sy_n pv a ≤ hi := by
  unfold sy_rg at h
  split at h
  · rename_i p hp
    obtain ⟨h1, h2⟩ := Bool.and_eq_true_iff.mp h
    have h1 := sy_le_t h1
    have h2 := sy_le_t h2
    have h3 := sy_lo_ok hg hp
    omega
  · cases h
theorem sy_mu {f : Nat} {p q c e : Int} (h : p < q) (hc : c - e < f) : c + f * p < e + f * q := by
  have h1 : (f : Int) * (p + 1) ≤ f * q := Int.mul_le_mul_of_nonneg_left h (Int.natCast_nonneg f)
  rw [Int.mul_add, Int.mul_one] at h1
  omega
theorem sy_an {l : List (Nat × Nat)} {i j : Nat} (h : l.any (fun r => Nat.beq r.1 i && Nat.beq r.2 j) = true) : (i, j) ∈ l := by
  obtain ⟨r, h1, h2⟩ := List.any_eq_true.mp h
  obtain ⟨h3, h4⟩ := Bool.and_eq_true_iff.mp h2
  have e : r = (i, j) := Prod.ext (am_beq h3) (am_beq h4)
  rw [← e]
  exact h1
theorem sy_cmp_ok (hg : sy_g pv G) {r : Nat} (h : sy_cmp G a b = some r) : (r = 0 ∧ sy_n pv a < sy_n pv b) ∨ (r = 1 ∧ sy_n pv a = sy_n pv b) ∨ (r = 2 ∧ sy_n pv b < sy_n pv a) := by
  unfold sy_cmp at h
  cases hb : (Nat.beq a.2.2.2 b.2.2.2 && (Nat.beq a.2.2.1 b.2.2.1 || Nat.beq a.2.2.2 0)) with
  | true =>
    rw [hb] at h
    simp only [cond_true] at h
    obtain ⟨h1, h2⟩ := Bool.and_eq_true_iff.mp hb
    have e : (a.2.2.2 : Int) * pv a.2.2.1 = (b.2.2.2 : Int) * pv b.2.2.1 := by
      rw [← am_beq h1]
      rcases Bool.or_eq_true_iff.mp h2 with z | z
      · rw [am_beq z]
      · rw [am_beq z]; simp
    unfold sy_n
    rw [e]
    cases h3 : sy_lt a.2.1 b.2.1 with
    | true =>
      rw [h3] at h
      cases h
      have := sy_lt_t h3
      exact Or.inl ⟨rfl, by omega⟩
    | false =>
      rw [h3] at h
      have h5 := sy_lt_f h3
      cases h4 : sy_eq a.2.1 b.2.1 with
      | true =>
        rw [h4] at h
        cases h
        have := sy_eq_t h4
        exact Or.inr (Or.inl ⟨rfl, by omega⟩)
      | false =>
        rw [h4] at h
        cases h
        have := sy_eq_f h4
        exact Or.inr (Or.inr ⟨rfl, by omega⟩)
  | false =>
    rw [hb] at h
    simp only [cond_false] at h
    split at h
    · rename_i p q hp hq
      have g1 := sy_lo_ok hg hp
      have g2 := sy_lo_ok hg hq
      cases c1 : sy_lt p.2 q.1 with
      | true =>
        rw [c1] at h
        cases h
        have := sy_lt_t c1
        exact Or.inl ⟨rfl, by omega⟩
      | false =>
        rw [c1] at h
        cases c2 : sy_lt q.2 p.1 with
        | true =>
          rw [c2] at h
          cases h
          have := sy_lt_t c2
          exact Or.inr (Or.inr ⟨rfl, by omega⟩)
        | false =>
          rw [c2] at h
          simp only [cond_false] at h
          cases c3 : (Nat.beq a.2.2.2 b.2.2.2 && (G.2.any (fun r => Nat.beq r.1 a.2.2.1 && Nat.beq r.2 b.2.2.1) && sy_lt (a.2.1 - b.2.1) a.2.2.2)) with
          | true =>
            rw [c3] at h
            cases h
            obtain ⟨k1, k2⟩ := Bool.and_eq_true_iff.mp c3
            obtain ⟨k2, k3⟩ := Bool.and_eq_true_iff.mp k2
            refine Or.inl ⟨rfl, ?_⟩
            unfold sy_n
            rw [← am_beq k1]
            exact sy_mu (hg.2 _ (sy_an k2)) (sy_lt_t k3)
          | false =>
            rw [c3] at h
            simp only [cond_false] at h
            obtain ⟨c4, h6⟩ := am_cnd h
            cases h6
            obtain ⟨k1, k2⟩ := Bool.and_eq_true_iff.mp c4
            obtain ⟨k2, k3⟩ := Bool.and_eq_true_iff.mp k2
            refine Or.inr (Or.inr ⟨rfl, ?_⟩)
            unfold sy_n
            rw [am_beq k1]
            exact sy_mu (hg.2 _ (sy_an k2)) (sy_lt_t k3)
    · cases h
theorem sy_df_ok (hg : sy_g pv G) (h : sy_df G a b = true) : sy_n pv a ≠ sy_n pv b := by
  unfold sy_df at h
  split at h
  · rename_i r hr
    rcases sy_cmp_ok hg hr with ⟨rfl, k⟩ | ⟨rfl, k⟩ | ⟨rfl, k⟩
    · omega
    · cases h
    · omega
  · cases h
theorem sy_same_n (h : sy_same a b = true) : sy_n pv a = sy_n pv b := by
  unfold sy_same at h
  obtain ⟨h1, h2⟩ := Bool.and_eq_true_iff.mp h
  obtain ⟨h2, h3⟩ := Bool.and_eq_true_iff.mp h2
  unfold sy_n
  rw [sy_eq_t h1]
  rcases Bool.or_eq_true_iff.mp h3 with e | e
  · rw [am_beq h2, am_beq e]
  · rw [← am_beq h2, am_beq e]
    simp
theorem sy_cn_ok (hg : sy_g pv G) {k : Nat} {t : Bool} (h : sy_cn G k x y = some t) (hx : sy_v pv x u) (hy : sy_v pv y v) : ∃ p q : Int32, u = .int p ∧ v = .int q ∧ am_cn k p q = t := by
  unfold sy_cn at h
  obtain ⟨h1, h2⟩ := am_cnd h
  obtain ⟨h3, h4⟩ := Bool.and_eq_true_iff.mp h1
  obtain ⟨p, rfl, ep⟩ := hx.int (am_beq h3)
  obtain ⟨q, rfl, eq⟩ := hy.int (am_beq h4)
  refine ⟨p, q, rfl, rfl, ?_⟩
  split at h2
  · rename_i r hr
    have h2 := Option.some.inj h2
    rw [← h2]
    have hc := sy_cmp_ok hg hr
    rw [← ep, ← eq] at hc
    have inj : p.toInt = q.toInt → p = q := fun h => Int32.toInt_inj.mp h
    unfold am_cn
    rcases hc with ⟨rfl, hl⟩ | ⟨rfl, he⟩ | ⟨rfl, hl⟩
    · have n1 : ¬ p = q := fun e => by rw [e] at hl; omega
      have n2 : p < q := Int32.lt_iff_toInt_lt.mpr hl
      have n3 : ¬ q ≤ p := fun e => by have := Int32.le_iff_toInt_le.mp e; omega
      have n4 : ¬ q < p := fun e => by have := Int32.lt_iff_toInt_lt.mp e; omega
      have n5 : p ≤ q := Int32.le_iff_toInt_le.mpr (by omega)
      split <;> simp [n1, n2, n3, n4, n5] <;> rfl
    · have e := inj he
      subst e
      have n4 : ¬ p < p := fun e => by have := Int32.lt_iff_toInt_lt.mp e; omega
      have n5 : p ≤ p := Int32.le_iff_toInt_le.mpr (by omega)
      split <;> simp [n4, n5] <;> rfl
    · have n1 : ¬ p = q := fun e => by rw [e] at hl; omega
      have n2 : q < p := Int32.lt_iff_toInt_lt.mpr hl
      have n3 : ¬ p ≤ q := fun e => by have := Int32.le_iff_toInt_le.mp e; omega
      have n4 : ¬ p < q := fun e => by have := Int32.lt_iff_toInt_lt.mp e; omega
      have n5 : q ≤ p := Int32.le_iff_toInt_le.mpr (by omega)
      split <;> simp [n1, n2, n3, n4, n5] <;> rfl
  · unfold sy_cn2 at h2
    split at h2
    · rename_i r1 r2 hr1 hr2
      have g1 := sy_lo_ok hg hr1
      have g2 := sy_lo_ok hg hr2
      cases c1 : sy_le r2.2 r1.1 with
      | true =>
        rw [c1] at h2
        have c1 := sy_le_t c1
        split at h2
        · cases h2
          exact decide_eq_false (fun e => by have := Int32.lt_iff_toInt_lt.mp e; omega)
        · cases h2
          exact decide_eq_true (Int32.le_iff_toInt_le.mpr (by omega))
        · cases h2
      | false =>
        rw [c1] at h2
        simp only [cond_false] at h2
        obtain ⟨c2, h2⟩ := am_cnd h2
        have c2 := sy_le_t c2
        split at h2
        · cases h2
          exact decide_eq_false (fun e => by have := Int32.lt_iff_toInt_lt.mp e; omega)
        · cases h2
          exact decide_eq_true (Int32.le_iff_toInt_le.mpr (by omega))
        · cases h2
    · cases h2
end SyV
