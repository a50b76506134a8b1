/-! EDGES: a run from one description to another. -/
/-- a value over other parameters -/
def sy_sp : List (Nat × SyV) → Nat → SyV
  | [], p => (0, 0, p, 1)
  | q :: l, p => cond (Nat.beq q.1 p) q.2 (sy_sp l p)
def sy_su (s : List (Nat × SyV)) (a : SyV) : SyV := cond (Nat.beq a.2.2.2 0) a (a.1, a.2.1 + a.2.2.2 * (sy_sp s a.2.2.1).2.1, (sy_sp s a.2.2.1).2.2.1, a.2.2.2 * (sy_sp s a.2.2.1).2.2.2)
def sy_suE (s : List (Nat × SyV)) (e : SyE) : SyE := (sy_su s e.1, e.2.1, e.2.2.1, e.2.2.2.1.map (sy_su s), e.2.2.2.2.map (fun p => (sy_su s p.1, sy_su s p.2)))
/-- b is at least what a says -/
def sy_lv (a b : SyV) : Bool := cond (Nat.beq a.1 2) (Nat.beq (sy_kd b) 0) (cond (Nat.beq a.1 3) (Nat.beq b.1 1 || Nat.beq b.1 3) (cond (Nat.beq a.1 7) (Nat.beq b.1 4 || (Nat.beq b.1 5 || Nat.beq b.1 7)) (cond (Nat.beq a.1 12) (Nat.beq b.1 12) (Nat.beq a.1 b.1 && (Nat.blt a.1 9 && (Nat.beq a.1 5 || sy_same a b))))))
def sy_lst : List SyV → List SyV → Bool
  | [], [] => true
  | a :: r, b :: q => sy_lv a b && sy_lst r q
  | _, _ => false
def sy_llo : List (Nat × SyV) → List (Nat × SyV) → Bool
  | [], _ => true
  | p :: l, m => (match sy_lk m p.1 with
    | some b => sy_lv p.2 b
    | none => false) && sy_llo l m
/-- a place is told by one of the cells -/
def sy_lpl (M : SyM) (a : SyV) (p : SyV × SyV) : Bool := M.any (fun e => sy_same e.1 a && e.2.2.2.2.any (fun q => sy_same q.1 p.1 && sy_lv p.2 q.2))
def sy_ldf (M : SyM) (a d : SyV) (pl : List (SyV × SyV)) : Bool := M.any (fun e => sy_same e.1 a && ((match e.2.2.2.1 with
  | some d2 => sy_lv d d2
  | none => false) && e.2.2.2.2.all (fun q => sy_lv d q.2 || pl.any (fun p => sy_same p.1 q.1))))
/-- where a place isn't told, but what is there where nothing is told -/
def sy_lpd (G : SyG) (M : SyM) (a : SyV) (p : SyV × SyV) : Bool := sy_rg G p.1 0 1000000000 && M.any (fun e => sy_same e.1 a && (match sy_re G e p.1 with
  | some v => sy_lv p.2 v
  | none => false))
def sy_lE (G : SyG) (M : SyM) (e : SyE) : Bool := M.any (fun b => sy_same b.1 e.1 && (Nat.beq b.2.1 e.2.1 && Nat.beq b.2.2.1 e.2.2.1)) &&
  (e.2.2.2.2.all (fun p => sy_lpl M e.1 p || sy_lpd G M e.1 p) && (match e.2.2.2.1 with
    | none => true
    | some d => sy_ldf M e.1 d e.2.2.2.2))
def sy_lM (G : SyG) (A M : SyM) : Bool := A.all (sy_lE G M)
def sy_lF (s : List (Nat × SyV)) : List SyF → List SyF → Bool
  | [], [] => true
  | F :: r, D :: q => Nat.beq F.1 D.1 && (Nat.beq F.2.1 D.2.1 && (sy_llo (F.2.2.1.map (fun p => (p.1, sy_su s p.2))) D.2.2.1 && (sy_lst (F.2.2.2.map (sy_su s)) D.2.2.2 && sy_lF s r q)))
  | _, _ => false
/-- a cell, least and greatest place -/
abbrev SyW : Type := List (SyV × SyV × SyV)
def sy_ge (G : SyG) (a b : SyV) : Bool := match sy_cmp G a b with
  | some r => !(Nat.beq r 0)
  | none => false
def sy_lw (G : SyG) (L : SyW) (w : List (SyV × SyV)) : Bool := w.all (fun p => L.any (fun q => sy_same q.1 p.1 && (sy_ge G p.2 q.2.1 && sy_ge G q.2.2 p.2)))
/-- the description T, its parameters put as s tells, holds of C; what was written lies within L -/
def sx_le (G : SyG) (L : SyW) (s : List (Nat × SyV)) (T C : SyC) : Bool := sy_lF s T.1 C.1 && (sy_lM G (T.2.1.map (sy_suE s)) C.2.1 && (sy_lv (sy_su s T.2.2.1) C.2.2.1 && (sy_lv (sy_su s T.2.2.2.1) C.2.2.2.1 && (sy_lv (sy_su s T.2.2.2.2.1) C.2.2.2.2.1 && sy_lw G L C.2.2.2.2.2))))
def sx_ed (G : SyG) (X : List Nat) (O : SyO) (stops : List (Nat × Nat × Nat)) (f : Nat) (L : SyW) (s : List (Nat × SyV)) (A T : SyC) : Bool := match sx_go G X O stops f A with
  | some C => sx_le G L s T C
  | none => false

/-! WHAT AN EDGE TELLS. -/
def sy_pv (pv : Nat → Int) (s : List (Nat × SyV)) : Nat → Int := fun p => sy_n pv (sy_sp s p)
def sy_T (pv : Nat → Int) (rest : List MsF) (T : SyC) (c : MsC) : Prop := sy_Fs pv rest T.1 c.1 ∧ sy_me pv T.2.1 c.2 ∧ ((c.2.2.2.1 : Int) = sy_n pv T.2.2.1 ∧ (c.2.2.2.2.1 : Int) = sy_n pv T.2.2.2.1 ∧ (c.2.2.2.2.2 : Int) = sy_n pv T.2.2.2.2.1)
def sy_K0 (c : MsC) : Prop := c.2.2.2.1 ≤ am_EXT ∧ (c.2.2.1 (am_EXT + 1) 0 = .null ∨ ∃ k, c.2.2.1 (am_EXT + 1) 0 = .ref k)
/-- within L alone something has changed -/
def sy_ch (pv : Nat → Int) (L : SyW) (c c' : MsC) : Prop := (∀ a k : Nat, (a < c.2.2.2.1 ∨ am_EXT ≤ a) → (∀ q ∈ L, ¬ (sy_n pv q.1 = a ∧ sy_n pv q.2.1 ≤ k ∧ (k : Int) ≤ sy_n pv q.2.2)) → c'.2.2.1 a k = c.2.2.1 a k) ∧ (∀ a : Nat, (a < c.2.2.2.1 ∨ am_EXT ≤ a) → c'.2.1 a = c.2.1 a) ∧ c.2.2.2.1 ≤ c'.2.2.2.1
def sy_x (X : List Nat) (c : MsC) : SyX := (X, c.2.2.1, c.2.1, c.2.2.2.1)
section SyE
variable {pv : Nat → Int} {G : SyG} {a b d : SyV} {v w : Value} {S : AmS} {M : SyM} {s : List (Nat × SyV)}
theorem sy_su_k : (sy_su s a).1 = a.1 := by
  unfold sy_su
  cases Nat.beq a.2.2.2 0 <;> rfl
theorem sy_su_n : sy_n pv (sy_su s a) = sy_n (sy_pv pv s) a := by
  unfold sy_su
  cases hb : Nat.beq a.2.2.2 0 with
  | true =>
    simp only [cond_true]
    rw [sy_n0 (am_beq hb), sy_n0 (am_beq hb)]
  | false =>
    simp only [cond_false]
    show a.2.1 + (a.2.2.2 : Int) * (sy_sp s a.2.2.1).2.1 + ((a.2.2.2 * (sy_sp s a.2.2.1).2.2.2 : Nat) : Int) * pv (sy_sp s a.2.2.1).2.2.1 = a.2.1 + (a.2.2.2 : Int) * ((sy_sp s a.2.2.1).2.1 + ((sy_sp s a.2.2.1).2.2.2 : Int) * pv (sy_sp s a.2.2.1).2.2.1)
    rw [Int.natCast_mul, Int.mul_add, Int.mul_assoc, Int.add_assoc]
theorem sy_lv_ok (h : sy_lv (sy_su s a) b = true) (hv : sy_v pv b v) : sy_v (sy_pv pv s) a v := by
  unfold sy_lv at h
  rw [sy_su_k] at h
  cases h2 : Nat.beq a.1 2 with
  | true =>
    rw [h2] at h
    obtain ⟨x, rfl⟩ := hv.anyi (am_beq h)
    unfold sy_v
    rw [am_beq h2]
    exact ⟨x, rfl⟩
  | false =>
    rw [h2] at h
    simp only [cond_false] at h
    cases h3 : Nat.beq a.1 3 with
    | true =>
      rw [h3] at h
      have e : sy_kd b = 1 := by
        unfold sy_kd
        rcases Bool.or_eq_true_iff.mp h with z | z <;> rw [am_beq z]
        · rfl
        · rfl
      obtain ⟨x, rfl⟩ := hv.anyl e
      unfold sy_v
      rw [am_beq h3]
      exact ⟨x, rfl⟩
    | false =>
      rw [h3] at h
      simp only [cond_false] at h
      cases h7 : Nat.beq a.1 7 with
      | true =>
        rw [h7] at h
        unfold sy_v
        rw [am_beq h7]
        rcases Bool.or_eq_true_iff.mp h with z | z
        · exact Or.inr ⟨_, (hv.ref (am_beq z)).2⟩
        · rcases Bool.or_eq_true_iff.mp z with z | z
          · unfold sy_v at hv
            rw [am_beq z] at hv
            exact Or.inl hv
          · unfold sy_v at hv
            rw [am_beq z] at hv
            exact hv
      | false =>
        rw [h7] at h
        simp only [cond_false] at h
        cases h12 : Nat.beq a.1 12 with
        | true =>
          rw [h12] at h
          unfold sy_v at hv ⊢
          rw [show b.1 = 12 from am_beq h] at hv
          rw [am_beq h12]
          exact hv
        | false =>
          rw [h12] at h
          simp only [cond_false] at h
          obtain ⟨h1, h4⟩ := Bool.and_eq_true_iff.mp h
          obtain ⟨h9, h4⟩ := Bool.and_eq_true_iff.mp h4
          rcases Bool.or_eq_true_iff.mp h4 with z | z
          · unfold sy_v at hv ⊢
            rw [← am_beq h1, am_beq z] at hv
            rw [am_beq z]
            exact hv
          · refine sy_v_eq (am_beq h1) (am_blt h9) ?_ hv
            rw [← sy_su_n, sy_same_n (pv := pv) z]
theorem sy_lst_ok : ∀ {l m : List SyV} {st : List Value}, sy_lst (l.map (sy_su s)) m = true → sy_st pv m st → sy_st (sy_pv pv s) l st := by
  intro l
  induction l with
  | nil =>
    intro m st h hs
    cases m with
    | nil => rw [hs.nil]; exact trivial
    | cons b q => cases h
  | cons a r ih =>
    intro m st h hs
    cases m with
    | nil => cases h
    | cons b q =>
      obtain ⟨w, vs, rfl, k1, k2⟩ := hs.cons
      obtain ⟨h1, h2⟩ := Bool.and_eq_true_iff.mp (show (sy_lv (sy_su s a) b && sy_lst (r.map (sy_su s)) q) = true from h)
      exact ⟨sy_lv_ok h1 k1, ih h2 k2⟩
theorem sy_llo_ok {m : List (Nat × SyV)} {ls : AmL} (hm : sy_ls pv m ls) : ∀ {l : List (Nat × SyV)}, sy_llo (l.map (fun p => (p.1, sy_su s p.2))) m = true → sy_ls (sy_pv pv s) l ls := by
  intro l
  induction l with
  | nil => intro _ i a h; cases h
  | cons p l ih =>
    intro h i a hi
    obtain ⟨h1, h2⟩ := Bool.and_eq_true_iff.mp (show ((match sy_lk m p.1 with
      | some b => sy_lv (sy_su s p.2) b
      | none => false) && sy_llo (l.map (fun p => (p.1, sy_su s p.2))) m) = true from h)
    unfold sy_lk at hi
    cases hb : Nat.beq p.1 i with
    | true =>
      rw [hb] at hi
      have e : p.2 = a := Option.some.inj hi
      split at h1
      · rename_i b hb2
        obtain ⟨w, w1, w2⟩ := hm _ _ hb2
        refine ⟨w, by rw [← am_beq hb]; exact w1, ?_⟩
        rw [← e]
        exact sy_lv_ok h1 w2
      · cases h1
    | false =>
      rw [hb] at hi
      exact ih h2 i a hi
theorem sy_lF_ok {rest : List MsF} : ∀ {r q : List SyF} {fs : List MsF}, sy_lF s r q = true → sy_Fs pv rest q fs → sy_Fs (sy_pv pv s) rest r fs := by
  intro r
  induction r with
  | nil =>
    intro q fs h hs
    cases q with
    | nil => exact hs
    | cons D q => cases h
  | cons F r ih =>
    intro q fs h hs
    cases q with
    | nil => cases h
    | cons D q =>
      obtain ⟨f, qq, rfl, ⟨g1, g2, g3, g4⟩, k2⟩ := hs
      obtain ⟨h1, h2⟩ := Bool.and_eq_true_iff.mp (show (Nat.beq F.1 D.1 && (Nat.beq F.2.1 D.2.1 && (sy_llo (F.2.2.1.map (fun p => (p.1, sy_su s p.2))) D.2.2.1 && (sy_lst (F.2.2.2.map (sy_su s)) D.2.2.2 && sy_lF s r q)))) = true from h)
      obtain ⟨h2, h3⟩ := Bool.and_eq_true_iff.mp h2
      obtain ⟨h3, h4⟩ := Bool.and_eq_true_iff.mp h3
      obtain ⟨h4, h5⟩ := Bool.and_eq_true_iff.mp h4
      exact ⟨f, qq, rfl, ⟨by rw [g1, am_beq h1], by rw [g2, am_beq h2], sy_llo_ok g3 h3, sy_lst_ok h4 g4⟩, ih h5 k2⟩
theorem sy_ce_at {e : SyE} (h : sy_ce pv e S) {k : Nat} (hk : sy_n pv e.1 = k) : S.1 k = (e.2.1, e.2.2.1) ∧ (k < S.2.2.1 ∨ am_EXT ≤ k) ∧ (∀ p ∈ e.2.2.2.2, ∃ i : Nat, sy_n pv p.1 = i ∧ sy_v pv p.2 (S.2.1 k i)) ∧ (∀ d, e.2.2.2.1 = some d → ∀ j : Nat, (∀ p ∈ e.2.2.2.2, sy_n pv p.1 ≠ j) → sy_v pv d (S.2.1 k j)) := by
  obtain ⟨k', g1, g2⟩ := h
  have e : k' = k := by omega
  subst e
  exact g2
theorem sy_lE_ok (hg : sy_g pv G) (hM : sy_me pv M S) {e : SyE} (h : sy_lE G M (sy_suE s e) = true) : sy_ce (sy_pv pv s) e S := by
  unfold sy_lE at h
  obtain ⟨h1, h2⟩ := Bool.and_eq_true_iff.mp h
  obtain ⟨h2, h3⟩ := Bool.and_eq_true_iff.mp h2
  obtain ⟨b, b1, b2⟩ := List.any_eq_true.mp h1
  obtain ⟨b2, b3⟩ := Bool.and_eq_true_iff.mp b2
  obtain ⟨b3, b4⟩ := Bool.and_eq_true_iff.mp b3
  obtain ⟨k, g1, g2, g3, -⟩ := hM b b1
  have hb9 : sy_n pv b.1 = sy_n pv (sy_su s e.1) := sy_same_n (pv := pv) b2
  have hk : sy_n pv (sy_su s e.1) = k := hb9.symm.trans g1
  refine ⟨k, by rw [← sy_su_n]; exact hk, by rw [g2, am_beq b3, am_beq b4]; rfl, g3, fun p hp => ?_, fun d hd j hj => ?_⟩
  · rw [← sy_su_n]
    rcases Bool.or_eq_true_iff.mp (List.all_eq_true.mp h2 (sy_su s p.1, sy_su s p.2) (List.mem_map.mpr ⟨p, hp, rfl⟩)) with z | z
    · obtain ⟨c, c1, c2⟩ := List.any_eq_true.mp z
      obtain ⟨c2, c3⟩ := Bool.and_eq_true_iff.mp c2
      obtain ⟨q, q1, q2⟩ := List.any_eq_true.mp c3
      obtain ⟨q2, q3⟩ := Bool.and_eq_true_iff.mp q2
      have hc : sy_n pv c.1 = sy_n pv (sy_su s e.1) := sy_same_n (pv := pv) c2
      obtain ⟨-, -, r3, -⟩ := sy_ce_at (hM c c1) (k := k) (by omega)
      obtain ⟨i, i1, i2⟩ := r3 q q1
      have hq : sy_n pv q.1 = sy_n pv (sy_su s p.1) := sy_same_n (pv := pv) q2
      exact ⟨i, by omega, sy_lv_ok q3 i2⟩
    · obtain ⟨z0, z⟩ := Bool.and_eq_true_iff.mp z
      obtain ⟨l1, l2⟩ := sy_rg_ok hg z0
      obtain ⟨c, c1, c2⟩ := List.any_eq_true.mp z
      obtain ⟨c2, c3⟩ := Bool.and_eq_true_iff.mp c2
      split at c3
      · rename_i v hv
        have hc : sy_n pv c.1 = sy_n pv (sy_su s e.1) := sy_same_n (pv := pv) c2
        have l1 : 0 ≤ sy_n pv (sy_su s p.1) := l1
        refine ⟨(sy_n pv (sy_su s p.1)).toNat, by omega, sy_lv_ok c3 ?_⟩
        exact sy_re_ok hg (hM c c1) (i := sy_su s p.1) (k := k) (by omega) (j := (sy_n pv (sy_su s p.1)).toNat) (by omega) hv
      · cases c3
  · have h3 : (match (e.2.2.2.1.map (sy_su s)) with
      | none => true
      | some d => sy_ldf M (sy_su s e.1) d (e.2.2.2.2.map (fun p => (sy_su s p.1, sy_su s p.2)))) = true := h3
    rw [hd] at h3
    have h3 : sy_ldf M (sy_su s e.1) (sy_su s d) (e.2.2.2.2.map (fun p => (sy_su s p.1, sy_su s p.2))) = true := h3
    obtain ⟨c, c1, c2⟩ := List.any_eq_true.mp h3
    obtain ⟨c2, c3⟩ := Bool.and_eq_true_iff.mp c2
    obtain ⟨c3, c4⟩ := Bool.and_eq_true_iff.mp c3
    have hc : sy_n pv c.1 = sy_n pv (sy_su s e.1) := sy_same_n (pv := pv) c2
    obtain ⟨-, -, r3, r4⟩ := sy_ce_at (hM c c1) (k := k) (by omega)
    split at c3
    · rename_i d2 hd2
      by_cases hq : ∃ q ∈ c.2.2.2.2, sy_n pv q.1 = j
      · obtain ⟨q, q1, q2⟩ := hq
        rcases Bool.or_eq_true_iff.mp (List.all_eq_true.mp c4 q q1) with z | z
        · obtain ⟨i, i1, i2⟩ := r3 q q1
          have e9 : i = j := by omega
          subst e9
          exact sy_lv_ok z i2
        · obtain ⟨p, p1, p2⟩ := List.any_eq_true.mp z
          obtain ⟨p0, p3, rfl⟩ := List.mem_map.mp p1
          have hs0 : sy_n pv (sy_su s p0.1) = sy_n pv q.1 := sy_same_n (pv := pv) p2
          rw [sy_su_n] at hs0
          exact absurd (hs0.trans q2) (hj p0 p3)
      · exact sy_lv_ok c3 (r4 d2 hd2 j (fun q q1 q2 => hq ⟨q, q1, q2⟩))
    · cases c3
theorem sy_pv0 : sy_pv pv [] = pv := by
  funext p
  unfold sy_pv sy_sp sy_n
  simp
theorem sy_lE0_ok (hg : sy_g pv G) (hM : sy_me pv M S) {e : SyE} (h : sy_lE G M (sy_suE [] e) = true) : sy_ce pv e S := by
  have := sy_lE_ok hg hM h
  rw [sy_pv0] at this
  exact this
theorem sy_lM_ok (hg : sy_g pv G) (hM : sy_me pv M S) {A : SyM} (h : sy_lM G (A.map (sy_suE s)) M = true) : sy_me (sy_pv pv s) A S := fun e he =>
  sy_lE_ok hg hM (List.all_eq_true.mp h _ (List.mem_map.mpr ⟨e, he, rfl⟩))
theorem sy_ge_ok (hg : sy_g pv G) (h : sy_ge G a b = true) : sy_n pv b ≤ sy_n pv a := by
  unfold sy_ge at h
  split at h
  · rename_i r hr
    rcases sy_cmp_ok hg hr with ⟨rfl, -⟩ | ⟨-, k⟩ | ⟨-, k⟩
    · cases h
    · omega
    · omega
  · cases h
theorem sy_su_i (h : sy_lv (sy_su s a) b = true) (hk : a.1 = 0) {x : Int} (hx : x = sy_n pv b) : x = sy_n (sy_pv pv s) a := by
  unfold sy_lv at h
  rw [sy_su_k, hk] at h
  obtain ⟨h1, h2⟩ := Bool.and_eq_true_iff.mp (show (Nat.beq 0 b.1 && (Nat.blt 0 9 && (Nat.beq 0 5 || sy_same (sy_su s a) b))) = true from h)
  rcases Bool.or_eq_true_iff.mp (Bool.and_eq_true_iff.mp h2).2 with z | z
  · cases z
  · rw [hx, ← sy_same_n (pv := pv) z, sy_su_n]
theorem sy_lM0_ok (hg : sy_g pv G) (hM : sy_me pv M S) {A : SyM} (h : sy_lM G (A.map (sy_suE [])) M = true) : sy_me pv A S := by
  have := sy_lM_ok hg hM h
  rw [sy_pv0] at this
  exact this
/-- an edge -/
theorem sx_ed_ok {X : List Nat} {O : SyO} {stops : List (Nat × Nat × Nat)} {f : Nat} {L : SyW} {A T : SyC} {c : MsC} {rest : List MsF} (h : sx_ed G X O stops f L s A T = true) (hl : A.2.2.2.2.2 = []) (ht : T.2.2.1.1 = 0 ∧ T.2.2.2.1.1 = 0 ∧ T.2.2.2.2.1.1 = 0) (hg : sy_g pv G) (hO : sy_Or pv (sy_x X c) O) (hr : rest.length ≤ sy_lim O) (hX : ∀ a ∈ X, a < c.2.2.2.1) (hA : sy_T pv rest A c) (hk : sy_K0 c) :
    ∃ c', rch c c' ∧ sy_T (sy_pv pv s) rest T c' ∧ sy_K0 c' ∧ sy_ch pv L c c' ∧ (∀ a ∈ X, ∀ k, c'.2.2.1 a k = c.2.2.1 a k) ∧ ∀ a k : Nat, am_EXT ≤ a → c'.2.2.1 a k = c.2.2.1 a k := by
  unfold sx_ed at h
  split at h
  · rename_i C hgo
    have hC : sy_C pv (sy_x X c) rest A c := ⟨hA.1, hA.2.1, hA.2.2, fun a k _ _ => rfl, fun a _ => rfl, fun a ha => ⟨hX a ha, fun _ => rfl⟩, hk.1, Nat.le_refl _, hk.2, fun a k _ => rfl⟩
    obtain ⟨c', k1, k2, k3, ⟨k4, k5, k6⟩, k7, k8, k9, k10, k11, k12, k13⟩ := sx_go_ok (X := sy_x X c) hg hO hr hgo hC
    unfold sx_le at h
    obtain ⟨h1, h⟩ := Bool.and_eq_true_iff.mp h
    obtain ⟨h2, h⟩ := Bool.and_eq_true_iff.mp h
    obtain ⟨h3, h⟩ := Bool.and_eq_true_iff.mp h
    obtain ⟨h4, h⟩ := Bool.and_eq_true_iff.mp h
    obtain ⟨h5, h6⟩ := Bool.and_eq_true_iff.mp h
    refine ⟨c', k1, ⟨sy_lF_ok h1 k2, sy_lM_ok hg k3 h2, sy_su_i h3 ht.1 k4, sy_su_i h4 ht.2.1 k5, sy_su_i h5 ht.2.2 k6⟩, ⟨k10, by rw [k13 _ _ (Nat.le_add_right _ _)]; exact k12⟩, ⟨fun a k ha hq => ?_, k8, k11⟩, fun a ha k => (k9 a ha).2 k, k13⟩
    refine k7 a k ha fun p hp => ?_
    intro hpk
    obtain ⟨q, q1, q2⟩ := List.any_eq_true.mp (List.all_eq_true.mp h6 p hp)
    obtain ⟨q2, q3⟩ := Bool.and_eq_true_iff.mp q2
    obtain ⟨q3, q4⟩ := Bool.and_eq_true_iff.mp q3
    have e1 := sy_same_n (pv := pv) q2
    have e2 := sy_ge_ok hg q3
    have e3 := sy_ge_ok hg q4
    exact hq q q1 ⟨by omega, by omega, by omega⟩
  · cases h
end SyE
/-! A description speaks of few parameters alone. -/
def sy_b (m : List Nat) (a : SyV) : Bool := Nat.blt a.1 9 && (Nat.beq a.2.2.2 0 || m.any (fun q => Nat.beq q a.2.2.1))
def sy_bE (m : List Nat) (e : SyE) : Bool := sy_b m e.1 && ((match e.2.2.2.1 with
  | some d => sy_b m d
  | none => true) && e.2.2.2.2.all (fun p => sy_b m p.1 && sy_b m p.2))
def sy_bF (m : List Nat) (F : SyF) : Bool := F.2.2.1.all (fun p => sy_b m p.2) && F.2.2.2.all (sy_b m)
def sy_bC (m : List Nat) (T : SyC) : Bool := T.1.all (sy_bF m) && (T.2.1.all (sy_bE m) && (sy_b m T.2.2.1 && (sy_b m T.2.2.2.1 && sy_b m T.2.2.2.2.1)))
section SyB2
variable {pv pw : Nat → Int} {m : List Nat} {a : SyV} {v : Value} {S : AmS}
theorem sy_b_n (hp : ∀ p ∈ m, pv p = pw p) (h : sy_b m a = true) : sy_n pv a = sy_n pw a := by
  rcases Bool.or_eq_true_iff.mp (Bool.and_eq_true_iff.mp h).2 with z | z
  · rw [sy_n0 (am_beq z), sy_n0 (am_beq z)]
  · obtain ⟨q, q1, q2⟩ := List.any_eq_true.mp z
    unfold sy_n
    rw [← am_beq q2, hp _ q1]
theorem sy_b_v (hp : ∀ p ∈ m, pv p = pw p) (h : sy_b m a = true) (hv : sy_v pv a v) : sy_v pw a v := sy_v_eq rfl (am_blt (Bool.and_eq_true_iff.mp h).1) (sy_b_n hp h).symm hv
theorem sy_b_e (hp : ∀ p ∈ m, pv p = pw p) {e : SyE} (h : sy_bE m e = true) (he : sy_ce pv e S) : sy_ce pw e S := by
  obtain ⟨k, g1, g2, g3, g4, g5⟩ := he
  obtain ⟨h1, h2⟩ := Bool.and_eq_true_iff.mp h
  obtain ⟨h2, h3⟩ := Bool.and_eq_true_iff.mp h2
  refine ⟨k, by rw [← sy_b_n hp h1]; exact g1, g2, g3, fun p hp2 => ?_, fun d hd j hj => ?_⟩
  · obtain ⟨k1, k2⟩ := Bool.and_eq_true_iff.mp (List.all_eq_true.mp h3 p hp2)
    obtain ⟨i, i1, i2⟩ := g4 p hp2
    exact ⟨i, by rw [← sy_b_n hp k1]; exact i1, sy_b_v hp k2 i2⟩
  · rw [hd] at h2
    refine sy_b_v hp h2 (g5 d hd j fun p hp2 => ?_)
    obtain ⟨k1, k2⟩ := Bool.and_eq_true_iff.mp (List.all_eq_true.mp h3 p hp2)
    rw [sy_b_n hp k1]
    exact hj p hp2
theorem sy_b_m (hp : ∀ p ∈ m, pv p = pw p) {M : SyM} (h : M.all (sy_bE m) = true) (hM : sy_me pv M S) : sy_me pw M S := fun e he => sy_b_e hp (List.all_eq_true.mp h e he) (hM e he)
theorem sy_b_st (hp : ∀ p ∈ m, pv p = pw p) : ∀ {l : List SyV} {st : List Value}, l.all (sy_b m) = true → sy_st pv l st → sy_st pw l st := by
  intro l
  induction l with
  | nil => intro st _ h; rw [h.nil]; exact trivial
  | cons a r ih =>
    intro st h hs
    obtain ⟨w, q, rfl, k1, k2⟩ := hs.cons
    obtain ⟨h1, h2⟩ := Bool.and_eq_true_iff.mp (show (sy_b m a && r.all (sy_b m)) = true from h)
    exact ⟨sy_b_v hp h1 k1, ih h2 k2⟩
theorem sy_lk_mem : ∀ {l : List (Nat × SyV)} {i : Nat}, sy_lk l i = some a → (i, a) ∈ l := by
  intro l
  induction l with
  | nil => intro i h; cases h
  | cons q l ih =>
    intro i h
    unfold sy_lk at h
    cases hb : Nat.beq q.1 i with
    | true =>
      rw [hb] at h
      have e : q.2 = a := Option.some.inj h
      rw [← am_beq hb, ← e]
      exact List.mem_cons_self
    | false =>
      rw [hb] at h
      exact List.mem_cons_of_mem _ (ih h)
theorem sy_b_F (hp : ∀ p ∈ m, pv p = pw p) {rest : List MsF} : ∀ {r : List SyF} {fs : List MsF}, r.all (sy_bF m) = true → sy_Fs pv rest r fs → sy_Fs pw rest r fs := by
  intro r
  induction r with
  | nil => intro fs _ h; exact h
  | cons F r ih =>
    intro fs h hs
    obtain ⟨f, q, rfl, ⟨g1, g2, g3, g4⟩, k2⟩ := hs
    obtain ⟨h1, h2⟩ := Bool.and_eq_true_iff.mp (show (sy_bF m F && r.all (sy_bF m)) = true from h)
    obtain ⟨h3, h4⟩ := Bool.and_eq_true_iff.mp h1
    refine ⟨f, q, rfl, ⟨g1, g2, fun i a hi => ?_, sy_b_st hp h4 g4⟩, ih h2 k2⟩
    obtain ⟨w, w1, w2⟩ := g3 i a hi
    exact ⟨w, w1, sy_b_v hp (List.all_eq_true.mp h3 _ (sy_lk_mem hi)) w2⟩
theorem sy_b_T {rest : List MsF} {T : SyC} {c : MsC} (hp : ∀ p ∈ m, pv p = pw p) (h : sy_bC m T = true) (hT : sy_T pv rest T c) : sy_T pw rest T c := by
  obtain ⟨h1, h⟩ := Bool.and_eq_true_iff.mp h
  obtain ⟨h2, h⟩ := Bool.and_eq_true_iff.mp h
  obtain ⟨h3, h⟩ := Bool.and_eq_true_iff.mp h
  obtain ⟨h4, h5⟩ := Bool.and_eq_true_iff.mp h
  obtain ⟨t1, t2, t3, t4, t5⟩ := hT
  exact ⟨sy_b_F hp h1 t1, sy_b_m hp h2 t2, by rw [← sy_b_n hp h3]; exact t3, by rw [← sy_b_n hp h4]; exact t4, by rw [← sy_b_n hp h5]; exact t5⟩
end SyB2
/-- parameters by a list -/
def sy_ev (l : List Int) : Nat → Int := fun p => l.getD p 0
