/-! PHASE F: what never changes in a search. -/
/-- the facts, with p(z, z) and q(z, z) behind them -/
def fx (n : Nat) (fa : Fa) (j : Nat) : Int × Int × Int := if j < n then fa j else if j = n then (112, 122, 122) else (113, 122, 122)
def uq (n : Nat) (fa : Fa) (j : Nat) : Int := (fx n fa j).2.1
def vq (n : Nat) (fa : Fa) (j : Nat) : Int := (fx n fa j).2.2
/-- has it X in its second place? -/
def xq (n : Nat) (fa : Fa) (j : Nat) : Bool := decide (vq n fa j = 88)
/-- is there one? -/
def hq (i : Int) : Bool := decide (i ≠ -1)
theorem hq_n (i : Nat) : hq (i : Int) = true := decide_eq_true (by omega)
theorem hq_0 : hq (-1) = false := rfl
/-- the nodes of facts -/
def nx_ok (n : Nat) (fa : Fa) (k : Nat) (M : Nat → Nat → Value) : Prop := ∀ j, j < k → ∀ i, i < 20 → tv M (ndc i).1 ((ndc i).2.1 * j + (ndc i).2.2) (nd_k i) (nd_z (fx n fa j) i)
/-- what is told of a fact's clause: x 0 a letter in its second place, 1 X, 2 nothing is told of that -/
def cDv (lu lv name x : Nat) (i : Nat) : SyV := [(0, 5, 0, 0), (0, cond (Nat.beq x 1) 3 5, 0, 0), (0, 5, 0, 0), (0, 0, 0, 0), (0, 0, 0, 0), (0, 2, 0, 0), (1, 0, lu, 1), cond (Nat.beq x 1) (1, 0, 0, 0) (1, 0, lv, 1), (1, (name : Int), 0, 0), (0, -1, 0, 0), (0, -1, 0, 0), (0, 0, 0, 0), (0, 1, 0, 0), (0, -1, 0, 0), (0, -1, 0, 0), (0, 0, 0, 0), (0, 1, 0, 0), (0, 0, 0, 0), (0, 2, 0, 0), (0, -1, 0, 0)].getD i (0, 0, 0, 0)
def cDe (a t z p lu lv name x : Nat) (is : List Nat) : SyE := ((4, (a : Int), 0, 0), t, z, none, is.map fun i => ((0, ((ndc i).2.2 : Int), p, (ndc i).2.1), cDv lu lv name x i))
def cD (p lu lv name x : Nat) : SyM := [cDe 4 61 2624 p lu lv name x (cond (Nat.beq x 2) [0, 2] [0, 1, 2]), cDe 5 61 2624 p lu lv name x [3, 4, 5], cDe 6 62 2624 p lu lv name x (cond (Nat.beq x 2) [6, 8] [6, 7, 8]), cDe 7 61 2624 p lu lv name x [9, 10, 11], cDe 8 61 2624 p lu lv name x [12, 13, 14], cDe 9 61 2624 p lu lv name x [15, 16, 17], cDe 11 61 41 p lu lv name x [18], cDe 12 61 41 p lu lv name x [19], ((4, 10, 0, 0), 61, 41, none, [((0, 0, p, 1), (0, 0, p, 1))])]
/-- a place of the row of uses -/
def uD (a : SyV) : SyM := [((4, 15, 0, 0), 61, 41, none, [(a, (2, 0, 0, 0))])]
/-- places that are told more, ahead of the others -/
def jnp (a : SyV) : SyM → List (SyV × SyV)
  | [] => []
  | d :: l => cond (sy_same d.1 a) (d.2.2.2.2 ++ jnp a l) (jnp a l)
def jn (D M : SyM) : SyM := M.map fun e => (e.1, e.2.1, e.2.2.1, e.2.2.2.1, jnp e.1 D ++ e.2.2.2.2)
/-- a description with its tops -/
def cf (fr : List SyF) (M : SyM) : SyC := (fr, M, (0, 0, 20, 1), (0, 0, 21, 1), (0, 0, 22, 1), [])
/-- what is told of the memory -/
def mm (pv : Nat → Int) (D : SyM) (S : AmS) : Prop := sy_me pv D S ∧ ((S.2.2.1 : Int) = pv 20 ∧ (S.2.2.2.1 : Int) = pv 21 ∧ (S.2.2.2.2 : Int) = pv 22)
section FpS
variable {pv pw : Nat → Int} {M D : SyM} {S : AmS} {rest : List MsF} {c c' : MsC} {L : Nat} {xs : Nat → Int32} {n : Nat} {fa : Fa}
theorem cf_T {fr : List SyF} (h1 : sy_Fs pv rest fr c.1) (h2 : mm pv D c.2) : sy_T pv rest (cf fr D) c := ⟨h1, h2.1, by
  obtain ⟨a1, a2, a3⟩ := h2.2
  refine ⟨?_, ?_, ?_⟩
  · show (c.2.2.2.1 : Int) = 0 + ((1 : Nat) : Int) * pv 20; omega
  · show (c.2.2.2.2.1 : Int) = 0 + ((1 : Nat) : Int) * pv 21; omega
  · show (c.2.2.2.2.2 : Int) = 0 + ((1 : Nat) : Int) * pv 22; omega⟩
theorem cf_of {fr : List SyF} (h : sy_T pv rest (cf fr D) c) : sy_Fs pv rest fr c.1 ∧ mm pv D c.2 := by
  obtain ⟨h1, h2, h3, h4, h5⟩ := h
  have h3 : (c.2.2.2.1 : Int) = 0 + ((1 : Nat) : Int) * pv 20 := h3
  have h4 : (c.2.2.2.2.1 : Int) = 0 + ((1 : Nat) : Int) * pv 21 := h4
  have h5 : (c.2.2.2.2.2 : Int) = 0 + ((1 : Nat) : Int) * pv 22 := h5
  exact ⟨h1, h2, by omega, by omega, by omega⟩
theorem mm.b (hM : mm pv D S) {m : List Nat} (hp : ∀ p ∈ m, pv p = pw p) (h0 : pv 20 = pw 20 ∧ pv 21 = pw 21 ∧ pv 22 = pw 22) (h : D.all (sy_bE m) = true) : mm pw D S := ⟨sy_b_m hp h hM.1, by
  rw [← h0.1, ← h0.2.1, ← h0.2.2]
  exact hM.2⟩
theorem sy_Fs_app {B : List SyF} : ∀ {A : List SyF} {fs : List MsF}, sy_Fs pv rest (A ++ B) fs → ∃ mid, sy_Fs pv rest B mid ∧ sy_Fs pv mid A fs := by
  intro A
  induction A with
  | nil => intro fs h; exact ⟨fs, h, rfl⟩
  | cons F A ih =>
    intro fs h
    obtain ⟨f, q, e, h1, h2⟩ := h
    obtain ⟨mid, h3, h4⟩ := ih h2
    exact ⟨mid, h3, f, q, e, h1, h4⟩
theorem sy_Fs_join {B : List SyF} {mid : List MsF} (h : sy_Fs pv rest B mid) : ∀ {A : List SyF} {fs : List MsF}, sy_Fs pv mid A fs → sy_Fs pv rest (A ++ B) fs := by
  intro A
  induction A with
  | nil =>
    intro fs h2
    have e : fs = mid := h2
    rw [e]
    exact h
  | cons F A ih =>
    intro fs h2
    obtain ⟨f, q, e, h3, h4⟩ := h2
    exact ⟨f, q, e, h3, ih h4⟩
theorem jnp_mem {a : SyV} {p : SyV × SyV} : ∀ {D : SyM}, p ∈ jnp a D → ∃ d ∈ D, sy_same d.1 a = true ∧ p ∈ d.2.2.2.2 := by
  intro D
  induction D with
  | nil => intro h; cases h
  | cons d l ih =>
    intro h
    unfold jnp at h
    cases hb : sy_same d.1 a with
    | true =>
      rw [hb] at h
      rcases List.mem_append.mp h with h | h
      · exact ⟨d, List.mem_cons_self, hb, h⟩
      · obtain ⟨e, e1, e2⟩ := ih h
        exact ⟨e, List.mem_cons_of_mem _ e1, e2⟩
    | false =>
      rw [hb] at h
      obtain ⟨e, e1, e2⟩ := ih h
      exact ⟨e, List.mem_cons_of_mem _ e1, e2⟩
theorem sy_me.jn (hM : sy_me pv M S) (hD : sy_me pv D S) : sy_me pv (jn D M) S := by
  intro e he
  obtain ⟨e0, h0, rfl⟩ := List.mem_map.mp he
  obtain ⟨k, g1, g2, g3, g4, g5⟩ := hM e0 h0
  refine ⟨k, g1, g2, g3, fun p hp => ?_, fun d hd j hj => g5 d hd j fun p hp => hj p (List.mem_append.mpr (Or.inr hp))⟩
  rcases List.mem_append.mp hp with h | h
  · obtain ⟨d, d1, d2, d3⟩ := jnp_mem h
    have hs : sy_n pv d.1 = sy_n pv e0.1 := sy_same_n (pv := pv) d2
    exact (sy_ce_at (hD d d1) (k := k) (by omega)).2.2.1 p d3
  · exact g4 p h
/-- two calls of which the answers are known -/
theorem so_c {X : SyX} {q : Nat × List SyV × SyV} {O : SyO} (h1 : sy_Or pv X [q]) (h2 : sy_Or pv X O) : sy_Or pv X (q :: O) := fun r hr => (List.mem_cons.mp hr).elim (fun e => h1 r (by rw [e]; exact List.mem_cons_self)) (h2 r)
/-- clauseFor's answer is none or a clause of the letter -/
theorem cfor_c {l : Nat → Int} {a : Int} : ∀ (d m : Nat), cfor l a d m = -1 ∨ ∃ i : Nat, cfor l a d m = i ∧ m ≤ i ∧ i < m + d ∧ l i = a := by
  intro d
  induction d with
  | zero => intro m; exact Or.inl rfl
  | succ d ih =>
    intro m
    unfold cfor
    by_cases h : l m = a
    · rw [if_pos h]
      exact Or.inr ⟨m, rfl, Nat.le_refl _, by omega, h⟩
    · rw [if_neg h]
      rcases ih (m + 1) with e | ⟨i, e, e1, e2, e3⟩
      · exact Or.inl e
      · exact Or.inr ⟨i, e, by omega, by omega, e3⟩
end FpS
def qv (n b : Int) : Nat → Int := sy_ev [n, 0, 0, 0, 0, 0, 0, 0, 0, 0, 0, 0, 0, 0, 0, 0, 0, 0, 0, 0, 0, 0, 0, b]
/-- the cells whose kinds are to be told -/
def fp_I : SyM := [((4, 4, 0, 0), 61, 2624, none, []), ((4, 5, 0, 0), 61, 2624, none, []), ((4, 6, 0, 0), 62, 2624, none, []), ((4, 7, 0, 0), 61, 2624, none, []), ((4, 8, 0, 0), 61, 2624, none, []), ((4, 9, 0, 0), 61, 2624, none, []), ((4, 10, 0, 0), 61, 41, none, []), ((4, 11, 0, 0), 61, 41, none, []), ((4, 12, 0, 0), 61, 41, none, []), ((4, 15, 0, 0), 61, 41, none, []), ((4, 2, 0, 0), 64, 2000, none, []), ((4, 17, 0, 0), 62, 8, none, []), ((4, 19, 0, 0), 61, 2001, none, []), ((4, 20, 0, 0), 61, 2001, none, []), ((4, 21, 0, 0), 62, 2001, none, []), ((4, 13, 0, 0), 61, 41, none, []), ((4, 14, 0, 0), 61, 41, none, []), ((4, 23, 0, 0), 61, 1002, none, []), ((4, 24, 0, 0), 61, 1002, none, []), ((4, 25, 0, 0), 61, 8016, none, []), ((4, 26, 0, 0), 61, 8016, none, []), ((4, 34, 0, 0), 61, 8008, none, []), ((4, 35, 0, 0), 61, 8008, none, []), ((4, 36, 0, 0), 61, 8008, none, []), ((4, 37, 0, 0), 61, 1000, none, []), ((4, 38, 0, 0), 61, 1000, none, []), ((4, 39, 0, 0), 61, 1000, none, []), ((4, 40, 0, 0), 61, 1000, none, []), ((4, 52, 0, 0), 61, 1500, none, [])]
/-- the cells that no search writes -/
def gg_X : List Nat := [3, 4, 5, 6, 7, 8, 9, 10, 11, 12]
/-- what a search writes -/
def gg_W : SyW := [((4, 23, 0, 0), (0, (-1), 0, 0), (0, 70000, 0, 0)), ((4, 25, 0, 0), (0, (-1), 0, 0), (0, 70000, 0, 0)), ((4, 26, 0, 0), (0, (-1), 0, 0), (0, 70000, 0, 0)), ((4, 28, 0, 0), (0, (-1), 0, 0), (0, 70000, 0, 0)), ((4, 29, 0, 0), (0, (-1), 0, 0), (0, 70000, 0, 0)), ((4, 31, 0, 0), (0, (-1), 0, 0), (0, 70000, 0, 0)), ((4, 32, 0, 0), (0, (-1), 0, 0), (0, 70000, 0, 0)), ((4, 34, 0, 0), (0, (-1), 0, 0), (0, 70000, 0, 0)), ((4, 35, 0, 0), (0, (-1), 0, 0), (0, 70000, 0, 0)), ((4, 36, 0, 0), (0, (-1), 0, 0), (0, 70000, 0, 0)), ((4, 37, 0, 0), (0, (-1), 0, 0), (0, 70000, 0, 0)), ((4, 38, 0, 0), (0, (-1), 0, 0), (0, 70000, 0, 0)), ((4, 39, 0, 0), (0, (-1), 0, 0), (0, 70000, 0, 0)), ((4, 40, 0, 0), (0, (-1), 0, 0), (0, 70000, 0, 0)), ((4, 22, 0, 0), (0, 5, 0, 0), (0, 8, 0, 0)), ((4, 27, 0, 0), (0, 2, 0, 0), (0, 2, 0, 0)), ((4, 30, 0, 0), (0, 3, 0, 0), (0, 3, 0, 0)), ((4, 33, 0, 0), (0, 7, 0, 0), (0, 18, 0, 0))]
/-- what a search writes, with the row of uses -/
def fp_W : SyW := gg_W ++ [((4, 15, 0, 0), sy_i 0, sy_i 0)]
/-- all that never changes: the start's own; what is told of this question's nodes (Q) and of other cells (R); the nodes of facts; the heads; the row of uses holds ints -/
def PN (Q R : SyM) (b : Int) (L : Nat) (xs : Nat → Int32) (n : Nat) (fa : Fa) (c : MsC) : Prop := sy_E0 L xs c ∧ (sy_me (qv n b) Q c.2 ∧ sy_me (qv n b) R c.2) ∧ nx_ok n fa (n + 2) c.2.2.1 ∧ cl_ok (lt n fa) (n + 6) c.2.2.1 ∧ (∀ i, i < n + 6 → ∃ x : Int32, c.2.2.1 15 i = .int x) ∧ 54 ≤ c.2.2.2.1 ∧ ((2 ≤ n ∧ n ≤ 11) ∧ ∀ j, j < n → fa_ok (fa j)) ∧ sy_me (sy_ev [0, 0, ((n + 6 : Nat) : Int)]) gd_H.2.1 c.2 ∧ sy_me (fun _ => 0) fp_I c.2 ∧ sy_ko fp_W R = true
/-! Are two descriptions the same? -/
def qe_v (a b : SyV) : Bool := Nat.beq a.1 b.1 && (sy_eq a.2.1 b.2.1 && (Nat.beq a.2.2.1 b.2.2.1 && Nat.beq a.2.2.2 b.2.2.2))
def qe_p : List (SyV × SyV) → List (SyV × SyV) → Bool
  | [], [] => true
  | a :: l, b :: m => qe_v a.1 b.1 && (qe_v a.2 b.2 && qe_p l m)
  | _, _ => false
def qe_d : Option SyV → Option SyV → Bool
  | none, none => true
  | some a, some b => qe_v a b
  | _, _ => false
def qe_M : SyM → SyM → Bool
  | [], [] => true
  | a :: l, b :: m => qe_v a.1 b.1 && (Nat.beq a.2.1 b.2.1 && (Nat.beq a.2.2.1 b.2.2.1 && (qe_d a.2.2.2.1 b.2.2.2.1 && (qe_p a.2.2.2.2 b.2.2.2.2 && qe_M l m))))
  | _, _ => false
theorem qe_v_ok {a b : SyV} (h : qe_v a b = true) : a = b := by
  obtain ⟨h1, h⟩ := Bool.and_eq_true_iff.mp h
  obtain ⟨h2, h⟩ := Bool.and_eq_true_iff.mp h
  obtain ⟨h3, h4⟩ := Bool.and_eq_true_iff.mp h
  exact Prod.ext (am_beq h1) (Prod.ext (sy_eq_t h2) (Prod.ext (am_beq h3) (am_beq h4)))
theorem qe_p_ok : ∀ {l m : List (SyV × SyV)}, qe_p l m = true → l = m := by
  intro l
  induction l with
  | nil =>
    intro m h
    cases m with
    | nil => rfl
    | cons b m => cases h
  | cons a l ih =>
    intro m h
    cases m with
    | nil => cases h
    | cons b m =>
      obtain ⟨h1, h⟩ := Bool.and_eq_true_iff.mp h
      obtain ⟨h2, h3⟩ := Bool.and_eq_true_iff.mp h
      rw [ih h3, show a = b from Prod.ext (qe_v_ok h1) (qe_v_ok h2)]
theorem qe_d_ok {a b : Option SyV} (h : qe_d a b = true) : a = b := by
  cases a with
  | none =>
    cases b with
    | none => rfl
    | some b => cases h
  | some a =>
    cases b with
    | none => cases h
    | some b => rw [qe_v_ok h]
theorem qe_M_ok : ∀ {l m : SyM}, qe_M l m = true → l = m := by
  intro l
  induction l with
  | nil =>
    intro m h
    cases m with
    | nil => rfl
    | cons b m => cases h
  | cons a l ih =>
    intro m h
    cases m with
    | nil => cases h
    | cons b m =>
      obtain ⟨h1, h⟩ := Bool.and_eq_true_iff.mp h
      obtain ⟨h2, h⟩ := Bool.and_eq_true_iff.mp h
      obtain ⟨h3, h⟩ := Bool.and_eq_true_iff.mp h
      obtain ⟨h4, h⟩ := Bool.and_eq_true_iff.mp h
      obtain ⟨h5, h6⟩ := Bool.and_eq_true_iff.mp h
      rw [ih h6, show a = b from Prod.ext (qe_v_ok h1) (Prod.ext (am_beq h2) (Prod.ext (am_beq h3) (Prod.ext (qe_d_ok h4) (qe_p_ok h5))))]
section FqS
variable {pv pw : Nat → Int} {Q R : SyM} {b : Int} {S : AmS} {rest : List MsF} {c c' : MsC} {L : Nat} {xs : Nat → Int32} {n : Nat} {fa : Fa}
theorem PN.E (h : PN Q R b L xs n fa c) : sy_E0 L xs c := h.1
theorem PN.nx (h : PN Q R b L xs n fa c) : nx_ok n fa (n + 2) c.2.2.1 := h.2.2.1
theorem PN.cl (h : PN Q R b L xs n fa c) : cl_ok (lt n fa) (n + 6) c.2.2.1 := h.2.2.2.1
theorem PN.us (h : PN Q R b L xs n fa c) : ∀ i, i < n + 6 → ∃ x : Int32, c.2.2.1 15 i = .int x := h.2.2.2.2.1
theorem PN.top (h : PN Q R b L xs n fa c) : 54 ≤ c.2.2.2.1 := h.2.2.2.2.2.1
theorem PN.nr (h : PN Q R b L xs n fa c) : 2 ≤ n ∧ n ≤ 11 := h.2.2.2.2.2.2.1.1
theorem PN.f (h : PN Q R b L xs n fa c) : ∀ j, j < n → fa_ok (fa j) := h.2.2.2.2.2.2.1.2
theorem PN.h (h : PN Q R b L xs n fa c) : sy_me (sy_ev [0, 0, ((n + 6 : Nat) : Int)]) gd_H.2.1 c.2 := h.2.2.2.2.2.2.2.1
theorem PN.i (h : PN Q R b L xs n fa c) : sy_me (fun _ => 0) fp_I c.2 := h.2.2.2.2.2.2.2.2.1
theorem PN.ko (h : PN Q R b L xs n fa c) : sy_ko fp_W R = true := h.2.2.2.2.2.2.2.2.2
/-- more is told of other cells -/
theorem PN.add {X : SyM} (h : PN Q R b L xs n fa c) (hX : sy_me (qv n b) X c.2) (hk : sy_ko fp_W X = true) : PN Q (R ++ X) b L xs n fa c := ⟨h.1, ⟨h.2.1.1, h.2.1.2.app hX⟩, h.2.2.1, h.2.2.2.1, h.2.2.2.2.1, h.2.2.2.2.2.1, h.2.2.2.2.2.2.1, h.h, h.i, by
  have h1 := h.ko
  unfold sy_ko at h1 hk ⊢
  rw [List.all_append, h1, hk]
  rfl⟩
theorem PN.sub {X : SyM} (h : PN Q (R ++ X) b L xs n fa c) : PN Q R b L xs n fa c ∧ sy_me (qv n b) X c.2 := ⟨⟨h.1, ⟨h.2.1.1, fun e he => h.2.1.2 e (List.mem_append.mpr (Or.inl he))⟩, h.2.2.1, h.2.2.2.1, h.2.2.2.2.1, h.2.2.2.2.2.1, h.2.2.2.2.2.2.1, h.h, h.i, by
  have h1 := h.ko
  unfold sy_ko at h1 ⊢
  rw [List.all_append] at h1
  exact (Bool.and_eq_true_iff.mp h1).1⟩, fun e he => h.2.1.2 e (List.mem_append.mpr (Or.inr he))⟩
theorem fx_r (hf : ∀ j, j < n → fa_ok (fa j)) (j : Nat) : (97 ≤ uq n fa j ∧ uq n fa j ≤ 122) ∧ (vq n fa j ≠ 88 → 97 ≤ vq n fa j ∧ vq n fa j ≤ 122) := by
  unfold uq vq fx
  by_cases h : j < n
  · rw [if_pos h]
    obtain ⟨-, h2, h3⟩ := hf j h
    omega
  · rw [if_neg h]
    by_cases h2 : j = n
    · rw [if_pos h2]; exact ⟨⟨by decide, by decide⟩, fun _ => ⟨by decide, by decide⟩⟩
    · rw [if_neg h2]; exact ⟨⟨by decide, by decide⟩, fun _ => ⟨by decide, by decide⟩⟩
theorem PN.u (h : PN Q R b L xs n fa c) (j : Nat) : 97 ≤ uq n fa j ∧ uq n fa j ≤ 122 := (fx_r h.f j).1
theorem PN.v (h : PN Q R b L xs n fa c) (j : Nat) (hx : xq n fa j = false) : 97 ≤ vq n fa j ∧ vq n fa j ≤ 122 := (fx_r h.f j).2 (of_decide_eq_false hx)
theorem fx_lt (j : Nat) (hj : j < n + 2) : (fx n fa j).1 = lt n fa j := by
  unfold fx lt
  by_cases h : j < n
  · rw [if_pos h, if_pos h]
  · rw [if_neg h, if_neg h]
    by_cases h2 : j = n
    · subst h2
      rw [if_pos rfl, Nat.sub_self]; rfl
    · have : j = n + 1 := by omega
      subst this
      rw [if_neg h2, show n + 1 - n = 1 by omega]; rfl
/-- the letter p or q: one of the facts, or of the two behind them -/
theorem lt_pq (j : Nat) (h : lt n fa j = 112 ∨ lt n fa j = 113) (hj : j < n + 6) : j < n + 2 := by
  apply Classical.byContradiction
  intro hn
  obtain ⟨d, rfl⟩ : ∃ d, j = n + d := ⟨j - n, by omega⟩
  unfold lt at h
  rw [if_neg (by omega), show n + d - n = d by omega] at h
  match d, (show 2 ≤ d ∧ d < 6 by omega) with
  | 2, _ => exact absurd h (by decide)
  | 3, _ => exact absurd h (by decide)
  | 4, _ => exact absurd h (by decide)
  | 5, _ => exact absurd h (by decide)
  | 0, h => omega
  | 1, h => omega
  | d + 6, h => omega
theorem cDv_ok {lu lv name x j : Nat} (hu : pv lu = uq n fa j) (hx : x = 2 ∨ (x = 1 ∧ xq n fa j = true) ∨ (x = 0 ∧ xq n fa j = false ∧ pv lv = vq n fa j)) (hn : (fx n fa j).1 = name) (i : Nat) (hi : i < 20) (h2 : x = 2 → i ≠ 1 ∧ i ≠ 7) : (cDv lu lv name x i).1 = nd_k i ∧ nd_k i < 9 ∧ sy_n pv (cDv lu lv name x i) = nd_z (fx n fa j) i := by
  have hu : 0 + ((1 : Nat) : Int) * pv lu = (fx n fa j).2.1 := by
    rw [hu]; unfold uq; omega
  match i, hi with
  | 0, _ => exact ⟨rfl, by decide, sy_n0 rfl⟩
  | 1, _ =>
    rcases hx with rfl | ⟨rfl, h⟩ | ⟨rfl, h, -⟩
    · exact absurd rfl (h2 rfl).1
    · exact ⟨rfl, by decide, (sy_n0 rfl).trans (if_pos (of_decide_eq_true h)).symm⟩
    · exact ⟨rfl, by decide, (sy_n0 rfl).trans (if_neg (of_decide_eq_false h)).symm⟩
  | 2, _ => exact ⟨rfl, by decide, sy_n0 rfl⟩
  | 3, _ => exact ⟨rfl, by decide, sy_n0 rfl⟩
  | 4, _ => exact ⟨rfl, by decide, sy_n0 rfl⟩
  | 5, _ => exact ⟨rfl, by decide, sy_n0 rfl⟩
  | 6, _ => exact ⟨rfl, by decide, hu⟩
  | 7, _ =>
    rcases hx with rfl | ⟨rfl, h⟩ | ⟨rfl, h, hv⟩
    · exact absurd rfl (h2 rfl).2
    · exact ⟨rfl, by decide, (sy_n0 rfl).trans (if_pos (of_decide_eq_true h)).symm⟩
    · refine ⟨rfl, by decide, Eq.trans ?_ (if_neg (of_decide_eq_false h)).symm⟩
      show 0 + ((1 : Nat) : Int) * pv lv = _
      rw [hv]; unfold vq; omega
  | 8, _ => exact ⟨rfl, by decide, (sy_n0 rfl).trans hn.symm⟩
  | 9, _ => exact ⟨rfl, by decide, sy_n0 rfl⟩
  | 10, _ => exact ⟨rfl, by decide, sy_n0 rfl⟩
  | 11, _ => exact ⟨rfl, by decide, sy_n0 rfl⟩
  | 12, _ => exact ⟨rfl, by decide, sy_n0 rfl⟩
  | 13, _ => exact ⟨rfl, by decide, sy_n0 rfl⟩
  | 14, _ => exact ⟨rfl, by decide, sy_n0 rfl⟩
  | 15, _ => exact ⟨rfl, by decide, sy_n0 rfl⟩
  | 16, _ => exact ⟨rfl, by decide, sy_n0 rfl⟩
  | 17, _ => exact ⟨rfl, by decide, sy_n0 rfl⟩
  | 18, _ => exact ⟨rfl, by decide, sy_n0 rfl⟩
  | 19, _ => exact ⟨rfl, by decide, sy_n0 rfl⟩
  | i + 20, h => exact absurd h (by omega)
theorem cDe_ok {a t z p lu lv name x j : Nat} {is : List Nat} (hI : c.2.1 a = (t, z) ∧ (a < c.2.2.2.1 ∨ am_EXT ≤ a)) (hn : nx_ok n fa (n + 2) c.2.2.1) (hj : j < n + 2) (hp : pv p = j) (hu : pv lu = uq n fa j) (hx : x = 2 ∨ (x = 1 ∧ xq n fa j = true) ∨ (x = 0 ∧ xq n fa j = false ∧ pv lv = vq n fa j)) (hl : (fx n fa j).1 = name) (his : is.all (fun i => Nat.blt i 20 && (Nat.beq (ndc i).1 a && (!(Nat.beq x 2) || (!(Nat.beq i 1) && !(Nat.beq i 7))))) = true) : sy_ce pv (cDe a t z p lu lv name x is) c.2 := by
  refine sy_ce_of (k := a) (sy_n0 rfl) hI.1 hI.2 rfl fun q hq => ?_
  obtain ⟨i, hi, rfl⟩ := List.mem_map.mp hq
  obtain ⟨h1, h2⟩ := Bool.and_eq_true_iff.mp (List.all_eq_true.mp his i hi)
  obtain ⟨h2, h3⟩ := Bool.and_eq_true_iff.mp h2
  have hk := cDv_ok (lv := lv) hu hx hl i (am_blt h1) (fun hx2 => by
    subst hx2
    rcases Bool.or_eq_true_iff.mp h3 with z | z
    · cases z
    · obtain ⟨z1, z2⟩ := Bool.and_eq_true_iff.mp z
      exact ⟨(fun e => by subst e; cases z1), (fun e => by subst e; cases z2)⟩)
  refine ⟨(ndc i).2.1 * j + (ndc i).2.2, ?_, ?_⟩
  · show ((ndc i).2.2 : Int) + (((ndc i).2.1 : Nat) : Int) * pv p = _
    rw [hp]
    omega
  · have := hn j hj i (am_blt h1)
    rw [am_beq h2] at this
    exact this.to hk.1 hk.2.1 hk.2.2
theorem PN.cd (hP : PN Q R b L xs n fa c) {p lu lv name x : Nat} (j : Nat) (hj : j < n + 2) (hp : pv p = j) (hu : pv lu = uq n fa j) (hx : x = 2 ∨ (x = 1 ∧ xq n fa j = true) ∨ (x = 0 ∧ xq n fa j = false ∧ pv lv = vq n fa j)) (hn : lt n fa j = name) : sy_me pv (cD p lu lv name x) c.2 := by
  have hl : (fx n fa j).1 = name := by rw [fx_lt j hj]; exact hn
  have I : ∀ q t z : Nat, fp_I.any (fun e => decide (e.1 = (4, (q : Int), 0, 0)) && (Nat.beq e.2.1 t && Nat.beq e.2.2.1 z)) = true → c.2.1 q = (t, z) ∧ (q < c.2.2.2.1 ∨ am_EXT ≤ q) := fun q t z h => hP.i.inst q t z h
  have hx3 : x = 0 ∨ x = 1 ∨ x = 2 := by rcases hx with h | ⟨h, -⟩ | ⟨h, -⟩ <;> omega
  intro e he
  unfold cD at he
  rcases List.mem_cons.mp he with rfl | he
  · exact cDe_ok (I 4 61 2624 (by decide +kernel)) hP.nx hj hp hu hx hl (by rcases hx3 with rfl | rfl | rfl <;> decide)
  rcases List.mem_cons.mp he with rfl | he
  · exact cDe_ok (I 5 61 2624 (by decide +kernel)) hP.nx hj hp hu hx hl (by rcases hx3 with rfl | rfl | rfl <;> decide)
  rcases List.mem_cons.mp he with rfl | he
  · exact cDe_ok (I 6 62 2624 (by decide +kernel)) hP.nx hj hp hu hx hl (by rcases hx3 with rfl | rfl | rfl <;> decide)
  rcases List.mem_cons.mp he with rfl | he
  · exact cDe_ok (I 7 61 2624 (by decide +kernel)) hP.nx hj hp hu hx hl (by rcases hx3 with rfl | rfl | rfl <;> decide)
  rcases List.mem_cons.mp he with rfl | he
  · exact cDe_ok (I 8 61 2624 (by decide +kernel)) hP.nx hj hp hu hx hl (by rcases hx3 with rfl | rfl | rfl <;> decide)
  rcases List.mem_cons.mp he with rfl | he
  · exact cDe_ok (I 9 61 2624 (by decide +kernel)) hP.nx hj hp hu hx hl (by rcases hx3 with rfl | rfl | rfl <;> decide)
  rcases List.mem_cons.mp he with rfl | he
  · exact cDe_ok (I 11 61 41 (by decide +kernel)) hP.nx hj hp hu hx hl (by rcases hx3 with rfl | rfl | rfl <;> decide)
  rcases List.mem_cons.mp he with rfl | he
  · exact cDe_ok (I 12 61 41 (by decide +kernel)) hP.nx hj hp hu hx hl (by rcases hx3 with rfl | rfl | rfl <;> decide)
  rcases List.mem_cons.mp he with rfl | he
  · refine sy_ce_of (k := 10) (sy_n0 rfl) (I 10 61 41 (by decide +kernel)).1 (I 10 61 41 (by decide +kernel)).2 rfl fun q hq => ?_
    rcases List.mem_cons.mp hq with rfl | hq
    · have e : sy_n pv ((0, 0, p, 1) : SyV) = j := by
        show 0 + ((1 : Nat) : Int) * pv p = _
        omega
      exact ⟨j, e, (hP.cl j (by omega)).1.to rfl (by decide) e⟩
    · cases hq
  · cases he
theorem PN.ud (hP : PN Q R b L xs n fa c) {a : SyV} (j : Nat) (hj : j < n + 6) (ha : sy_n pv a = j) : sy_me pv (uD a) c.2 := by
  intro e he
  rcases List.mem_cons.mp he with rfl | he
  · have I := hP.i.inst 15 61 41 (by decide +kernel)
    refine sy_ce_of (k := 15) (sy_n0 rfl) I.1 I.2 rfl fun q hq => ?_
    rcases List.mem_cons.mp hq with rfl | hq
    · exact ⟨j, ha, hP.us j hj⟩
    · cases hq
  · cases he
theorem sy_me.nil : sy_me pv [] S := fun _ h => (nomatch h)
/-- a call of clauseFor -/
theorem PN.co (hP : PN Q R b L xs n fa c) {a : Int} (N f : Nat) {vN vf vr : SyV} (ha : 112 ≤ a ∧ a ≤ 115) (hnn : nn_ok c.2.2.1 N a) (hN : N ≤ 2623) (hf : f ≤ n + 6) (kN : vN.1 = 0 ∧ sy_n pv vN = N) (kf : vf.1 = 0 ∧ sy_n pv vf = f) (kr : vr.1 = 0 ∧ sy_n pv vr = cfor (lt n fa) a (n + 6 - f) f) : sy_Or pv (sy_x gg_X c) [(32, [(4, 3, 0, 0), vN, vf], vr)] :=
  cf_Or (by decide) (fun q hq => by
    have : gg_X.all (fun q => Nat.blt q 54) = true := by decide +kernel
    have := am_blt (List.all_eq_true.mp this q hq)
    have := hP.top
    omega) hN (by have := hP.nr; omega) hf ha (fun m hm => lt_r hP.f hm) kN kf kr hP.E hP.h hP.cl hnn
theorem PN.xt (hP : PN Q R b L xs n fa c) : ∀ q ∈ gg_X, q < c.2.2.2.1 := fun q hq => by
  have : gg_X.all (fun q => Nat.blt q 54) = true := by decide +kernel
  have := am_blt (List.all_eq_true.mp this q hq)
  have := hP.top
  omega
/-- cells that are not written -/
theorem sy_ko_q {W : SyW} {q : Nat} (h : sy_ko W [((4, (q : Int), 0, 0), 0, 0, some (2, 0, 0, 0), [])] = true) (hc : sy_ch pv W c c') (hq : q < c.2.2.2.1) (j : Nat) : c'.2.2.1 q j = c.2.2.1 q j := by
  have h := List.all_eq_true.mp h _ List.mem_cons_self
  rcases Bool.or_eq_true_iff.mp h with h | h
  · cases h
  · obtain ⟨-, h⟩ := Bool.and_eq_true_iff.mp h
    refine hc.1 q j (Or.inl hq) fun w hw z => ?_
    obtain ⟨k1, k2⟩ := Bool.and_eq_true_iff.mp (List.all_eq_true.mp h w hw)
    have z1 := z.1
    rw [sy_n0 (am_beq k1)] at z1
    cases hb : sy_eq w.1.2.1 ((4, (q : Int), 0, 0) : SyV).2.1 with
    | true =>
      rw [hb] at k2; cases k2
    | false => exact sy_eq_f hb z1
theorem fp_W1 {a : SyV} {D : SyM} (h : sy_ko fp_W D = true) : sy_ko (gg_W ++ [((4, 15, 0, 0), a, a)]) D = true := by
  rw [← h]
  unfold sy_ko fp_W
  congr 1
theorem fp_W0 {D : SyM} (h : sy_ko fp_W D = true) : sy_ko gg_W D = true := by
  refine List.all_eq_true.mpr fun e he => ?_
  have h := List.all_eq_true.mp h e he
  rcases Bool.or_eq_true_iff.mp h with h | h
  · exact Bool.or_eq_true_iff.mpr (Or.inl h)
  · obtain ⟨h1, h2⟩ := Bool.and_eq_true_iff.mp h
    refine Bool.or_eq_true_iff.mpr (Or.inr (Bool.and_eq_true_iff.mpr ⟨h1, List.all_eq_true.mpr fun w hw => List.all_eq_true.mp h2 w (List.mem_append.mpr (Or.inl hw))⟩))
/-- nothing of all this changes in an edge -/
theorem PN.st {W : SyW} (hP : PN Q R b L xs n fa c) (hko : sy_ko fp_W Q = true) (hE : sy_E0 L xs c') (hc : sy_ch pv W c c') (hW : ∀ {D : SyM}, sy_ko fp_W D = true → sy_ko W D = true) (hu : ∀ i, i < n + 6 → ∃ x : Int32, c'.2.2.1 15 i = .int x) : PN Q R b L xs n fa c' := by
  have hM : ∀ q : Nat, sy_ko fp_W [((4, (q : Int), 0, 0), 0, 0, some (2, 0, 0, 0), [])] = true → q < 54 → ∀ j, c'.2.2.1 q j = c.2.2.1 q j := fun q h h54 j => sy_ko_q (hW h) hc (by have := hP.top; omega) j
  have hM9 : ∀ q j : Nat, 4 ≤ q → q ≤ 12 → c'.2.2.1 q j = c.2.2.1 q j := fun q j h1 h2 => by
    have hq : q = 4 ∨ q = 5 ∨ q = 6 ∨ q = 7 ∨ q = 8 ∨ q = 9 ∨ q = 10 ∨ q = 11 ∨ q = 12 := by omega
    rcases hq with rfl | rfl | rfl | rfl | rfl | rfl | rfl | rfl | rfl
    · exact hM 4 (by decide +kernel) (by omega) j
    · exact hM 5 (by decide +kernel) (by omega) j
    · exact hM 6 (by decide +kernel) (by omega) j
    · exact hM 7 (by decide +kernel) (by omega) j
    · exact hM 8 (by decide +kernel) (by omega) j
    · exact hM 9 (by decide +kernel) (by omega) j
    · exact hM 10 (by decide +kernel) (by omega) j
    · exact hM 11 (by decide +kernel) (by omega) j
    · exact hM 12 (by decide +kernel) (by omega) j
  refine ⟨hE, ⟨hP.2.1.1.ko hc (hW hko), hP.2.1.2.ko hc (hW hP.ko)⟩, fun j hj i hi => (hP.nx j hj i hi).eq (hM9 _ _ ?_ ?_), hP.cl.eq fun q j h => hM9 q j (by omega) (by omega), hu, Nat.le_trans hP.top hc.2.2, hP.2.2.2.2.2.2.1, hP.h.ko hc (hW (by decide +kernel)), hP.i.ko hc (hW (by decide +kernel)), hP.ko⟩
  · rcases ndc_r i (by omega) with h | h <;> omega
  · have h9 : (List.range 20).all (fun i => Nat.ble (ndc i).1 12) = true := by decide +kernel
    exact Nat.le_of_ble_eq_true (List.all_eq_true.mp h9 i (List.mem_range.mpr hi))
theorem PN.st0 (hP : PN Q R b L xs n fa c) (hko : sy_ko fp_W Q = true) (hE : sy_E0 L xs c') (hc : sy_ch pv gg_W c c') : PN Q R b L xs n fa c' := hP.st hko hE hc fp_W0 fun i hi => by
  rw [sy_ko_q (c := c) (q := 15) (by decide +kernel) hc (by have := hP.top; omega)]
  exact hP.us i hi
theorem PN.st1 {a a2 : SyV} (hP : PN Q R b L xs n fa c) (hko : sy_ko fp_W Q = true) (hE : sy_E0 L xs c') (hc : sy_ch pv (gg_W ++ [((4, 15, 0, 0), a, a)]) c c') (hu : sy_me pw (uD a2) c'.2) (ha : sy_n pw a2 = sy_n pv a) : PN Q R b L xs n fa c' := hP.st hko hE hc fp_W1 fun i hi => by
  by_cases hi2 : sy_n pv a = i
  · obtain ⟨-, -, g, -⟩ := sy_ce_at (hu _ List.mem_cons_self) (k := 15) (sy_n0 rfl)
    obtain ⟨k, k1, k2⟩ := g _ List.mem_cons_self
    have e : k = i := by
      dsimp only at k1
      omega
    rw [e] at k2
    exact k2
  · rw [hc.1 15 i (Or.inl (by have := hP.top; omega)) fun w hw z => ?_]
    · exact hP.us i hi
    · rcases List.mem_append.mp hw with hw | hw
      · have hk : sy_ko gg_W [((4, 15, 0, 0), 0, 0, some (2, 0, 0, 0), [])] = true := by decide +kernel
        have h := List.all_eq_true.mp hk _ List.mem_cons_self
        rcases Bool.or_eq_true_iff.mp h with h | h
        · cases h
        · obtain ⟨-, h⟩ := Bool.and_eq_true_iff.mp h
          obtain ⟨k1, k2⟩ := Bool.and_eq_true_iff.mp (List.all_eq_true.mp h w hw)
          have z1 := z.1
          rw [sy_n0 (am_beq k1)] at z1
          cases hb : sy_eq w.1.2.1 ((4, 15, 0, 0) : SyV).2.1 with
          | true => rw [hb] at k2; cases k2
          | false => exact sy_eq_f hb z1
      · rcases List.mem_cons.mp hw with rfl | hw
        · dsimp only at z
          omega
        · cases hw
/-- an edge of a search -/
theorem pe_go {D D' CL U : SyM} {fr fr' : List SyF} {G : SyG} {X : List Nat} {O : SyO} {stops : List (Nat × Nat × Nat)} {f : Nat} {W : SyW} {s : List (Nat × SyV)} {m : List Nat} {AM : SyM} {T : SyC} (hed : sx_ed G X O stops f W s (cf fr AM) T = true) (hA : qe_M AM (jn CL Q ++ (U ++ D)) = true) (hTT : T = cf fr' (U ++ D')) (hb : sy_bC m T = true) (hF : sy_Fs pv rest fr c.1) (hM : mm pv D c.2) (hP : PN Q R b L xs n fa c) (hq : Q.all (sy_bE [0, 23]) = true) (h0 : (n : Int) = pv 0 ∧ b = pv 23) (hcl : sy_me pv CL c.2) (hU : sy_me pv U c.2) (hg : sy_g pv G) (hO : sy_Or pv (sy_x X c) O) (hr : rest.length ≤ sy_lim O) (hX : ∀ a ∈ X, a < c.2.2.2.1) (hp : ∀ p ∈ m, sy_pv pv s p = pw p) :
    ∃ c', rch c c' ∧ sy_Fs pw rest fr' c'.1 ∧ mm pw D' c'.2 ∧ sy_me pw U c'.2 ∧ sy_E0 L xs c' ∧ sy_ch pv W c c' := by
  have hQ : sy_me pv Q c.2 := sy_b_m (m := [0, 23]) (by exact aa.mem ⟨h0.1, h0.2, trivial⟩) hq hP.2.1.1
  have hT : sy_T pv rest (cf fr AM) c := by
    rw [qe_M_ok hA]
    exact cf_T hF ⟨(hQ.jn hcl).app (hU.app hM.1), hM.2⟩
  obtain ⟨c', k1, k2, k3, k4, -⟩ := sy_go (pv := pv) (pw := pw) hed rfl (by rw [hTT]; exact ⟨rfl, rfl, rfl⟩) hb hp hg hO hr hX hT hP.E
  rw [hTT] at k2
  obtain ⟨q1, q2, q3⟩ := cf_of k2
  exact ⟨c', k1, q1, ⟨fun e he => q2 e (List.mem_append.mpr (Or.inr he)), q3⟩, fun e he => q2 e (List.mem_append.mpr (Or.inl he)), k3, k4⟩
end FqS
