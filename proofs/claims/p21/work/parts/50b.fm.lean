/-! PHASE F: what changes no memory; the model. -/
section FmS
variable {pv pw : Nat → Int} {Q R M D : SyM} {b : Int} {S S' : AmS} {rest : List MsF} {c c' : MsC} {L : Nat} {xs : Nat → Int32} {n : Nat} {fa : Fa}
theorem sy_me.sm (h : sy_me pv D S) (s3 : sy_sm S S') : sy_me pv D S' := fun e he => by
  obtain ⟨q, g1, g2, g3, g4, g5⟩ := h e he
  refine ⟨q, g1, by rw [(s3.1 q g3).1]; exact g2, by rw [s3.2]; exact g3, fun p hp => ?_, fun d hd j hj => ?_⟩
  · obtain ⟨i, i1, i2⟩ := g4 p hp
    exact ⟨i, i1, by rw [(s3.1 q g3).2 i]; exact i2⟩
  · rw [(s3.1 q g3).2 j]
    exact g5 d hd j hj
theorem mm.sm (h : mm pv D S) (s3 : sy_sm S S') : mm pv D S' := ⟨h.1.sm s3, by rw [s3.2]; exact h.2⟩
theorem PN.sm (h : PN Q R b L xs n fa c) (s3 : sy_sm c.2 c'.2) (hE : sy_E0 L xs c') : PN Q R b L xs n fa c' := by
  have hM : ∀ q j : Nat, q < 54 → c'.2.2.1 q j = c.2.2.1 q j := fun q j hq => (s3.1 q (Or.inl (by have := h.top; omega))).2 j
  have ht : c'.2.2.2.1 = c.2.2.2.1 := by rw [s3.2]
  refine ⟨hE, ⟨h.2.1.1.sm s3, h.2.1.2.sm s3⟩, fun j hj i hi => (h.nx j hj i hi).eq (hM _ _ ?_), h.cl.eq fun q j hq => hM q j (by omega), fun i hi => by rw [hM 15 i (by omega)]; exact h.us i hi, by rw [ht]; exact h.top, h.2.2.2.2.2.2.1, h.h.sm s3, h.i.sm s3, h.ko⟩
  rcases ndc_r i (by omega) with h | h <;> omega
theorem PN.mem (h : PN Q R b L xs n fa c) (e : c'.2 = c.2) : PN Q R b L xs n fa c' := by
  obtain ⟨f, S⟩ := c
  obtain ⟨f', S'⟩ := c'
  dsimp only at e
  subst e
  exact h
/-- an edge that changes no memory -/
theorem pe_fr {fr fr' : List SyF} {G : SyG} {stops : List (Nat × Nat × Nat)} {f : Nat} {s : List (Nat × SyV)} {m : List Nat} (hed : sx_ed G [] [] stops f [] s (cf fr D) (cf fr' []) = true) (hb : sy_bC m (cf fr' []) = true) (hF : sy_Fs pv rest fr c.1) (hM : mm pv D c.2) (hE : sy_E0 L xs c) (hg : sy_g pv G) (hr : rest.length ≤ 37) (ht : pw 20 = pv 20 ∧ pw 21 = pv 21 ∧ pw 22 = pv 22) (hp : ∀ p ∈ m, sy_pv pv s p = pw p) : ∃ c', rch c c' ∧ sy_Fs pw rest fr' c'.1 ∧ sy_sm c.2 c'.2 ∧ sy_E0 L xs c' := by
  obtain ⟨c', k1, k2, k3, k4, -⟩ := sy_go (pv := pv) (pw := pw) hed rfl ⟨rfl, rfl, rfl⟩ hb hp hg so_0 hr sx_0 (cf_T hF hM) hE
  obtain ⟨q1, -, q3⟩ := cf_of k2
  obtain ⟨a1, a2, a3⟩ := hM.2
  refine ⟨c', k1, q1, sy_sm.of k4 ?_ ?_ ?_, k3⟩
  · omega
  · omega
  · omega
/-- settle's end: it returns -/
theorem se_pop {ls : List (Nat × SyV)} {B : List SyF} {F : SyF} {mid : List MsF} (h : sy_Fs pv mid [(82, 50, ls, [])] c.1) (hm : sy_Fs pw rest (F :: B) mid) : ∃ c', rch c c' ∧ c'.1 = mid ∧ c'.2 = c.2 := by
  obtain ⟨f, q, e, ⟨g1, g2, g3, g4⟩, hq⟩ := h
  have hq : q = mid := hq
  obtain ⟨f', q', e', -, -⟩ := hm
  obtain ⟨fs, S⟩ := c
  obtain ⟨f1, f2, f3, f4⟩ := f
  dsimp only at e g1 g2 g4
  rw [g4.nil] at e
  subst g1
  subst g2
  rw [e, hq, e']
  refine ⟨(f' :: q', S), ?_, rfl, rfl⟩
  exact ms_end1 (o := (41, 0, 9, 0, [])) (v := none) rfl rfl rfl
end FmS
/-! The model. -/
def okq (n : Nat) (fa : Fa) (p q : Nat) : Bool := xq n fa p || decide (vq n fa p = uq n fa q)
theorem okq_t {n : Nat} {fa : Fa} {p q : Nat} (h : okq n fa p q = true) (hx : xq n fa p = false) : vq n fa p = uq n fa q := by
  unfold okq at h
  rw [hx] at h
  exact of_decide_eq_true h
theorem okq_f {n : Nat} {fa : Fa} {p q : Nat} (h : okq n fa p q = false) : xq n fa p = false ∧ vq n fa p ≠ uq n fa q := by
  unfold okq at h
  rcases hx : xq n fa p with _ | _
  · rw [hx] at h
    exact ⟨rfl, of_decide_eq_false h⟩
  · rw [hx] at h
    cases h
/-- a sum over the clauses of a letter -/
def sm (l : Nat → Int) (a : Int) (f : Nat → Nat) : Nat → Nat → Nat
  | 0, _ => 0
  | d + 1, m => (if l m = a then f m else 0) + sm l a f d (m + 1)
section SmS
variable {l : Nat → Int} {a : Int} {f : Nat → Nat}
theorem sm_s (d m : Nat) : sm l a f (d + 1) m = (if l m = a then f m else 0) + sm l a f d (m + 1) := rfl
theorem sm_none : ∀ {d m : Nat}, cfor l a d m = -1 → sm l a f d m = 0 := by
  intro d
  induction d with
  | zero => intro m _; rfl
  | succ d ih =>
    intro m h
    unfold cfor at h
    rw [sm_s]
    by_cases hl : l m = a
    · rw [if_pos hl] at h
      omega
    · rw [if_neg hl] at h
      rw [if_neg hl, ih h]
theorem sm_at : ∀ {d m i : Nat}, cfor l a d m = i → sm l a f d m = f i + sm l a f (m + d - (i + 1)) (i + 1) := by
  intro d
  induction d with
  | zero => intro m i h; have h : (-1 : Int) = i := h; omega
  | succ d ih =>
    intro m i h
    unfold cfor at h
    rw [sm_s]
    by_cases hl : l m = a
    · rw [if_pos hl] at h
      have e : m = i := by omega
      subst e
      rw [if_pos hl, show m + (d + 1) - (m + 1) = d by omega]
    · rw [if_neg hl] at h
      rw [if_neg hl, ih h, show m + 1 + d - (i + 1) = m + (d + 1) - (i + 1) by omega]
      omega
theorem sm_le {q : Nat} (hf : ∀ i, f i ≤ q) : ∀ (d m : Nat), sm l a f d m ≤ d * q := by
  intro d
  induction d with
  | zero => intro m; exact Nat.zero_le _
  | succ d ih =>
    intro m
    rw [sm_s]
    have h1 := ih (m + 1)
    have h2 : (if l m = a then f m else 0) ≤ q := by
      split
      · exact hf m
      · exact Nat.zero_le _
    rw [Nat.succ_mul]
    omega
end SmS
/-- from clause m on -/
def sk (n : Nat) (fa : Fa) (a : Int) (f : Nat → Nat) (m : Nat) : Nat := sm (lt n fa) a f (n + 6 - m) m
def nf (n : Nat) (fa : Fa) (a : Int) (m : Nat) : Int := cfor (lt n fa) a (n + 6 - m) m
section SkS
variable {n : Nat} {fa : Fa} {a : Int} {f : Nat → Nat} {m i : Nat}
theorem sk_none (h : nf n fa a m = -1) : sk n fa a f m = 0 := sm_none h
theorem sk_at (hm : m ≤ n + 6) (h : nf n fa a m = i) : sk n fa a f m = f i + sk n fa a f (i + 1) := by
  unfold sk
  rw [sm_at h, show m + (n + 6 - m) - (i + 1) = n + 6 - (i + 1) by omega]
/-- the next clause of p or q -/
theorem nf_c (ha : a = 112 ∨ a = 113) (m : Nat) (hm : m ≤ n + 6) : nf n fa a m = -1 ∨ ∃ i : Nat, nf n fa a m = i ∧ m ≤ i ∧ i < n + 2 ∧ lt n fa i = a := by
  rcases cfor_c (l := lt n fa) (a := a) (n + 6 - m) m with h | ⟨i, h1, h2, h3, h4⟩
  · exact Or.inl h
  · exact Or.inr ⟨i, h1, h2, lt_pq (n := n) (fa := fa) i (by omega) (by omega), h4⟩
theorem nf_0 (ha : a = 112 ∨ a = 113) : ∃ i : Nat, nf n fa a 0 = i ∧ i < n + 2 ∧ lt n fa i = a := by
  obtain ⟨i, h1, h2, h3⟩ := lt_first (n := n) (fa := fa) a (by omega) (by omega)
  exact ⟨i, h1, lt_pq (n := n) (fa := fa) i (by omega) h2, h3⟩
end SkS
/-- a number, if it holds -/
def b1 (b : Bool) : Nat := cond b 1 0
/-- solutions of the second rule -/
def c2 (n : Nat) (fa : Fa) (m : Nat) : Nat := sk n fa 112 (fun i => b1 (okq n fa i i)) m
/-- the face of a question: state, steps, solutions, no cuts -/
def qf (st : Int) : SyM := [((4, 33, 0, 0), 7, 19, none, [((0, 14, 0, 0), (0, st, 0, 0)), ((0, 16, 0, 0), (0, 0, 1, 1)), ((0, 17, 0, 0), (0, 0, 14, 1)), ((0, 18, 0, 0), (0, 0, 0, 0))])]
def face (st s so : Int) (S : AmS) : Prop := sy_me (sy_ev [0, s, 0, 0, 0, 0, 0, 0, 0, 0, 0, 0, 0, 0, so]) (qf st) S
/-- a step goes on in the loop -/
def fz_A : List SyF := [(81, 41, [(0, (4, 33, 0, 0)), (1, (0, 0, 3, 1)), (2, (0, 0, 4, 1)), (3, (0, 0, 2, 1))], [])]
def fz_T : List SyF := [(81, 15, [(0, (4, 33, 0, 0)), (1, (0, 0, 3, 1)), (2, (0, 0, 4, 1)), (3, (0, 0, 2, 1))], [])]
theorem fz : sx_ed ([(2, 0, 499)], []) [] [] [(0, 81, 15)] 10 [] [(2, (0, 1, 2, 1))] (cf fz_A []) (cf fz_T []) = true := by decide +kernel
theorem fz_m {c : MsC} {rest : List MsF} {L : Nat} {xs : Nat → Int32} {k mo be : Int} (hr : rest.length ≤ 17) (hE : sy_E0 L xs c) (hk : 0 ≤ k ∧ k ≤ 499) (hF : sy_Fs (sy_ev [0, 0, k, mo, be]) rest fz_A c.1) : ∃ c', rch c c' ∧ sy_Fs (sy_ev [0, 0, k + 1, mo, be]) rest fz_T c'.1 ∧ sy_sm c.2 c'.2 ∧ sy_E0 L xs c' := by
  have hF2 : sy_Fs (sy_ev [0, 0, k, mo, be, 0, 0, 0, 0, 0, 0, 0, 0, 0, 0, 0, 0, 0, 0, 0, (c.2.2.2.1 : Int), (c.2.2.2.2.1 : Int), (c.2.2.2.2.2 : Int)]) rest fz_A c.1 := sy_b_F (m := [2, 3, 4]) (by exact aa.mem ⟨rfl, rfl, rfl, trivial⟩) (by decide +kernel) hF
  obtain ⟨c', r1, f1, s1, e1⟩ := pe_fr (pw := sy_ev [0, 0, k + 1, mo, be, 0, 0, 0, 0, 0, 0, 0, 0, 0, 0, 0, 0, 0, 0, 0, (c.2.2.2.1 : Int), (c.2.2.2.2.1 : Int), (c.2.2.2.2.2 : Int)]) (m := [2, 3, 4, 20, 21, 22]) fz (by decide +kernel) hF2 ⟨sy_me.nil, rfl, rfl, rfl⟩ hE (sg_b (show (0 : Int) ≤ k by omega) (show k ≤ 499 by omega) sg_0) (Nat.le_trans hr (by decide)) ⟨rfl, rfl, rfl⟩ (sp_c (sp_a rfl (by show 1 + ((1 : Nat) : Int) * k = k + 1; omega)) (sp_c (sp_i rfl rfl) (sp_c (sp_i rfl rfl) (sp_c (sp_i rfl rfl) (sp_c (sp_i rfl rfl) (sp_c (sp_i rfl rfl) sp_0))))))
  exact ⟨c', r1, sy_b_F (m := [2, 3, 4]) (by exact aa.mem ⟨rfl, rfl, rfl, trivial⟩) (by decide +kernel) f1, s1, e1⟩
/-- at least 1 -/
def m1 (x : Nat) : Nat := cond (Nat.beq x 0) 1 x
theorem m1_0 {x : Nat} (h : x = 0) : m1 x = 1 := by rw [h]; rfl
theorem m1_p {x : Nat} (h : 0 < x) : m1 x = x := by
  cases x with
  | zero => omega
  | succ k => rfl
theorem m1_le {x q : Nat} (h : x ≤ q) (h1 : 1 ≤ q) : m1 x ≤ q := by
  cases x with
  | zero => exact h1
  | succ k => exact h
theorem m1_1 (x : Nat) : 1 ≤ m1 x := by
  cases x with
  | zero => exact Nat.le_refl _
  | succ k => exact Nat.succ_le_succ (Nat.zero_le _)
/-- steps of the second rule -/
def tl (n : Nat) (fa : Fa) : Nat := 1 + m1 (c2 n fa 0)
theorem c2_none {n : Nat} {fa : Fa} {m : Nat} (h : nf n fa 112 m = -1) : c2 n fa m = 0 := sk_none h
theorem c2_at {n : Nat} {fa : Fa} {m i : Nat} (hm : m ≤ n + 6) (h : nf n fa 112 m = i) : c2 n fa m = b1 (okq n fa i i) + c2 n fa (i + 1) := sk_at (f := fun i => b1 (okq n fa i i)) hm h
section RuS
variable {l : Nat → Int} {a : Int} {n : Nat} {fa : Fa}
theorem cfor_at : ∀ (d m i : Nat), m ≤ i → i < m + d → l i = a → (∀ j, m ≤ j → j < i → l j ≠ a) → cfor l a d m = (i : Nat) := by
  intro d
  induction d with
  | zero => intro m i h1 h2; omega
  | succ d ih =>
    intro m i h1 h2 h3 h4
    unfold cfor
    by_cases e : m = i
    · subst e
      rw [if_pos h3]
    · rw [if_neg (h4 m (Nat.le_refl _) (by omega))]
      exact ih (m + 1) i (by omega) (by omega) h3 fun j g1 g2 => h4 j (by omega) g2
theorem cfor_no : ∀ (d m : Nat), (∀ j, m ≤ j → j < m + d → l j ≠ a) → cfor l a d m = -1 := by
  intro d
  induction d with
  | zero => intro m _; rfl
  | succ d ih =>
    intro m h
    unfold cfor
    rw [if_neg (h m (Nat.le_refl _) (by omega))]
    exact ih (m + 1) fun j g1 g2 => h j (by omega) (by omega)
theorem rule_first (hf : ∀ j, j < n → fa_ok (fa j)) (C L3 : Nat) (h1 : ([112, 113, 114, 114, 115, 115] : List Int).getD C 0 = L3) (h2 : (List.range C).all (fun d => decide (([112, 113, 114, 114, 115, 115] : List Int).getD d 0 ≠ L3)) = true) (h3 : C < 6 ∧ 113 < L3) : cfor (lt n fa) L3 (n + 6 - 0) 0 = ((n + C : Nat) : Int) := by
  refine cfor_at (n + 6 - 0) 0 (n + C) (by omega) (by omega) (lt_at C _ h1) fun j _ hj => ?_
  by_cases h : j < n
  · obtain ⟨h4, -⟩ := hf j h
    unfold lt
    rw [if_pos h]
    omega
  · obtain ⟨d, rfl⟩ : ∃ d, j = n + d := ⟨j - n, by omega⟩
    rw [lt_at (n := n) (fa := fa) d _ rfl]
    exact of_decide_eq_true (List.all_eq_true.mp h2 d (List.mem_range.mpr (by omega)))
theorem rule_here (C L3 : Nat) (h1 : ([112, 113, 114, 114, 115, 115] : List Int).getD C 0 = L3) (h3 : C < 6) : cfor (lt n fa) L3 (n + 6 - (n + C)) (n + C) = ((n + C : Nat) : Int) := cfor_at _ _ _ (Nat.le_refl _) (by omega) (lt_at C _ h1) fun j g1 g2 => by omega
theorem rule_none (C L3 : Nat) (h2 : (List.range 6).all (fun d => decide (d < C ∨ ([112, 113, 114, 114, 115, 115] : List Int).getD d 0 ≠ L3)) = true) : cfor (lt n fa) L3 (n + 6 - (n + C)) (n + C) = -1 := cfor_no _ _ fun j g1 g2 => by
  obtain ⟨d, rfl⟩ : ∃ d, j = n + d := ⟨j - n, by omega⟩
  rw [lt_at (n := n) (fa := fa) d _ rfl]
  have := of_decide_eq_true (List.all_eq_true.mp h2 d (List.mem_range.mpr (by omega)))
  omega
end RuS
