/-! SYMBOLS: a run in which some ints stand for any of a box. The ints 0x5A5A5A00 + k stand for the script's k-th (k < 6), or for any int at all (k = 255); a run over them is computed once for all scripts of the box. -/
def ay_m (x : Int32) : Bool := Nat.beq (x.toUInt32.toNat / 256) 5921370
def ay_k (x : Int32) : Nat := x.toUInt32.toNat % 256
def ay_ml (x : Int64) : Bool := Nat.beq (x.toUInt64.toNat / 256) 5921370
def ay_kl (x : Int64) : Nat := x.toUInt64.toNat % 256
def ay_sy (k : Nat) : Int32 := Int32.ofNat (1515870720 + k)
def ay_sl (k : Nat) : Int64 := Int64.ofNat (1515870720 + k)
def ay_r (xs : Nat → Int32) (x y : Int32) : Prop := (ay_m x = false → y = x) ∧ (ay_m x = true → ay_k x < 6 → y = xs (ay_k x))
def ay_rl (xs : Nat → Int32) (x y : Int64) : Prop := (ay_ml x = false → y = x) ∧ (ay_ml x = true → ay_kl x < 6 → y = (xs (ay_kl x)).toInt64)
def ay_v (xs : Nat → Int32) (v w : Value) : Prop := match v with
  | .int x => ∃ y, w = .int y ∧ ay_r xs x y
  | .long x => ∃ y, w = .long y ∧ ay_rl xs x y
  | _ => w = v
def ay_pl (v : Value) : Bool := match v with
  | .int x => !ay_m x
  | .long x => !ay_ml x
  | _ => true
/-- what (xs 0) & 31 is; the boxes -/
abbrev AyO : Type := Int32 × List (Int × Int)
def ay_H (O : AyO) (xs : Nat → Int32) : Prop := (xs 0 &&& 31) = O.1 ∧ ∀ k, k < 6 → (O.2.getD k (0, 0)).1 ≤ (xs k).toInt ∧ (xs k).toInt ≤ (O.2.getD k (0, 0)).2
def ay_iv (O : AyO) (b : Nat) (x c : Int32) : Option Bool := cond (Nat.blt (ay_k x) 6) (match b with
  | 0 => cond (decide ((O.2.getD (ay_k x) (0, 0)).2 < c.toInt) || decide (c.toInt < (O.2.getD (ay_k x) (0, 0)).1)) (some false) (cond (decide ((O.2.getD (ay_k x) (0, 0)).1 = c.toInt) && decide ((O.2.getD (ay_k x) (0, 0)).2 = c.toInt)) (some true) none)
  | 1 => cond (decide ((O.2.getD (ay_k x) (0, 0)).2 < c.toInt) || decide (c.toInt < (O.2.getD (ay_k x) (0, 0)).1)) (some true) (cond (decide ((O.2.getD (ay_k x) (0, 0)).1 = c.toInt) && decide ((O.2.getD (ay_k x) (0, 0)).2 = c.toInt)) (some false) none)
  | 2 => cond (decide ((O.2.getD (ay_k x) (0, 0)).2 < c.toInt)) (some true) (cond (decide (c.toInt ≤ (O.2.getD (ay_k x) (0, 0)).1)) (some false) none)
  | 3 => cond (decide (c.toInt ≤ (O.2.getD (ay_k x) (0, 0)).1)) (some true) (cond (decide ((O.2.getD (ay_k x) (0, 0)).2 < c.toInt)) (some false) none)
  | 4 => cond (decide (c.toInt < (O.2.getD (ay_k x) (0, 0)).1)) (some true) (cond (decide ((O.2.getD (ay_k x) (0, 0)).2 ≤ c.toInt)) (some false) none)
  | 5 => cond (decide ((O.2.getD (ay_k x) (0, 0)).2 ≤ c.toInt)) (some true) (cond (decide (c.toInt < (O.2.getD (ay_k x) (0, 0)).1)) (some false) none)
  | _ => none) none
theorem ay_iv_ok {O : AyO} {xs : Nat → Int32} (hO : ay_H O xs) {b : Nat} {x c y : Int32} {t : Bool} (h : ay_iv O b x c = some t) (hx : ay_m x = true) (hy : ay_r xs x y) : am_cn b y c = t := by
  unfold ay_iv at h
  obtain ⟨hk, h⟩ := am_cnd h
  replace hk := am_blt hk
  obtain ⟨h1, h2⟩ := hO.2 _ hk
  have ey := hy.2 hx hk
  rw [← ey] at h1 h2
  have inj : ∀ {p q : Int32}, p.toInt = q.toInt → p = q := fun h => Int32.toInt_inj.mp h
  split at h
  · cases hc : (decide ((O.2.getD (ay_k x) (0, 0)).2 < c.toInt) || decide (c.toInt < (O.2.getD (ay_k x) (0, 0)).1)) with
    | true =>
      rw [hc] at h
      cases h
      have hne : y ≠ c := fun e => by
        rw [e] at h1 h2
        rcases Bool.or_eq_true_iff.mp hc with z | z
        · have := of_decide_eq_true z; omega
        · have := of_decide_eq_true z; omega
      exact decide_eq_false hne
    | false =>
      rw [hc] at h
      obtain ⟨h3, h4⟩ := am_cnd h
      cases h4
      obtain ⟨g1, g2⟩ := Bool.and_eq_true_iff.mp h3
      have g1 := of_decide_eq_true g1
      have g2 := of_decide_eq_true g2
      exact decide_eq_true (inj (by omega))
  · cases hc : (decide ((O.2.getD (ay_k x) (0, 0)).2 < c.toInt) || decide (c.toInt < (O.2.getD (ay_k x) (0, 0)).1)) with
    | true =>
      rw [hc] at h
      cases h
      have hne : y ≠ c := fun e => by
        rw [e] at h1 h2
        rcases Bool.or_eq_true_iff.mp hc with z | z
        · have := of_decide_eq_true z; omega
        · have := of_decide_eq_true z; omega
      show (!decide (y = c)) = true
      rw [decide_eq_false hne]; rfl
    | false =>
      rw [hc] at h
      obtain ⟨h3, h4⟩ := am_cnd h
      cases h4
      obtain ⟨g1, g2⟩ := Bool.and_eq_true_iff.mp h3
      have g1 := of_decide_eq_true g1
      have g2 := of_decide_eq_true g2
      show (!decide (y = c)) = false
      rw [decide_eq_true (inj (by omega))]; rfl
  · cases hc : decide ((O.2.getD (ay_k x) (0, 0)).2 < c.toInt) with
    | true =>
      rw [hc] at h
      cases h
      have g := of_decide_eq_true hc
      exact decide_eq_true (Int32.lt_iff_toInt_lt.mpr (by omega))
    | false =>
      rw [hc] at h
      obtain ⟨h3, h4⟩ := am_cnd h
      cases h4
      have g := of_decide_eq_true h3
      exact decide_eq_false (fun q => by have := Int32.lt_iff_toInt_lt.mp q; omega)
  · cases hc : decide (c.toInt ≤ (O.2.getD (ay_k x) (0, 0)).1) with
    | true =>
      rw [hc] at h
      cases h
      have g := of_decide_eq_true hc
      exact decide_eq_true (Int32.le_iff_toInt_le.mpr (by omega))
    | false =>
      rw [hc] at h
      obtain ⟨h3, h4⟩ := am_cnd h
      cases h4
      have g := of_decide_eq_true h3
      exact decide_eq_false (fun q => by have := Int32.le_iff_toInt_le.mp q; omega)
  · cases hc : decide (c.toInt < (O.2.getD (ay_k x) (0, 0)).1) with
    | true =>
      rw [hc] at h
      cases h
      have g := of_decide_eq_true hc
      exact decide_eq_true (Int32.lt_iff_toInt_lt.mpr (by omega))
    | false =>
      rw [hc] at h
      obtain ⟨h3, h4⟩ := am_cnd h
      cases h4
      have g := of_decide_eq_true h3
      exact decide_eq_false (fun q => by have := Int32.lt_iff_toInt_lt.mp q; omega)
  · cases hc : decide ((O.2.getD (ay_k x) (0, 0)).2 ≤ c.toInt) with
    | true =>
      rw [hc] at h
      cases h
      have g := of_decide_eq_true hc
      exact decide_eq_true (Int32.le_iff_toInt_le.mpr (by omega))
    | false =>
      rw [hc] at h
      obtain ⟨h3, h4⟩ := am_cnd h
      cases h4
      have g := of_decide_eq_true h3
      exact decide_eq_false (fun q => by have := Int32.le_iff_toInt_le.mp q; omega)
  · cases h
/-! values, stacks, variables, cells that stand for each other -/
def ay_st (xs : Nat → Int32) : List Value → List Value → Prop
  | [], [] => True
  | v :: r, w :: q => ay_v xs v w ∧ ay_st xs r q
  | _, _ => False
def ay_ls (xs : Nat → Int32) : AmL → AmL → Prop
  | [], [] => True
  | p :: l, q :: l1 => (q.1 = p.1 ∧ ay_v xs p.2 q.2) ∧ ay_ls xs l l1
  | _, _ => False
def ay_S (xs : Nat → Int32) (S S1 : AmS) : Prop := S1.1 = S.1 ∧ S1.2.2 = S.2.2 ∧ ∀ k j, ay_v xs (S.2.1 k j) (S1.2.1 k j)
section AyV
variable {xs : Nat → Int32} {v w : Value} {st st1 r : List Value} {ls ls1 : AmL}
theorem ay_v.pl (h : ay_v xs v w) (hp : ay_pl v = true) : w = v := by
  cases v with
  | int x =>
    obtain ⟨y, rfl, h1, -⟩ := h
    have e : ay_m x = false := by
      cases e : ay_m x with
      | true => rw [show ay_pl (.int x) = !ay_m x from rfl, e] at hp; cases hp
      | false => rfl
    rw [h1 e]
  | long x =>
    obtain ⟨y, rfl, h1, -⟩ := h
    have e : ay_ml x = false := by
      cases e : ay_ml x with
      | true => rw [show ay_pl (.long x) = !ay_ml x from rfl, e] at hp; cases hp
      | false => rfl
    rw [h1 e]
  | _ => exact h
theorem ay_pv (hp : ay_pl v = true) : ay_v xs v v := by
  cases v with
  | int x =>
    have e : ay_m x = false := by
      cases e : ay_m x with
      | true => rw [show ay_pl (.int x) = !ay_m x from rfl, e] at hp; cases hp
      | false => rfl
    exact ⟨x, rfl, fun _ => rfl, fun h => by rw [e] at h; cases h⟩
  | long x =>
    have e : ay_ml x = false := by
      cases e : ay_ml x with
      | true => rw [show ay_pl (.long x) = !ay_ml x from rfl, e] at hp; cases hp
      | false => rfl
    exact ⟨x, rfl, fun _ => rfl, fun h => by rw [e] at h; cases h⟩
  | _ => rfl
theorem ay_v.kd (h : ay_v xs v w) : am_kd w = am_kd v := by
  cases v with
  | int x => obtain ⟨y, rfl, -⟩ := h; rfl
  | long x => obtain ⟨y, rfl, -⟩ := h; rfl
  | _ => rw [show w = _ from h]
theorem ay_v.cat (h : ay_v xs v w) : w.category = v.category := by
  cases v with
  | int x => obtain ⟨y, rfl, -⟩ := h; rfl
  | long x => obtain ⟨y, rfl, -⟩ := h; rfl
  | _ => rw [show w = _ from h]
theorem ay_v.fit (h : ay_v xs v w) {k : Nat} (hk : k < 4 ∨ ay_pl v = true) (hf : am_fit k v = true) : am_fit k w = true := by
  rcases hk with hk | hk
  · cases v with
    | int x =>
      obtain ⟨y, rfl, -⟩ := h
      match k, hk with
      | 0, _ => rfl
      | 1, _ => cases hf
      | 2, _ => cases hf
      | 3, _ => cases hf
    | long x =>
      obtain ⟨y, rfl, -⟩ := h
      match k, hk with
      | 0, _ => cases hf
      | 1, _ => rfl
      | 2, _ => cases hf
      | 3, _ => cases hf
    | _ => rw [show w = _ from h]; exact hf
  · rw [h.pl hk]; exact hf
theorem ay_st.cons (h : ay_st xs (v :: r) st1) : ∃ w q, st1 = w :: q ∧ ay_v xs v w ∧ ay_st xs r q := by
  cases st1 with
  | nil => exact h.elim
  | cons w q => exact ⟨w, q, rfl, h.1, h.2⟩
theorem ay_st.nil (h : ay_st xs [] st1) : st1 = [] := by
  cases st1 with
  | nil => rfl
  | cons w q => exact h.elim
theorem ay_st.len : ∀ {st st1 : List Value}, ay_st xs st st1 → st1.length = st.length := by
  intro st
  induction st with
  | nil => intro st1 h; rw [h.nil]
  | cons v r ih => intro st1 h; obtain ⟨w, q, rfl, -, h2⟩ := h.cons; rw [List.length_cons, List.length_cons, ih h2]
theorem ay_st.sum : ∀ {st st1 : List Value}, ay_st xs st st1 → (st1.map fun v => v.category).sum = (st.map fun v => v.category).sum := by
  intro st
  induction st with
  | nil => intro st1 h; rw [h.nil]
  | cons v r ih => intro st1 h; obtain ⟨w, q, rfl, h1, h2⟩ := h.cons; rw [List.map_cons, List.map_cons, List.sum_cons, List.sum_cons, ih h2, h1.cat]
theorem ay_st.take : ∀ {st st1 : List Value} (n : Nat), ay_st xs st st1 → ay_st xs (st.take n) (st1.take n) := by
  intro st
  induction st with
  | nil => intro st1 n h; rw [h.nil]; simp [ay_st]
  | cons v r ih =>
    intro st1 n h
    obtain ⟨w, q, rfl, h1, h2⟩ := h.cons
    cases n with
    | zero => exact trivial
    | succ n => exact ⟨h1, ih n h2⟩
theorem ay_st.drop : ∀ {st st1 : List Value} (n : Nat), ay_st xs st st1 → ay_st xs (st.drop n) (st1.drop n) := by
  intro st
  induction st with
  | nil => intro st1 n h; rw [h.nil]; simp [ay_st]
  | cons v r ih =>
    intro st1 n h
    obtain ⟨w, q, rfl, h1, h2⟩ := h.cons
    cases n with
    | zero => exact ⟨h1, h2⟩
    | succ n => exact ih n h2
theorem ay_st.app : ∀ {st st1 r q : List Value}, ay_st xs st st1 → ay_st xs r q → ay_st xs (st ++ r) (st1 ++ q) := by
  intro st
  induction st with
  | nil => intro st1 r q h h2; rw [h.nil]; exact h2
  | cons v r9 ih => intro st1 r q h h2; obtain ⟨w, q9, rfl, h3, h4⟩ := h.cons; exact ⟨h3, ih h4 h2⟩
theorem ay_st.rev : ∀ {st st1 : List Value}, ay_st xs st st1 → ay_st xs st.reverse st1.reverse := by
  intro st
  induction st with
  | nil => intro st1 h; rw [h.nil]; exact trivial
  | cons v r ih =>
    intro st1 h
    obtain ⟨w, q, rfl, h1, h2⟩ := h.cons
    rw [List.reverse_cons, List.reverse_cons]
    exact (ih h2).app ⟨h1, trivial⟩
theorem ay_ls.cons {p : Nat × Value} {l : AmL} (h : ay_ls xs (p :: l) ls1) : ∃ q l1, ls1 = q :: l1 ∧ q.1 = p.1 ∧ ay_v xs p.2 q.2 ∧ ay_ls xs l l1 := by
  cases ls1 with
  | nil => exact h.elim
  | cons q l1 => exact ⟨q, l1, rfl, h.1.1, h.1.2, h.2⟩
theorem ay_ls.nil (h : ay_ls xs [] ls1) : ls1 = [] := by
  cases ls1 with
  | nil => rfl
  | cons w q => exact h.elim
theorem ay_ls.lk : ∀ {ls ls1 : AmL} {i : Nat} {v : Value}, ay_ls xs ls ls1 → am_lk ls i = some v → ∃ w, am_lk ls1 i = some w ∧ ay_v xs v w := by
  intro ls
  induction ls with
  | nil => intro ls1 i v _ h; cases h
  | cons p l ih =>
    intro ls1 i v h hk
    obtain ⟨q, l1, rfl, h1, h2, h3⟩ := h.cons
    unfold am_lk at hk ⊢
    rw [h1]
    cases hb : Nat.beq p.1 i with
    | true =>
      rw [hb] at hk
      have e : p.2 = v := Option.some.inj hk
      exact ⟨q.2, rfl, by rw [← e]; exact h2⟩
    | false =>
      rw [hb] at hk
      exact ih h3 hk
theorem ay_ls.filter (f : Nat × Value → Bool) (hf : ∀ p q : Nat × Value, q.1 = p.1 → q.2.category = p.2.category → f q = f p) : ∀ {ls ls1 : AmL}, ay_ls xs ls ls1 → ay_ls xs (ls.filter f) (ls1.filter f) := by
  intro ls
  induction ls with
  | nil => intro ls1 h; rw [h.nil]; exact trivial
  | cons p l ih =>
    intro ls1 h
    obtain ⟨q, l1, rfl, h1, h2, h3⟩ := h.cons
    have e := hf p q h1 h2.cat
    cases hp : f p with
    | true => rw [List.filter_cons_of_pos hp, List.filter_cons_of_pos (e.trans hp)]; exact ⟨⟨h1, h2⟩, ih h3⟩
    | false => rw [List.filter_cons_of_neg (by rw [hp]; decide), List.filter_cons_of_neg (by rw [e, hp]; decide)]; exact ih h3
theorem ay_ls.args : ∀ {st st1 : List Value} {i : Nat}, ay_st xs st st1 → ay_ls xs (lv_args i st) (lv_args i st1) := by
  intro st
  induction st with
  | nil => intro st1 i h; rw [h.nil]; exact trivial
  | cons v r ih =>
    intro st1 i h
    obtain ⟨w, q, rfl, h1, h2⟩ := h.cons
    show ay_ls xs ((i, v) :: lv_args (if v.category = 2 then i + 2 else i + 1) r) ((i, w) :: lv_args (if w.category = 2 then i + 2 else i + 1) q)
    rw [h1.cat]
    exact ⟨⟨rfl, h1⟩, ih h2⟩
end AyV
