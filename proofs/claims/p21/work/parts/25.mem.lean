/-! WHAT IS TOLD OF THE MEMORY, read and written. -/
section SyM
variable {pv : Nat → Int} {G : SyG} {X : SyX} {a b x y z i : SyV} {u v w : Value} {ls : AmL} {st : List Value} {S : AmS} {H H' : SyH} {M : SyM} {e : SyE}
/-- a value of a kind below 9 is told by its kind and its number -/
theorem sy_v_eq {pw : Nat → Int} (hk : a.1 = b.1) (h9 : a.1 < 9) (hn : sy_n pw a = sy_n pv b) (h : sy_v pv b v) : sy_v pw a v := by
  unfold sy_v at h ⊢
  rw [hk] at h9 ⊢
  rw [hn]
  generalize b.1 = k at h h9 ⊢
  match k, h9 with
  | 0, _ => exact h
  | 1, _ => exact h
  | 2, _ => exact h
  | 3, _ => exact h
  | 4, _ => exact h
  | 5, _ => exact h
  | 6, _ => exact h
  | 7, _ => exact h
  | 8, _ => exact h
  | k + 9, h9 => exact absurd h9 (by omega)
theorem sy_rd1_ok : ∀ {l : List (SyV × SyV)} {i v : SyV}, sy_rd1 l i = some v → ∃ e ∈ l, sy_same e.1 i = true ∧ e.2 = v := by
  intro l
  induction l with
  | nil => intro i v h; cases h
  | cons q l ih =>
    intro i v h
    unfold sy_rd1 at h
    cases hb : sy_same q.1 i with
    | true =>
      rw [hb] at h
      exact ⟨q, List.mem_cons_self, hb, Option.some.inj h⟩
    | false =>
      rw [hb] at h
      obtain ⟨e, h1, h2⟩ := ih h
      exact ⟨e, List.mem_cons_of_mem _ h1, h2⟩
theorem sy_fe_ok : ∀ {M : SyM} {e : SyE}, sy_fe M a = some e → e ∈ M ∧ sy_same e.1 a = true := by
  intro M
  induction M with
  | nil => intro e h; cases h
  | cons q l ih =>
    intro e h
    unfold sy_fe at h
    cases hb : sy_same q.1 a with
    | true =>
      rw [hb] at h
      have e9 : q = e := Option.some.inj h
      subst e9
      exact ⟨List.mem_cons_self, hb⟩
    | false =>
      rw [hb] at h
      obtain ⟨h1, h2⟩ := ih h
      exact ⟨List.mem_cons_of_mem _ h1, h2⟩
/-- the cell that a reference means -/
theorem sy_cell (hm : sy_me pv M S) (h : sy_fe M a = some e) (hv : sy_v pv a v) (h4 : a.1 = 4) : ∃ k : Nat, v = .ref k ∧ sy_n pv a = k ∧ sy_n pv e.1 = k ∧ S.1 k = (e.2.1, e.2.2.1) ∧ (k < S.2.2.1 ∨ am_EXT ≤ k) ∧ sy_ce pv e S := by
  obtain ⟨h1, h2⟩ := sy_fe_ok h
  have hc := hm e h1
  obtain ⟨h0, hr⟩ := hv.ref h4
  obtain ⟨k, g1, g2, g3, -⟩ := hm e h1
  have hs := sy_same_n (pv := pv) h2
  have e1 : (sy_n pv a).toNat = k := by omega
  exact ⟨k, by rw [hr, e1], by omega, g1, g2, g3, hc⟩
theorem sy_re_ok (hg : sy_g pv G) (he : sy_ce pv e S) {k j : Nat} (hk : sy_n pv e.1 = k) (hi : sy_n pv i = j) (h : sy_re G e i = some x) : sy_v pv x (S.2.1 k j) := by
  obtain ⟨k', g1, -, -, g4, g5⟩ := he
  have ek : k' = k := by omega
  subst ek
  unfold sy_re at h
  split at h
  · rename_i v hv
    have h := Option.some.inj h
    subst h
    obtain ⟨p, h1, h2, h3⟩ := sy_rd1_ok hv
    obtain ⟨j', q1, q2⟩ := g4 p h1
    have hs := sy_same_n (pv := pv) h2
    have ej : j' = j := by omega
    subst ej
    rw [← h3]
    exact q2
  · split at h
    · rename_i d hd
      obtain ⟨h1, h2⟩ := am_cnd h
      have h2 := Option.some.inj h2
      subst h2
      refine g5 d hd j fun p hp => ?_
      have := sy_df_ok hg (List.all_eq_true.mp h1 p hp)
      omega
    · cases h
theorem sy_upM_s {m : Nat → Nat → Value} {k j : Nat} : am_upM m k j w k j = w := by
  unfold am_upM
  rw [am_beq_t, am_beq_t]; rfl
theorem sy_upM_n {m : Nat → Nat → Value} {k j k2 j2 : Nat} (h : ¬ (k2 = k ∧ j2 = j)) : am_upM m k j w k2 j2 = m k2 j2 := by
  unfold am_upM
  cases h1 : Nat.beq k2 k with
  | false => rfl
  | true =>
    cases h2 : Nat.beq j2 j with
    | false => rfl
    | true => exact absurd ⟨am_beq h1, am_beq h2⟩ h
theorem sy_we_ok (hg : sy_g pv G) (he : sy_ce pv e S) {ka j : Nat} (ha : sy_n pv a = ka) (hi : sy_n pv i = j) (hw : sy_v pv x w) : sy_ce pv (sy_we G a i x e) (S.1, am_upM S.2.1 ka j w, S.2.2) := by
  obtain ⟨k, g1, g2, g3, g4, g5⟩ := he
  unfold sy_we
  cases hs : sy_same e.1 a with
  | true =>
    simp only [cond_true]
    have hsn := sy_same_n (pv := pv) hs
    have ek : k = ka := by omega
    subst ek
    refine ⟨k, g1, g2, g3, fun p hp => ?_, fun d hd q hq => ?_⟩
    · rcases List.mem_cons.mp hp with rfl | hp
      · exact ⟨j, hi, by show sy_v pv x (am_upM S.2.1 k j w k j); rw [sy_upM_s]; exact hw⟩
      · obtain ⟨h1, h2⟩ := List.mem_filter.mp hp
        obtain ⟨j', q1, q2⟩ := g4 p h1
        have := sy_df_ok hg h2
        refine ⟨j', q1, ?_⟩
        show sy_v pv p.2 (am_upM S.2.1 k j w k j')
        rw [sy_upM_n (fun z => by omega)]
        exact q2
    · dsimp only at hd hq
      obtain ⟨hall, hd⟩ := am_cnd hd
      have hqi := hq (i, x) List.mem_cons_self
      dsimp only at hqi
      show sy_v pv d (am_upM S.2.1 k j w k q)
      rw [sy_upM_n (fun z => by omega)]
      refine g5 d hd q fun p hp => ?_
      rcases Bool.or_eq_true_iff.mp (List.all_eq_true.mp hall p hp) with z | z
      · have := sy_same_n (pv := pv) z
        omega
      · exact hq p (List.mem_cons_of_mem _ (List.mem_filter.mpr ⟨hp, z⟩))
  | false =>
    simp only [cond_false]
    cases hd : sy_df G e.1 a with
    | true =>
      simp only [cond_true]
      have hne := sy_df_ok hg hd
      have hk : k ≠ ka := by omega
      refine ⟨k, g1, g2, g3, fun p hp => ?_, fun d hd q hq => ?_⟩
      · obtain ⟨j', q1, q2⟩ := g4 p hp
        refine ⟨j', q1, ?_⟩
        show sy_v pv p.2 (am_upM S.2.1 ka j w k j')
        rw [sy_upM_n (fun z => hk z.1)]
        exact q2
      · show sy_v pv d (am_upM S.2.1 ka j w k q)
        rw [sy_upM_n (fun z => hk z.1)]
        exact g5 d hd q hq
    | false =>
      simp only [cond_false]
      exact ⟨k, g1, g2, g3, fun p hp => (nomatch hp), fun d hd => by cases hd⟩
theorem sy_wr_ok (hg : sy_g pv G) (hH : sy_HP pv X H S) {ka j : Nat} (ha : sy_n pv a = ka) (hi : sy_n pv i = j) (hw : sy_v pv x w) (h : sy_wr G X.1 H a i x = some H') : sy_HP pv X H' (S.1, am_upM S.2.1 ka j w, S.2.2) ∧ ka < am_EXT := by
  unfold sy_wr at h
  obtain ⟨h1, h2⟩ := am_cnd h
  cases h2
  obtain ⟨h1, h3⟩ := Bool.and_eq_true_iff.mp h1
  obtain ⟨l1, l2⟩ := sy_rg_ok hg h3
  have hka : ka < am_EXT := by unfold am_EXT; omega
  obtain ⟨m1, m2, m3, k1, k2, k3, k4, k5, k6⟩ := hH
  refine ⟨⟨fun e he => ?_, m2, fun b k hb hk => ?_, k1, fun q hq => ⟨(k2 q hq).1, fun k => ?_⟩, k3, k4, k5, fun b k hb => ?_⟩, hka⟩
  · obtain ⟨e0, he0, rfl⟩ := List.mem_map.mp he
    exact sy_we_ok hg (m1 e0 he0) ha hi hw
  · show am_upM S.2.1 ka j w b k = X.2.1 b k
    rw [sy_upM_n (fun z => hk (a, i) List.mem_cons_self ⟨by rw [z.1]; exact ha, by rw [z.2]; exact hi⟩)]
    exact m3 b k hb (fun p hp => hk p (List.mem_cons_of_mem _ hp))
  · show am_upM S.2.1 ka j w q k = X.2.1 q k
    have hne := sy_df_ok hg (List.all_eq_true.mp h1 q hq)
    rw [sy_n_i] at hne
    rw [sy_upM_n (fun z => by omega)]
    exact (k2 q hq).2 k
  · show am_upM S.2.1 ka j w b k = X.2.1 b k
    rw [sy_upM_n (fun z => by omega)]
    exact k6 b k hb
theorem sy_fit_ok (hg : sy_g pv G) {k : Nat} (h : sy_fit G k a = true) (hv : sy_v pv a v) : am_fit k v = true := by
  unfold sy_fit at h
  cases hb : Nat.beq k 10 with
  | true =>
    rw [hb] at h
    obtain ⟨h1, h2⟩ := Bool.and_eq_true_iff.mp h
    obtain ⟨p, rfl, e⟩ := hv.int (am_beq h1)
    obtain ⟨l1, l2⟩ := sy_rg_ok hg h2
    rw [am_beq hb]
    show (decide (p = 0) || decide (p = 1)) = true
    have h0 : p.toInt = 0 ∨ p.toInt = 1 := by omega
    rcases h0 with z | z
    · rw [show p = 0 from Int32.toInt_inj.mp z]; rfl
    · rw [show p = 1 from Int32.toInt_inj.mp z]; rfl
  | false =>
    rw [hb] at h
    simp only [cond_false] at h
    cases hc : Nat.beq k 12 with
    | true =>
      rw [hc] at h
      obtain ⟨h1, h2⟩ := Bool.and_eq_true_iff.mp h
      obtain ⟨p, rfl, e⟩ := hv.int (am_beq h1)
      obtain ⟨l1, l2⟩ := sy_rg_ok hg h2
      rw [am_beq hc]
      exact decide_eq_true (sy_i2c p (by omega) (by omega))
    | false =>
      rw [hc] at h
      simp only [cond_false] at h
      cases hd : Nat.beq k 11 with
      | true =>
        rw [hd] at h
        obtain ⟨h1, h2⟩ := Bool.and_eq_true_iff.mp h
        obtain ⟨p, rfl, e⟩ := hv.int (am_beq h1)
        obtain ⟨l1, l2⟩ := sy_rg_ok hg h2
        rw [am_beq hd]
        exact decide_eq_true (sy_i2b p (by omega) (by omega))
      | false =>
        rw [hd] at h
        simp only [cond_false] at h
        obtain ⟨h1, h2⟩ := Bool.and_eq_true_iff.mp h
        obtain ⟨h2, h3⟩ := Bool.and_eq_true_iff.mp h2
        have hk := hv.kd
        rw [am_beq h3] at hk
        have h1 := am_blt h1
        match k, h1, h2, hk with
        | 0, _, _, hk => cases v <;> first | rfl | cases hk
        | 1, _, _, hk => cases v <;> first | rfl | cases hk
        | 2, _, h2, _ => cases h2
        | 3, _, _, hk => cases v <;> first | rfl | cases hk
theorem sy_in_ok (hg : sy_g pv G) {k : Nat} (h : sy_in G i k = true) (hv : sy_v pv i v) : ∃ (p : Int32) (j : Nat), v = .int p ∧ am_in p k = true ∧ p.toNatClampNeg = j ∧ sy_n pv i = j := by
  unfold sy_in at h
  obtain ⟨h1, h2⟩ := Bool.and_eq_true_iff.mp h
  obtain ⟨p, rfl, e⟩ := hv.int (am_beq h1)
  obtain ⟨l1, l2⟩ := sy_rg_ok hg h2
  refine ⟨p, p.toInt.toNat, rfl, ?_, rfl, by omega⟩
  unfold am_in
  have n1 : ¬ p < 0 := fun z => by have := Int32.lt_iff_toInt_lt.mp z; have e0 : (0 : Int32).toInt = 0 := rfl; omega
  have n2 : p.toNatClampNeg < k := by
    have : p.toNatClampNeg = p.toInt.toNat := rfl
    omega
  rw [decide_eq_false n1, show Nat.blt p.toNatClampNeg k = true from Nat.ble_eq_true_of_le n2]; rfl
end SyM
