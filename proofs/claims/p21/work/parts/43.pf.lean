/-! PHASE D: the counts. -/
theorem cfor_hit {l : Nat → Int} {a : Int} : ∀ (d m j : Nat), m ≤ j → j < m + d → l j = a → ∃ i : Nat, cfor l a d m = i ∧ m ≤ i ∧ i ≤ j ∧ l i = a := by
  intro d
  induction d with
  | zero => intro m j h1 h2 _; omega
  | succ d ih =>
    intro m j h1 h2 h3
    unfold cfor
    by_cases h : l m = a
    · rw [if_pos h]
      exact ⟨m, rfl, Nat.le_refl _, h1, h⟩
    · rw [if_neg h]
      have hne : m ≠ j := fun e => h (by rw [e]; exact h3)
      obtain ⟨i, h4, h5, h6, h7⟩ := ih (m + 1) j (by omega) (by omega) h3
      exact ⟨i, h4, by omega, h6, h7⟩
/-- how many of the letters have come up to k -/
def ge_c (l : Nat → Int) (K k : Nat) : Int := (if cfor l 112 K 0 < k then 1 else 0) + (if cfor l 113 K 0 < k then 1 else 0) + (if cfor l 114 K 0 < k then 1 else 0) + (if cfor l 115 K 0 < k then 1 else 0)
theorem ge_c_s {l : Nat → Int} {K k : Nat} (h : ∀ a, 112 ≤ a → a ≤ 115 → ∃ i : Nat, cfor l a K 0 = i ∧ l i = a) (hl : 112 ≤ l k ∧ l k ≤ 115) : ge_c l K (k + 1) = ge_c l K k + if cfor l (l k) K 0 = k then 1 else 0 := by
  obtain ⟨i1, a1, b1⟩ := h 112 (by omega) (by omega)
  obtain ⟨i2, a2, b2⟩ := h 113 (by omega) (by omega)
  obtain ⟨i3, a3, b3⟩ := h 114 (by omega) (by omega)
  obtain ⟨i4, a4, b4⟩ := h 115 (by omega) (by omega)
  unfold ge_c
  rw [a1, a2, a3, a4]
  have n1 : l k ≠ 112 → i1 ≠ k := fun z e => z (by rw [← e]; exact b1)
  have n2 : l k ≠ 113 → i2 ≠ k := fun z e => z (by rw [← e]; exact b2)
  have n3 : l k ≠ 114 → i3 ≠ k := fun z e => z (by rw [← e]; exact b3)
  have n4 : l k ≠ 115 → i4 ≠ k := fun z e => z (by rw [← e]; exact b4)
  have hc : l k = 112 ∨ l k = 113 ∨ l k = 114 ∨ l k = 115 := by omega
  rcases hc with e | e | e | e
  · rw [e, a1]
    have := n2 (by omega); have := n3 (by omega); have := n4 (by omega)
    split <;> split <;> split <;> split <;> split <;> split <;> split <;> split <;> split <;> omega
  · rw [e, a2]
    have := n1 (by omega); have := n3 (by omega); have := n4 (by omega)
    split <;> split <;> split <;> split <;> split <;> split <;> split <;> split <;> split <;> omega
  · rw [e, a3]
    have := n1 (by omega); have := n2 (by omega); have := n4 (by omega)
    split <;> split <;> split <;> split <;> split <;> split <;> split <;> split <;> split <;> omega
  · rw [e, a4]
    have := n1 (by omega); have := n2 (by omega); have := n3 (by omega)
    split <;> split <;> split <;> split <;> split <;> split <;> split <;> split <;> split <;> omega
section PfS
variable {L : Nat} {xs : Nat → Int32} {c c' : MsC} {n r : Nat} {fa : Fa}
theorem lt_r (hf : ∀ j, j < n → fa_ok (fa j)) {m : Nat} (hm : m < n + 6) : 112 ≤ lt n fa m ∧ lt n fa m ≤ 115 := by
  unfold lt
  by_cases h : m < n
  · rw [if_pos h]
    obtain ⟨h1, -, -⟩ := hf m h
    omega
  · rw [if_neg h]
    obtain ⟨d, rfl⟩ : ∃ d, m = n + d := ⟨m - n, by omega⟩
    rw [show n + d - n = d by omega]
    match d, (show d < 6 by omega) with
    | 0, _ => exact ⟨by decide, by decide⟩
    | 1, _ => exact ⟨by decide, by decide⟩
    | 2, _ => exact ⟨by decide, by decide⟩
    | 3, _ => exact ⟨by decide, by decide⟩
    | 4, _ => exact ⟨by decide, by decide⟩
    | 5, _ => exact ⟨by decide, by decide⟩
    | d + 6, h => exact absurd h (by omega)
theorem lt_at (d : Nat) (z : Int) (h : ([112, 113, 114, 114, 115, 115] : List Int).getD d 0 = z) : lt n fa (n + d) = z := by
  unfold lt
  rw [if_neg (by omega), show n + d - n = d by omega]
  exact h
/-- each of the four letters has its first clause -/
theorem lt_first (a : Int) (h1 : 112 ≤ a) (h2 : a ≤ 115) : ∃ i : Nat, cfor (lt n fa) a (n + 6) 0 = i ∧ i < n + 6 ∧ lt n fa i = a := by
  have key : ∀ d, d < 6 → ([112, 113, 114, 114, 115, 115] : List Int).getD d 0 = a → ∃ i : Nat, cfor (lt n fa) a (n + 6) 0 = i ∧ i < n + 6 ∧ lt n fa i = a := fun d hd h => by
    obtain ⟨i, g1, g2, g3, g4⟩ := cfor_hit (l := lt n fa) (n + 6) 0 (n + d) (by omega) (by omega) (lt_at d a h)
    exact ⟨i, g1, by omega, g4⟩
  have hc : a = 112 ∨ a = 113 ∨ a = 114 ∨ a = 115 := by omega
  rcases hc with e | e | e | e
  · exact key 0 (by omega) (by rw [e]; rfl)
  · exact key 1 (by omega) (by rw [e]; rfl)
  · exact key 2 (by omega) (by rw [e]; rfl)
  · exact key 4 (by omega) (by rw [e]; rfl)
/-- the nodes of all clauses' heads -/
theorem cl_all (hT : sy_me (sy_ev [(n : Int), (r : Int)]) gc_T4.2.1 c.2) (hM : sy_me (fun _ => 0) gc_CE c.2) (hn : n ≤ 11) (hd : nd_ok fa n c.2.2.1) : cl_ok (lt n fa) (n + 6) c.2.2.1 := by
  intro m hm
  have h10 : tv c.2.2.1 10 m 0 m := by
    have h : (List.range 41).all (fun j => gc_CE.any (fun e => decide (e.1 = (4, 10, 0, 0)) && e.2.2.2.2.any (fun p => decide (p = ((0, (j : Int), 0, 0), (0, (j : Int), 0, 0)))))) = true := by decide +kernel
    exact sy_me.look (v := (0, (m : Int), 0, 0)) (a := (4, 10, 0, 0)) (i := (0, (m : Int), 0, 0)) hM (List.all_eq_true.mp h m (List.mem_range.mpr (by omega))) (by show (0 : Nat) < 9; decide) (sy_n0 rfl) (sy_n0 rfl) (sy_n0 rfl)
  refine ⟨h10, ?_⟩
  by_cases h : m < n
  · have hl : lt n fa m = (fa m).1 := by
      unfold lt
      rw [if_pos h]
    rw [hl]
    have a1 := hd m h 18 (by omega)
    have a2 := hd m h 2 (by omega)
    have a3 := hd m h 5 (by omega)
    have a4 := hd m h 8 (by omega)
    refine ⟨?_, ?_, ?_, ?_⟩
    · have := a1
      rw [show (ndc 18).2.1 * m + (ndc 18).2.2 = m from by show 1 * m + 0 = m; omega] at this
      exact this
    · exact a2
    · exact a3
    · exact a4
  · obtain ⟨d, rfl⟩ : ∃ d, m = n + d := ⟨m - n, by omega⟩
    have hd6 : d < 6 := by omega
    have q11 : (List.range 6).all (fun d => gc_T4.2.1.any (fun e => decide (e.1 = (4, 11, 0, 0)) && e.2.2.2.2.any (fun p => decide (p = ((0, (d : Int), 0, 1), (0, 2, 0, 0)))))) = true := by decide +kernel
    have q4 : (List.range 6).all (fun d => gc_T4.2.1.any (fun e => decide (e.1 = (4, 4, 0, 0)) && e.2.2.2.2.any (fun p => decide (p = ((0, 64 * (d : Int) + 2, 0, 64), (0, 5, 0, 0)))))) = true := by decide +kernel
    have q5 : (List.range 6).all (fun d => gc_T4.2.1.any (fun e => decide (e.1 = (4, 5, 0, 0)) && e.2.2.2.2.any (fun p => decide (p = ((0, 64 * (d : Int) + 2, 0, 64), (0, 2, 0, 0)))))) = true := by decide +kernel
    have q6 : (List.range 6).all (fun d => gc_T4.2.1.any (fun e => decide (e.1 = (4, 6, 0, 0)) && e.2.2.2.2.any (fun p => decide (p = ((0, 64 * (d : Int) + 2, 0, 64), (1, ([112, 113, 114, 114, 115, 115] : List Int).getD d 0, 0, 0)))))) = true := by decide +kernel
    have ix : sy_n (sy_ev [(n : Int), (r : Int)]) ((0, 64 * (d : Int) + 2, 0, 64) : SyV) = ((64 * (n + d) + 2 : Nat) : Int) := by
      show (64 * (d : Int) + 2) + ((64 : Nat) : Int) * (n : Int) = _
      omega
    have i1 : sy_n (sy_ev [(n : Int), (r : Int)]) ((0, (d : Int), 0, 1) : SyV) = ((n + d : Nat) : Int) := by
      show (d : Int) + ((1 : Nat) : Int) * (n : Int) = _
      omega
    refine ⟨sy_me.look (v := (0, 2, 0, 0)) hT (List.all_eq_true.mp q11 d (List.mem_range.mpr hd6)) (by show (0 : Nat) < 9; decide) (sy_n0 rfl) i1 (sy_n0 rfl), sy_me.look (v := (0, 5, 0, 0)) hT (List.all_eq_true.mp q4 d (List.mem_range.mpr hd6)) (by show (0 : Nat) < 9; decide) (sy_n0 rfl) ix (sy_n0 rfl), sy_me.look (v := (0, 2, 0, 0)) hT (List.all_eq_true.mp q5 d (List.mem_range.mpr hd6)) (by show (0 : Nat) < 9; decide) (sy_n0 rfl) ix (sy_n0 rfl), ?_⟩
    rw [lt_at (n := n) (fa := fa) d _ rfl]
    exact sy_me.look (v := (1, ([112, 113, 114, 114, 115, 115] : List Int).getD d 0, 0, 0)) hT (List.all_eq_true.mp q6 d (List.mem_range.mpr hd6)) (by show (1 : Nat) < 9; decide) (sy_n0 rfl) ix (sy_n0 rfl)
/-- what is kept while clauses are counted -/
def pf_K (L : Nat) (xs : Nat → Int32) (n : Nat) (fa : Fa) (c : MsC) : Prop := sy_E0 L xs c ∧ sy_me (sy_ev [0, 0, ((n + 6 : Nat) : Int)]) gd_H.2.1 c.2 ∧ cl_ok (lt n fa) (n + 6) c.2.2.1 ∧ 54 ≤ c.2.2.2.1
theorem pf_loop (hn : 2 ≤ n ∧ n ≤ 11) (hr : r ≤ 20) (hf : ∀ j, j < n → fa_ok (fa j)) : ∀ (d k : Nat) (c : MsC), k + d = n + 6 → sy_T (sy_ev [(n : Int), (r : Int), (k : Int), ge_c (lt n fa) (n + 6) k, 0, ((n + 6 : Nat) : Int)]) [] ge_H c → pf_K L xs n fa c → ∃ c', rch c c' ∧ sy_T (sy_ev [(n : Int), (r : Int), ((n + 6 : Nat) : Int), ge_c (lt n fa) (n + 6) (n + 6), 0, ((n + 6 : Nat) : Int)]) [] ge_H c' ∧ sy_E0 L xs c' ∧ sy_sm c.2 c'.2 := by
  intro d
  induction d with
  | zero =>
    intro k c hd hT hK
    have e : k = n + 6 := by omega
    subst e
    exact ⟨c, rch.rf c, hT, hK.1, sy_sm.rf _⟩
  | succ d ih =>
    intro k c hd hT hK
    obtain ⟨h1, h2, h3, h4⟩ := hK
    have hk : k < n + 6 := by omega
    obtain ⟨c1, c2, c3, c4, c5⟩ := h3 k hk
    have hlr := fun m (hm : m < n + 6) => lt_r hf hm
    obtain ⟨f0, g1, g2, g3⟩ := lt_first (n := n) (fa := fa) (lt n fa k) (hlr k hk).1 (hlr k hk).2
    have hfk : f0 ≤ k := by
      obtain ⟨i, e1, -, e3, -⟩ := cfor_hit (l := lt n fa) (a := lt n fa k) (n + 6) 0 k (by omega) (by omega) rfl
      omega
    have hct : 0 ≤ ge_c (lt n fa) (n + 6) k ∧ ge_c (lt n fa) (n + 6) k ≤ 4 := by
      unfold ge_c
      split <;> split <;> split <;> split <;> omega
    have hs := ge_c_s (l := lt n fa) (K := n + 6) (k := k) (fun a b1 b2 => by
      obtain ⟨i, i1, -, i3⟩ := lt_first (n := n) (fa := fa) a b1 b2
      exact ⟨i, i1, i3⟩) (hlr k hk)
    have hT4 : sy_T (sy_ev [(n : Int), (r : Int), (k : Int), ge_c (lt n fa) (n + 6) k, (f0 : Int), ((n + 6 : Nat) : Int)]) [] ge_H c := sy_b_T (m := [0, 1, 2, 3, 5]) (by exact aa.mem ⟨rfl, rfl, rfl, rfl, rfl, trivial⟩) (by decide +kernel) hT
    have ik : sy_n (sy_ev [(n : Int), (r : Int), (k : Int), ge_c (lt n fa) (n + 6) k, (f0 : Int), ((n + 6 : Nat) : Int)]) ((0, 0, 2, 1) : SyV) = k := by
      show 0 + ((1 : Nat) : Int) * (k : Int) = _
      omega
    have hD : sy_me (sy_ev [(n : Int), (r : Int), (k : Int), ge_c (lt n fa) (n + 6) k, (f0 : Int), ((n + 6 : Nat) : Int)]) ge_D c.2 := by
      intro e he
      rcases List.mem_cons.mp he with rfl | he
      · refine sy_ce_of (k := 10) (sy_n0 rfl) (h2.inst 10 61 41 (by decide +kernel)).1 (h2.inst 10 61 41 (by decide +kernel)).2 rfl fun p hp => ?_
        rcases List.mem_cons.mp hp with rfl | hp
        · exact ⟨k, ik, c1.to rfl (by decide) ik⟩
        · cases hp
      · rcases List.mem_cons.mp he with rfl | he
        · refine sy_ce_of (k := 11) (sy_n0 rfl) (h2.inst 11 61 41 (by decide +kernel)).1 (h2.inst 11 61 41 (by decide +kernel)).2 rfl fun p hp => ?_
          rcases List.mem_cons.mp hp with rfl | hp
          · exact ⟨k, ik, c2.to rfl (by decide) (sy_n0 rfl)⟩
          · cases hp
        · cases he
    have hA := sy_T_add (A := ge_AH) (G := ([], [])) hT4 sg_0 hD (by decide +kernel) rfl ⟨rfl, rfl, rfl⟩
    have hXt : ∀ q ∈ ge_X, q < c.2.2.2.1 := fun q hq => by
      have : ge_X.all (fun q => Nat.blt q 54) = true := by decide +kernel
      have := am_blt (List.all_eq_true.mp this q hq)
      omega
    have hO : ∀ vr : SyV, vr.1 = 0 → sy_n (sy_ev [(n : Int), (r : Int), (k : Int), ge_c (lt n fa) (n + 6) k, (f0 : Int), ((n + 6 : Nat) : Int)]) vr = f0 → sy_Or (sy_ev [(n : Int), (r : Int), (k : Int), ge_c (lt n fa) (n + 6) k, (f0 : Int), ((n + 6 : Nat) : Int)]) (sy_x ge_X c) [(32, [(4, 3, 0, 0), (0, 2, 2, 64), (0, 0, 0, 0)], vr)] := fun vr k0 kz =>
      cf_Or (l := lt n fa) (a := lt n fa k) (N := 64 * k + 2) (k := n + 6) (f := 0) (fun q hq => hq) hXt (by omega) (by omega) (by omega) (hlr k hk) hlr ⟨rfl, by
        show 2 + ((64 : Nat) : Int) * (k : Int) = _
        omega⟩ ⟨rfl, sy_n0 rfl⟩ ⟨k0, by rw [kz, ← g1]; rfl⟩ h1 h2 h3 ⟨c3, c4, c5⟩
    have fin : ∀ c1 : MsC, rch c c1 → sy_T (sy_ev [(n : Int), (r : Int), ((k + 1 : Nat) : Int), ge_c (lt n fa) (n + 6) (k + 1), 0, ((n + 6 : Nat) : Int)]) [] ge_H c1 → sy_E0 L xs c1 → sy_ch (sy_ev [(n : Int), (r : Int), (k : Int), ge_c (lt n fa) (n + 6) k, (f0 : Int), ((n + 6 : Nat) : Int)]) [] c c1 → ∃ c', rch c c' ∧ sy_T (sy_ev [(n : Int), (r : Int), ((n + 6 : Nat) : Int), ge_c (lt n fa) (n + 6) (n + 6), 0, ((n + 6 : Nat) : Int)]) [] ge_H c' ∧ sy_E0 L xs c' ∧ sy_sm c.2 c'.2 := fun c1 r1 t1 e1 ch1 => by
      have s1 : sy_sm c.2 c1.2 := by
        obtain ⟨-, -, a1, a2, a3⟩ := hT
        obtain ⟨-, -, b1, b2, b3⟩ := t1
        have tp : ∀ (pv : Nat → Int), pv 1 = r → sy_n pv ge_H.2.2.1 = 54 + r ∧ sy_n pv ge_H.2.2.2.1 = 54 + r ∧ sy_n pv ge_H.2.2.2.2.1 = 218347 + 5 * r := fun pv p1 => by
          refine ⟨?_, ?_, ?_⟩
          · show 54 + ((1 : Nat) : Int) * pv 1 = _; omega
          · show 54 + ((1 : Nat) : Int) * pv 1 = _; omega
          · show 218347 + ((5 : Nat) : Int) * pv 1 = _; omega
        obtain ⟨p1, p2, p3⟩ := tp _ (show sy_ev [(n : Int), (r : Int), (k : Int), ge_c (lt n fa) (n + 6) k, 0, ((n + 6 : Nat) : Int)] 1 = r from rfl)
        obtain ⟨q1, q2, q3⟩ := tp _ (show sy_ev [(n : Int), (r : Int), ((k + 1 : Nat) : Int), ge_c (lt n fa) (n + 6) (k + 1), 0, ((n + 6 : Nat) : Int)] 1 = r from rfl)
        exact sy_sm.of ch1 (by omega) (by omega) (by omega)
      have hM : ∀ q j : Nat, q < 54 → c1.2.2.1 q j = c.2.2.1 q j := fun q j hq => (s1.1 q (Or.inl (by omega))).2 j
      obtain ⟨c2, r2, t2, e2, s2⟩ := ih (k + 1) c1 (by omega) t1 ⟨e1, h2.ko ch1 (by decide +kernel), h3.eq fun q j h => hM q j (by omega), by have := ch1.2.2; omega⟩
      exact ⟨c2, r1.tr r2, t2, e2, s1.tr s2⟩
    by_cases he : f0 = k
    · subst he
      have hs2 : ge_c (lt n fa) (n + 6) (f0 + 1) = ge_c (lt n fa) (n + 6) f0 + 1 := by
        rw [hs, if_pos g1]
      have hA2 : sy_T (sy_ev [(n : Int), (r : Int), (f0 : Int), ge_c (lt n fa) (n + 6) f0, 0, ((n + 6 : Nat) : Int)]) [] ge_AH c := sy_b_T (m := [0, 1, 2, 3, 5]) (by exact aa.mem ⟨rfl, rfl, rfl, rfl, rfl, trivial⟩) (by decide +kernel) hA
      have hO2 : sy_Or (sy_ev [(n : Int), (r : Int), (f0 : Int), ge_c (lt n fa) (n + 6) f0, 0, ((n + 6 : Nat) : Int)]) (sy_x ge_X c) ge_O1 := cf_Or (l := lt n fa) (a := lt n fa f0) (N := 64 * f0 + 2) (k := n + 6) (f := 0) (fun q hq => hq) hXt (by omega) (by omega) (by omega) (hlr f0 hk) hlr ⟨rfl, by
        show 2 + ((64 : Nat) : Int) * (f0 : Int) = _
        omega⟩ ⟨rfl, sy_n0 rfl⟩ ⟨rfl, by
        show 0 + ((1 : Nat) : Int) * (f0 : Int) = _
        rw [show n + 6 - 0 = n + 6 from rfl, g1]
        omega⟩ h1 h2 h3 ⟨c3, c4, c5⟩
      obtain ⟨c9, r9, t9, e9, ch9, -⟩ := ge_e_u (Nat.zero_le _) (n : Int) (r : Int) (f0 : Int) (ge_c (lt n fa) (n + 6) f0) ((n + 6 : Nat) : Int) (by omega) (by omega) (by omega) (by omega) (by omega) (by omega) (by omega) (by omega) (by omega) (by omega) (by omega) hO2 hXt hA2 h1
      refine fin c9 r9 ?_ e9 ⟨fun q j h _ => ch9.1 q j h fun w hw => (nomatch hw), ch9.2⟩
      rw [hs2]
      exact t9
    · have hs2 : ge_c (lt n fa) (n + 6) (k + 1) = ge_c (lt n fa) (n + 6) k := by
        rw [hs, if_neg (by rw [g1]; omega)]
        omega
      obtain ⟨c9, r9, t9, e9, ch9, -⟩ := ge_n_u (Nat.zero_le _) (n : Int) (r : Int) (k : Int) (ge_c (lt n fa) (n + 6) k) (f0 : Int) ((n + 6 : Nat) : Int) (by omega) (by omega) (by omega) (by omega) (by omega) (by omega) (by omega) (by omega) (by omega) (by omega) (by omega) (by omega) (by omega) (by omega) (hO _ rfl (by
        show 0 + ((1 : Nat) : Int) * (f0 : Int) = _
        omega)) hXt hA h1
      refine fin c9 r9 ?_ e9 ch9
      rw [hs2]
      exact t9
/-- the counts are right: to the questions -/
theorem pf_all (hn : 2 ≤ n ∧ n ≤ 11) (hr : r ≤ 20) (hf : ∀ j, j < n → fa_ok (fa j)) (hT : sy_T (sy_ev [(n : Int), (r : Int)]) [] gc_T4 c) (hE : sy_E0 L xs c) (hM : sy_me (fun _ => 0) gc_CE c.2) (hd : nd_ok fa n c.2.2.1) : ∃ c', rch c c' ∧ sy_T (sy_ev [(n : Int), (r : Int)]) [] (ge_TX.1, gc_T4.2) c' ∧ sy_E0 L xs c' ∧ sy_me (fun _ => 0) gc_CE c'.2 ∧ nd_ok fa n c'.2.2.1 ∧ cl_ok (lt n fa) (n + 6) c'.2.2.1 := by
  have hcl := cl_all hT.2.1 hM hn.2 hd
  have h54 : 54 ≤ c.2.2.2.1 := pc_top (pv := sy_ev [(n : Int), (r : Int)]) hT rfl rfl
  have hg : sy_g (sy_ev [(n : Int), (r : Int)]) ([(0, 2, 11), (1, 0, 20)], []) := by
    refine sg_b ?_ ?_ (sg_b ?_ ?_ sg_0)
    · show (2 : Int) ≤ n; omega
    · show (n : Int) ≤ 11; omega
    · show (0 : Int) ≤ r; omega
    · show (r : Int) ≤ 20; omega
  have hA := sy_T_add (A := ge_A0) (D := []) hT hg (fun _ h => (nomatch h)) (by decide +kernel) rfl ⟨rfl, rfl, rfl⟩
  obtain ⟨c1, r1, t1, e1, ch1, -⟩ := ge_0_u (Nat.zero_le _) (n : Int) (r : Int) (by omega) (by omega) (by omega) (by omega) so_0 sx_0 hA hE
  have tp : ∀ {pv : Nat → Int} {A : SyC} {c : MsC}, pv 1 = r → A.2.2 = ge_H.2.2 → sy_T pv [] A c → c.2.2.2.1 = 54 + r ∧ c.2.2.2.2.1 = 54 + r ∧ c.2.2.2.2.2 = 218347 + 5 * r := fun {pv A c} p1 hA h => by
    obtain ⟨-, -, a1, a2, a3⟩ := h
    rw [hA] at a1 a2 a3
    have q1 : sy_n pv ge_H.2.2.1 = 54 + r := by show 54 + ((1 : Nat) : Int) * pv 1 = _; omega
    have q2 : sy_n pv ge_H.2.2.2.1 = 54 + r := by show 54 + ((1 : Nat) : Int) * pv 1 = _; omega
    have q3 : sy_n pv ge_H.2.2.2.2.1 = 218347 + 5 * r := by show 218347 + ((5 : Nat) : Int) * pv 1 = _; omega
    omega
  have k0 := tp (pv := sy_ev [(n : Int), (r : Int)]) (by rfl) (by rfl) hT
  have k1 := tp (pv := sy_ev [(n : Int), (r : Int)]) (by rfl) (by rfl) t1
  have s1 : sy_sm c.2 c1.2 := sy_sm.of ch1 (by omega) (by omega) (by omega)
  have hH0 : sy_T (sy_ev [(n : Int), (r : Int), ((0 : Nat) : Int), ge_c (lt n fa) (n + 6) 0, 0, ((n + 6 : Nat) : Int)]) [] ge_H c1 := by
    have hc0 : ge_c (lt n fa) (n + 6) 0 = 0 := by
      obtain ⟨i1, a1, -⟩ := lt_first (n := n) (fa := fa) 112 (by omega) (by omega)
      obtain ⟨i2, a2, -⟩ := lt_first (n := n) (fa := fa) 113 (by omega) (by omega)
      obtain ⟨i3, a3, -⟩ := lt_first (n := n) (fa := fa) 114 (by omega) (by omega)
      obtain ⟨i4, a4, -⟩ := lt_first (n := n) (fa := fa) 115 (by omega) (by omega)
      unfold ge_c
      rw [a1, a2, a3, a4, if_neg (by omega), if_neg (by omega), if_neg (by omega), if_neg (by omega)]
      rfl
    rw [hc0]
    exact sq_T.ok (T := ge_T0) (pv := sy_ev [(n : Int), (r : Int)]) ⟨⟨rfl, rfl, ⟨rfl, ⟨rfl, rfl, by first | rfl | exact (sy_n0 rfl).trans rfl | exact (sy_n0 rfl).trans (sy_n0 rfl).symm | (simp [sy_n, sy_ev]; done) | (simp [sy_n, sy_ev]; omega)⟩, rfl, ⟨rfl, rfl, by first | rfl | exact (sy_n0 rfl).trans rfl | exact (sy_n0 rfl).trans (sy_n0 rfl).symm | (simp [sy_n, sy_ev]; done) | (simp [sy_n, sy_ev]; omega)⟩, rfl, ⟨rfl, rfl, by first | rfl | exact (sy_n0 rfl).trans rfl | exact (sy_n0 rfl).trans (sy_n0 rfl).symm | (simp [sy_n, sy_ev]; done) | (simp [sy_n, sy_ev]; omega)⟩, trivial⟩, trivial, ⟨rfl, rfl, ⟨rfl, ⟨rfl, rfl, by first | rfl | exact (sy_n0 rfl).trans rfl | exact (sy_n0 rfl).trans (sy_n0 rfl).symm | (simp [sy_n, sy_ev]; done) | (simp [sy_n, sy_ev]; omega)⟩, rfl, ⟨rfl, rfl, by first | rfl | exact (sy_n0 rfl).trans rfl | exact (sy_n0 rfl).trans (sy_n0 rfl).symm | (simp [sy_n, sy_ev]; done) | (simp [sy_n, sy_ev]; omega)⟩, trivial⟩, trivial, ⟨rfl, rfl, ⟨rfl, ⟨rfl, rfl, by first | rfl | exact (sy_n0 rfl).trans rfl | exact (sy_n0 rfl).trans (sy_n0 rfl).symm | (simp [sy_n, sy_ev]; done) | (simp [sy_n, sy_ev]; omega)⟩, rfl, ⟨rfl, rfl, by first | rfl | exact (sy_n0 rfl).trans rfl | exact (sy_n0 rfl).trans (sy_n0 rfl).symm | (simp [sy_n, sy_ev]; done) | (simp [sy_n, sy_ev]; omega)⟩, rfl, ⟨rfl, rfl, by first | rfl | exact (sy_n0 rfl).trans rfl | exact (sy_n0 rfl).trans (sy_n0 rfl).symm | (simp [sy_n, sy_ev]; done) | (simp [sy_n, sy_ev]; omega)⟩, rfl, ⟨rfl, rfl, by first | rfl | exact (sy_n0 rfl).trans rfl | exact (sy_n0 rfl).trans (sy_n0 rfl).symm | (simp [sy_n, sy_ev]; done) | (simp [sy_n, sy_ev]; omega)⟩, rfl, ⟨rfl, rfl, by first | rfl | exact (sy_n0 rfl).trans rfl | exact (sy_n0 rfl).trans (sy_n0 rfl).symm | (simp [sy_n, sy_ev]; done) | (simp [sy_n, sy_ev]; omega)⟩, trivial⟩, trivial, trivial⟩⟩⟩, ⟨by first | rfl | exact (sy_n0 rfl).trans (sy_n0 rfl).symm, rfl, rfl, rfl, ⟨by first | rfl | exact (sy_n0 rfl).trans (sy_n0 rfl).symm, ⟨rfl, rfl, by first | rfl | exact (sy_n0 rfl).trans rfl | exact (sy_n0 rfl).trans (sy_n0 rfl).symm | (simp [sy_n, sy_ev]; done) | (simp [sy_n, sy_ev]; omega)⟩, by first | rfl | exact (sy_n0 rfl).trans (sy_n0 rfl).symm, ⟨rfl, rfl, by first | rfl | exact (sy_n0 rfl).trans rfl | exact (sy_n0 rfl).trans (sy_n0 rfl).symm | (simp [sy_n, sy_ev]; done) | (simp [sy_n, sy_ev]; omega)⟩, by first | rfl | exact (sy_n0 rfl).trans (sy_n0 rfl).symm, ⟨rfl, rfl, by first | rfl | exact (sy_n0 rfl).trans rfl | exact (sy_n0 rfl).trans (sy_n0 rfl).symm | (simp [sy_n, sy_ev]; done) | (simp [sy_n, sy_ev]; omega)⟩, by first | rfl | exact (sy_n0 rfl).trans (sy_n0 rfl).symm, ⟨rfl, rfl, by first | rfl | exact (sy_n0 rfl).trans rfl | exact (sy_n0 rfl).trans (sy_n0 rfl).symm | (simp [sy_n, sy_ev]; done) | (simp [sy_n, sy_ev]; omega)⟩, by first | rfl | exact (sy_n0 rfl).trans (sy_n0 rfl).symm, ⟨rfl, rfl, by first | rfl | exact (sy_n0 rfl).trans rfl | exact (sy_n0 rfl).trans (sy_n0 rfl).symm | (simp [sy_n, sy_ev]; done) | (simp [sy_n, sy_ev]; omega)⟩, by first | rfl | exact (sy_n0 rfl).trans (sy_n0 rfl).symm, ⟨rfl, rfl, by first | rfl | exact (sy_n0 rfl).trans rfl | exact (sy_n0 rfl).trans (sy_n0 rfl).symm | (simp [sy_n, sy_ev]; done) | (simp [sy_n, sy_ev]; omega)⟩, by first | rfl | exact (sy_n0 rfl).trans (sy_n0 rfl).symm, ⟨rfl, rfl, by first | rfl | exact (sy_n0 rfl).trans rfl | exact (sy_n0 rfl).trans (sy_n0 rfl).symm | (simp [sy_n, sy_ev]; done) | (simp [sy_n, sy_ev]; omega)⟩, by first | rfl | exact (sy_n0 rfl).trans (sy_n0 rfl).symm, ⟨rfl, rfl, by first | rfl | exact (sy_n0 rfl).trans rfl | exact (sy_n0 rfl).trans (sy_n0 rfl).symm | (simp [sy_n, sy_ev]; done) | (simp [sy_n, sy_ev]; omega)⟩, by first | rfl | exact (sy_n0 rfl).trans (sy_n0 rfl).symm, ⟨rfl, rfl, by first | rfl | exact (sy_n0 rfl).trans rfl | exact (sy_n0 rfl).trans (sy_n0 rfl).symm | (simp [sy_n, sy_ev]; done) | (simp [sy_n, sy_ev]; omega)⟩, by first | rfl | exact (sy_n0 rfl).trans (sy_n0 rfl).symm, ⟨rfl, rfl, by first | rfl | exact (sy_n0 rfl).trans rfl | exact (sy_n0 rfl).trans (sy_n0 rfl).symm | (simp [sy_n, sy_ev]; done) | (simp [sy_n, sy_ev]; omega)⟩, by first | rfl | exact (sy_n0 rfl).trans (sy_n0 rfl).symm, ⟨rfl, rfl, by first | rfl | exact (sy_n0 rfl).trans rfl | exact (sy_n0 rfl).trans (sy_n0 rfl).symm | (simp [sy_n, sy_ev]; done) | (simp [sy_n, sy_ev]; omega)⟩, by first | rfl | exact (sy_n0 rfl).trans (sy_n0 rfl).symm, ⟨rfl, rfl, by first | rfl | exact (sy_n0 rfl).trans rfl | exact (sy_n0 rfl).trans (sy_n0 rfl).symm | (simp [sy_n, sy_ev]; done) | (simp [sy_n, sy_ev]; omega)⟩, by first | rfl | exact (sy_n0 rfl).trans (sy_n0 rfl).symm, ⟨rfl, rfl, by first | rfl | exact (sy_n0 rfl).trans rfl | exact (sy_n0 rfl).trans (sy_n0 rfl).symm | (simp [sy_n, sy_ev]; done) | (simp [sy_n, sy_ev]; omega)⟩, trivial⟩, trivial⟩, rfl, rfl, rfl⟩ t1
  have hme : sy_me (sy_ev [0, 0, ((n + 6 : Nat) : Int)]) gd_H.2.1 c1.2 := by
    have hin : sy_me (sy_ev [(n : Int), (r : Int)]) (ge_T0.2.1 ++ pf_W) c1.2 := t1.2.1.app (sy_me.ko (c := c) (pv := sy_ev [(n : Int), (r : Int)]) (L := []) (sy_lM0_ok hg (hT.2.1.app (hM.const (pw := sy_ev [(n : Int), (r : Int)]) (by decide +kernel))) (by decide +kernel)) ch1 (by decide +kernel))
    exact sq_M.ok (pv := sy_ev [(n : Int), (r : Int)]) (l := ge_T0.2.1 ++ pf_W) ⟨by first | rfl | exact (sy_n0 rfl).trans (sy_n0 rfl).symm, rfl, rfl, rfl, ⟨by first | rfl | exact (sy_n0 rfl).trans (sy_n0 rfl).symm, ⟨rfl, rfl, by first | rfl | exact (sy_n0 rfl).trans rfl | exact (sy_n0 rfl).trans (sy_n0 rfl).symm | (simp [sy_n, sy_ev]; done) | (simp [sy_n, sy_ev]; omega)⟩, by first | rfl | exact (sy_n0 rfl).trans (sy_n0 rfl).symm, ⟨rfl, rfl, by first | rfl | exact (sy_n0 rfl).trans rfl | exact (sy_n0 rfl).trans (sy_n0 rfl).symm | (simp [sy_n, sy_ev]; done) | (simp [sy_n, sy_ev]; omega)⟩, by first | rfl | exact (sy_n0 rfl).trans (sy_n0 rfl).symm, ⟨rfl, rfl, by first | rfl | exact (sy_n0 rfl).trans rfl | exact (sy_n0 rfl).trans (sy_n0 rfl).symm | (simp [sy_n, sy_ev]; done) | (simp [sy_n, sy_ev]; omega)⟩, by first | rfl | exact (sy_n0 rfl).trans (sy_n0 rfl).symm, ⟨rfl, rfl, by first | rfl | exact (sy_n0 rfl).trans rfl | exact (sy_n0 rfl).trans (sy_n0 rfl).symm | (simp [sy_n, sy_ev]; done) | (simp [sy_n, sy_ev]; omega)⟩, by first | rfl | exact (sy_n0 rfl).trans (sy_n0 rfl).symm, ⟨rfl, rfl, by first | rfl | exact (sy_n0 rfl).trans rfl | exact (sy_n0 rfl).trans (sy_n0 rfl).symm | (simp [sy_n, sy_ev]; done) | (simp [sy_n, sy_ev]; omega)⟩, by first | rfl | exact (sy_n0 rfl).trans (sy_n0 rfl).symm, ⟨rfl, rfl, by first | rfl | exact (sy_n0 rfl).trans rfl | exact (sy_n0 rfl).trans (sy_n0 rfl).symm | (simp [sy_n, sy_ev]; done) | (simp [sy_n, sy_ev]; omega)⟩, by first | rfl | exact (sy_n0 rfl).trans (sy_n0 rfl).symm, ⟨rfl, rfl, by first | rfl | exact (sy_n0 rfl).trans rfl | exact (sy_n0 rfl).trans (sy_n0 rfl).symm | (simp [sy_n, sy_ev]; done) | (simp [sy_n, sy_ev]; omega)⟩, by first | rfl | exact (sy_n0 rfl).trans (sy_n0 rfl).symm, ⟨rfl, rfl, by first | rfl | exact (sy_n0 rfl).trans rfl | exact (sy_n0 rfl).trans (sy_n0 rfl).symm | (simp [sy_n, sy_ev]; done) | (simp [sy_n, sy_ev]; omega)⟩, by first | rfl | exact (sy_n0 rfl).trans (sy_n0 rfl).symm, ⟨rfl, rfl, by first | rfl | exact (sy_n0 rfl).trans rfl | exact (sy_n0 rfl).trans (sy_n0 rfl).symm | (simp [sy_n, sy_ev]; done) | (simp [sy_n, sy_ev]; omega)⟩, by first | rfl | exact (sy_n0 rfl).trans (sy_n0 rfl).symm, ⟨rfl, rfl, by first | rfl | exact (sy_n0 rfl).trans rfl | exact (sy_n0 rfl).trans (sy_n0 rfl).symm | (simp [sy_n, sy_ev]; done) | (simp [sy_n, sy_ev]; omega)⟩, by first | rfl | exact (sy_n0 rfl).trans (sy_n0 rfl).symm, ⟨rfl, rfl, by first | rfl | exact (sy_n0 rfl).trans rfl | exact (sy_n0 rfl).trans (sy_n0 rfl).symm | (simp [sy_n, sy_ev]; done) | (simp [sy_n, sy_ev]; omega)⟩, by first | rfl | exact (sy_n0 rfl).trans (sy_n0 rfl).symm, ⟨rfl, rfl, by first | rfl | exact (sy_n0 rfl).trans rfl | exact (sy_n0 rfl).trans (sy_n0 rfl).symm | (simp [sy_n, sy_ev]; done) | (simp [sy_n, sy_ev]; omega)⟩, by first | rfl | exact (sy_n0 rfl).trans (sy_n0 rfl).symm, ⟨rfl, rfl, by first | rfl | exact (sy_n0 rfl).trans rfl | exact (sy_n0 rfl).trans (sy_n0 rfl).symm | (simp [sy_n, sy_ev]; done) | (simp [sy_n, sy_ev]; omega)⟩, trivial⟩, ⟨by first | rfl | exact (sy_n0 rfl).trans (sy_n0 rfl).symm, rfl, rfl, rfl, trivial, ⟨by first | rfl | exact (sy_n0 rfl).trans (sy_n0 rfl).symm, rfl, rfl, rfl, trivial, ⟨by first | rfl | exact (sy_n0 rfl).trans (sy_n0 rfl).symm, rfl, rfl, rfl, trivial, ⟨by first | rfl | exact (sy_n0 rfl).trans (sy_n0 rfl).symm, rfl, rfl, rfl, trivial, ⟨by first | rfl | exact (sy_n0 rfl).trans (sy_n0 rfl).symm, rfl, rfl, rfl, trivial, trivial⟩⟩⟩⟩⟩⟩ hin
  obtain ⟨c2, r2, t2, e2, s2⟩ := pf_loop (L := L) (xs := xs) hn hr hf (n + 6) 0 c1 (by omega) hH0 ⟨e1, hme, hcl.eq fun q j h => (s1.1 q (Or.inl (by omega))).2 j, by omega⟩
  have hc4 : ge_c (lt n fa) (n + 6) (n + 6) = 4 := by
    obtain ⟨i1, a1, b1, -⟩ := lt_first (n := n) (fa := fa) 112 (by omega) (by omega)
    obtain ⟨i2, a2, b2, -⟩ := lt_first (n := n) (fa := fa) 113 (by omega) (by omega)
    obtain ⟨i3, a3, b3, -⟩ := lt_first (n := n) (fa := fa) 114 (by omega) (by omega)
    obtain ⟨i4, a4, b4, -⟩ := lt_first (n := n) (fa := fa) 115 (by omega) (by omega)
    unfold ge_c
    rw [a1, a2, a3, a4, if_pos (by omega), if_pos (by omega), if_pos (by omega), if_pos (by omega)]
    rfl
  rw [hc4] at t2
  have hAX : sy_T (sy_ev [(n : Int), (r : Int), 0, 0, 0, ((n + 6 : Nat) : Int)]) [] ge_AX c2 := sq_T.ok (T := ge_H) (pv := sy_ev [(n : Int), (r : Int), ((n + 6 : Nat) : Int), 4, 0, ((n + 6 : Nat) : Int)]) ⟨⟨rfl, rfl, ⟨rfl, ⟨rfl, rfl, by first | rfl | exact (sy_n0 rfl).trans rfl | exact (sy_n0 rfl).trans (sy_n0 rfl).symm | (simp [sy_n, sy_ev]; done) | (simp [sy_n, sy_ev]; omega)⟩, rfl, ⟨rfl, rfl, by first | rfl | exact (sy_n0 rfl).trans rfl | exact (sy_n0 rfl).trans (sy_n0 rfl).symm | (simp [sy_n, sy_ev]; done) | (simp [sy_n, sy_ev]; omega)⟩, rfl, ⟨rfl, rfl, by first | rfl | exact (sy_n0 rfl).trans rfl | exact (sy_n0 rfl).trans (sy_n0 rfl).symm | (simp [sy_n, sy_ev]; done) | (simp [sy_n, sy_ev]; omega)⟩, trivial⟩, trivial, ⟨rfl, rfl, ⟨rfl, ⟨rfl, rfl, by first | rfl | exact (sy_n0 rfl).trans rfl | exact (sy_n0 rfl).trans (sy_n0 rfl).symm | (simp [sy_n, sy_ev]; done) | (simp [sy_n, sy_ev]; omega)⟩, rfl, ⟨rfl, rfl, by first | rfl | exact (sy_n0 rfl).trans rfl | exact (sy_n0 rfl).trans (sy_n0 rfl).symm | (simp [sy_n, sy_ev]; done) | (simp [sy_n, sy_ev]; omega)⟩, trivial⟩, trivial, ⟨rfl, rfl, ⟨rfl, ⟨rfl, rfl, by first | rfl | exact (sy_n0 rfl).trans rfl | exact (sy_n0 rfl).trans (sy_n0 rfl).symm | (simp [sy_n, sy_ev]; done) | (simp [sy_n, sy_ev]; omega)⟩, rfl, ⟨rfl, rfl, by first | rfl | exact (sy_n0 rfl).trans rfl | exact (sy_n0 rfl).trans (sy_n0 rfl).symm | (simp [sy_n, sy_ev]; done) | (simp [sy_n, sy_ev]; omega)⟩, rfl, ⟨rfl, rfl, by first | rfl | exact (sy_n0 rfl).trans rfl | exact (sy_n0 rfl).trans (sy_n0 rfl).symm | (simp [sy_n, sy_ev]; done) | (simp [sy_n, sy_ev]; omega)⟩, rfl, ⟨rfl, rfl, by first | rfl | exact (sy_n0 rfl).trans rfl | exact (sy_n0 rfl).trans (sy_n0 rfl).symm | (simp [sy_n, sy_ev]; done) | (simp [sy_n, sy_ev]; omega)⟩, rfl, ⟨rfl, rfl, by first | rfl | exact (sy_n0 rfl).trans rfl | exact (sy_n0 rfl).trans (sy_n0 rfl).symm | (simp [sy_n, sy_ev]; done) | (simp [sy_n, sy_ev]; omega)⟩, trivial⟩, trivial, trivial⟩⟩⟩, ⟨by first | rfl | exact (sy_n0 rfl).trans (sy_n0 rfl).symm, rfl, rfl, rfl, ⟨by first | rfl | exact (sy_n0 rfl).trans (sy_n0 rfl).symm, ⟨rfl, rfl, by first | rfl | exact (sy_n0 rfl).trans rfl | exact (sy_n0 rfl).trans (sy_n0 rfl).symm | (simp [sy_n, sy_ev]; done) | (simp [sy_n, sy_ev]; omega)⟩, by first | rfl | exact (sy_n0 rfl).trans (sy_n0 rfl).symm, ⟨rfl, rfl, by first | rfl | exact (sy_n0 rfl).trans rfl | exact (sy_n0 rfl).trans (sy_n0 rfl).symm | (simp [sy_n, sy_ev]; done) | (simp [sy_n, sy_ev]; omega)⟩, by first | rfl | exact (sy_n0 rfl).trans (sy_n0 rfl).symm, ⟨rfl, rfl, by first | rfl | exact (sy_n0 rfl).trans rfl | exact (sy_n0 rfl).trans (sy_n0 rfl).symm | (simp [sy_n, sy_ev]; done) | (simp [sy_n, sy_ev]; omega)⟩, by first | rfl | exact (sy_n0 rfl).trans (sy_n0 rfl).symm, ⟨rfl, rfl, by first | rfl | exact (sy_n0 rfl).trans rfl | exact (sy_n0 rfl).trans (sy_n0 rfl).symm | (simp [sy_n, sy_ev]; done) | (simp [sy_n, sy_ev]; omega)⟩, by first | rfl | exact (sy_n0 rfl).trans (sy_n0 rfl).symm, ⟨rfl, rfl, by first | rfl | exact (sy_n0 rfl).trans rfl | exact (sy_n0 rfl).trans (sy_n0 rfl).symm | (simp [sy_n, sy_ev]; done) | (simp [sy_n, sy_ev]; omega)⟩, by first | rfl | exact (sy_n0 rfl).trans (sy_n0 rfl).symm, ⟨rfl, rfl, by first | rfl | exact (sy_n0 rfl).trans rfl | exact (sy_n0 rfl).trans (sy_n0 rfl).symm | (simp [sy_n, sy_ev]; done) | (simp [sy_n, sy_ev]; omega)⟩, by first | rfl | exact (sy_n0 rfl).trans (sy_n0 rfl).symm, ⟨rfl, rfl, by first | rfl | exact (sy_n0 rfl).trans rfl | exact (sy_n0 rfl).trans (sy_n0 rfl).symm | (simp [sy_n, sy_ev]; done) | (simp [sy_n, sy_ev]; omega)⟩, by first | rfl | exact (sy_n0 rfl).trans (sy_n0 rfl).symm, ⟨rfl, rfl, by first | rfl | exact (sy_n0 rfl).trans rfl | exact (sy_n0 rfl).trans (sy_n0 rfl).symm | (simp [sy_n, sy_ev]; done) | (simp [sy_n, sy_ev]; omega)⟩, by first | rfl | exact (sy_n0 rfl).trans (sy_n0 rfl).symm, ⟨rfl, rfl, by first | rfl | exact (sy_n0 rfl).trans rfl | exact (sy_n0 rfl).trans (sy_n0 rfl).symm | (simp [sy_n, sy_ev]; done) | (simp [sy_n, sy_ev]; omega)⟩, by first | rfl | exact (sy_n0 rfl).trans (sy_n0 rfl).symm, ⟨rfl, rfl, by first | rfl | exact (sy_n0 rfl).trans rfl | exact (sy_n0 rfl).trans (sy_n0 rfl).symm | (simp [sy_n, sy_ev]; done) | (simp [sy_n, sy_ev]; omega)⟩, by first | rfl | exact (sy_n0 rfl).trans (sy_n0 rfl).symm, ⟨rfl, rfl, by first | rfl | exact (sy_n0 rfl).trans rfl | exact (sy_n0 rfl).trans (sy_n0 rfl).symm | (simp [sy_n, sy_ev]; done) | (simp [sy_n, sy_ev]; omega)⟩, by first | rfl | exact (sy_n0 rfl).trans (sy_n0 rfl).symm, ⟨rfl, rfl, by first | rfl | exact (sy_n0 rfl).trans rfl | exact (sy_n0 rfl).trans (sy_n0 rfl).symm | (simp [sy_n, sy_ev]; done) | (simp [sy_n, sy_ev]; omega)⟩, by first | rfl | exact (sy_n0 rfl).trans (sy_n0 rfl).symm, ⟨rfl, rfl, by first | rfl | exact (sy_n0 rfl).trans rfl | exact (sy_n0 rfl).trans (sy_n0 rfl).symm | (simp [sy_n, sy_ev]; done) | (simp [sy_n, sy_ev]; omega)⟩, trivial⟩, trivial⟩, rfl, rfl, rfl⟩ t2
  obtain ⟨c3, r3, t3, e3, ch3, -⟩ := ge_x_u (Nat.zero_le _) (n : Int) (r : Int) ((n + 6 : Nat) : Int) (by omega) (by omega) (by omega) (by omega) (by omega) (by omega) so_0 sx_0 hAX e2
  have k3 := tp (pv := sy_ev [(n : Int), (r : Int), 0, 0, 0, ((n + 6 : Nat) : Int)]) (by rfl) (by rfl) t3
  have k2 := tp (pv := sy_ev [(n : Int), (r : Int), 0, 0, 0, ((n + 6 : Nat) : Int)]) (by rfl) (by rfl) hAX
  have s3 : sy_sm c.2 c3.2 := s1.tr (s2.tr (sy_sm.of ch3 (by omega) (by omega) (by omega)))
  have keep : ∀ {pw : Nat → Int} {D : SyM}, sy_me pw D c.2 → sy_me pw D c3.2 := fun {pw D} h e he => by
    obtain ⟨q, g1, g2, g3, g4, g5⟩ := h e he
    refine ⟨q, g1, by rw [(s3.1 q g3).1]; exact g2, by rw [s3.2]; exact g3, fun p hp => ?_, fun d hd j hj => ?_⟩
    · obtain ⟨i, i1, i2⟩ := g4 p hp
      exact ⟨i, i1, by rw [(s3.1 q g3).2 i]; exact i2⟩
    · rw [(s3.1 q g3).2 j]
      exact g5 d hd j hj
  have hM3 : ∀ q j : Nat, q < 54 → c3.2.2.1 q j = c.2.2.1 q j := fun q j hq => (s3.1 q (Or.inl (by omega))).2 j
  refine ⟨c3, r1.tr (r2.tr r3), ⟨?_, keep hT.2.1, by rw [s3.2]; exact hT.2.2⟩, e3, keep hM, nd_keep hd fun q j h => hM3 q j (by omega), hcl.eq fun q j h => hM3 q j (by omega)⟩
  exact sq_Fs.ok (r := ge_TX.1) (pv := sy_ev [(n : Int), (r : Int), 0, 0, 0, ((n + 6 : Nat) : Int)]) ⟨rfl, rfl, ⟨rfl, ⟨rfl, rfl, by first | rfl | exact (sy_n0 rfl).trans rfl | exact (sy_n0 rfl).trans (sy_n0 rfl).symm | (simp [sy_n, sy_ev]; done) | (simp [sy_n, sy_ev]; omega)⟩, rfl, ⟨rfl, rfl, by first | rfl | exact (sy_n0 rfl).trans rfl | exact (sy_n0 rfl).trans (sy_n0 rfl).symm | (simp [sy_n, sy_ev]; done) | (simp [sy_n, sy_ev]; omega)⟩, rfl, ⟨rfl, rfl, by first | rfl | exact (sy_n0 rfl).trans rfl | exact (sy_n0 rfl).trans (sy_n0 rfl).symm | (simp [sy_n, sy_ev]; done) | (simp [sy_n, sy_ev]; omega)⟩, rfl, ⟨rfl, rfl, by first | rfl | exact (sy_n0 rfl).trans rfl | exact (sy_n0 rfl).trans (sy_n0 rfl).symm | (simp [sy_n, sy_ev]; done) | (simp [sy_n, sy_ev]; omega)⟩, rfl, ⟨rfl, rfl, by first | rfl | exact (sy_n0 rfl).trans rfl | exact (sy_n0 rfl).trans (sy_n0 rfl).symm | (simp [sy_n, sy_ev]; done) | (simp [sy_n, sy_ev]; omega)⟩, trivial⟩, trivial, trivial⟩ t3.1
end PfS
