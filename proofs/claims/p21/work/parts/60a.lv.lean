/-! PHASE G (written by wip/p21/gV.py): the goals, their searches to the end. -/
def jp_gd (n : Nat) (fa : Fa) : Bool := ek n fa 112 (jp_ok n fa) 0
def jq_gd (n : Nat) (fa : Fa) : Bool := ek n fa 113 (jq_ok n fa) 0
def ja_gd (n : Nat) (fa : Fa) : Bool := ek n fa 112 (ja_E n fa) 0 || ja_G n fa
def jx_gd (n : Nat) (fa : Fa) : Bool := ek n fa 112 (jx_ok n fa) 0
def jb_gd (n : Nat) (fa : Fa) : Bool := ek n fa 113 (jb_E n fa) 0 || jb_G n fa
theorem lv_p0 {R : SyM} {L : Nat} {xs : Nat → Int32} {rest : List MsF} {n : Nat} {fa : Fa} {be a0 a1 a2 : Int} {c : MsC} (hr : rest.length ≤ 15) (hP : PN jp_Q R 0 L xs n fa c) (hF : jz_F15 0 500 be rest c.1) (hM : jp_kA0 n fa 1 0 (-1) 0 a0 a1 a2 0 0 c.2) : ∃ (k s : Int) (c' : MsC), rch c c' ∧ PN jp_Q R 0 L xs n fa c' ∧ jz_F15 k 500 be rest c'.1 ∧ (0 ≤ k ∧ k ≤ 499) ∧ (0 ≤ s ∧ s ≤ 999) ∧ ((jp_gd n fa = true ∧ jz_kKS s a0 a1 a2 c'.2) ∨ (jp_gd n fa = false ∧ jz_kKO s a0 a1 a2 c'.2)) := by
  obtain ⟨c1, r1, p1, z1⟩ := jp_run (M0 := c.2.2.1) hr rfl ⟨by decide, by decide⟩ ⟨by decide, by decide⟩ ⟨by decide, by decide⟩ ⟨by decide, by decide⟩ ⟨by decide, by decide⟩ ⟨by decide, by decide⟩ ⟨by decide, by decide⟩ ⟨hP, fun _ _ _ => rfl⟩ hF hM
  rcases z1 with ⟨hg, f1, i, m1⟩ | ⟨hg, f1, m1⟩
  · cases hx : xq n fa i with
    | false =>
      obtain ⟨c2, r2, p2, f2, m2⟩ := jz_p0W0_m (by omega) p1 f1 m1 ⟨by omega, by omega⟩ ⟨by omega, by omega⟩ ⟨by omega, by omega⟩ hx
      exact ⟨_, _, c2, r1.tr r2, p2, f2, ⟨by omega, by omega⟩, ⟨by omega, by omega⟩, Or.inl ⟨hg, m2⟩⟩
    | true =>
      obtain ⟨c2, r2, p2, f2, m2⟩ := jz_p0W1_m (by omega) p1 f1 m1 ⟨by omega, by omega⟩ ⟨by omega, by omega⟩ ⟨by omega, by omega⟩ hx
      exact ⟨_, _, c2, r1.tr r2, p2, f2, ⟨by omega, by omega⟩, ⟨by omega, by omega⟩, Or.inl ⟨hg, m2⟩⟩
  · obtain ⟨c2, r2, p2, f2, m2⟩ := jz_p0FK_m (by omega) p1 f1 m1 ⟨by omega, by omega⟩ ⟨by omega, by omega⟩ ⟨by omega, by omega⟩ ⟨by omega, by omega⟩
    exact ⟨_, _, c2, r1.tr r2, p2, f2, ⟨by omega, by omega⟩, ⟨by omega, by omega⟩, Or.inr ⟨hg, m2⟩⟩
theorem lv_p1 {R : SyM} {L : Nat} {xs : Nat → Int32} {rest : List MsF} {n : Nat} {fa : Fa} {be a0 a1 a2 : Int} {c : MsC} (hr : rest.length ≤ 15) (hP : PN jp_Q R 0 L xs n fa c) (hE : em_ok emL1 c.2.2.1) (hF : jz_F15 1 500 be rest c.1) (hM : jp_kA0 n fa 2 2 1 1 a0 a1 a2 0 1 c.2) : ∃ (k s : Int) (c' : MsC), rch c c' ∧ PN jp_Q R 0 L xs n fa c' ∧ jz_F15 k 500 be rest c'.1 ∧ (0 ≤ k ∧ k ≤ 499) ∧ (0 ≤ s ∧ s ≤ 999) ∧ ((jp_gd n fa = true ∧ jz_kKO s a0 a1 a2 c'.2) ∨ (jp_gd n fa = false ∧ jz_kKT s a0 a1 a2 c'.2)) := by
  obtain ⟨c1, r1, p1, z1⟩ := jp_run (M0 := c.2.2.1) hr rfl ⟨by decide, by decide⟩ ⟨by decide, by decide⟩ ⟨by decide, by decide⟩ ⟨by decide, by decide⟩ ⟨by decide, by decide⟩ ⟨by decide, by decide⟩ ⟨by decide, by decide⟩ ⟨hP, fun _ _ _ => rfl⟩ hF hM
  rcases z1 with ⟨hg, f1, i, m1⟩ | ⟨hg, f1, m1⟩
  · cases hx : xq n fa i with
    | false =>
      obtain ⟨c2, r2, p2, f2, m2⟩ := jz_p1W0_m (by omega) p1 hE f1 m1 ⟨by omega, by omega⟩ ⟨by omega, by omega⟩ ⟨by omega, by omega⟩ hx
      exact ⟨_, _, c2, r1.tr r2, p2, f2, ⟨by omega, by omega⟩, ⟨by omega, by omega⟩, Or.inl ⟨hg, m2⟩⟩
    | true =>
      obtain ⟨c2, r2, p2, f2, m2⟩ := jz_p1W1_m (by omega) p1 hE f1 m1 ⟨by omega, by omega⟩ ⟨by omega, by omega⟩ ⟨by omega, by omega⟩ hx
      exact ⟨_, _, c2, r1.tr r2, p2, f2, ⟨by omega, by omega⟩, ⟨by omega, by omega⟩, Or.inl ⟨hg, m2⟩⟩
  · obtain ⟨c2, r2, p2, f2, m2⟩ := jz_p1FK_m (by omega) p1 hE f1 m1 ⟨by omega, by omega⟩ ⟨by omega, by omega⟩ ⟨by omega, by omega⟩ ⟨by omega, by omega⟩
    exact ⟨_, _, c2, r1.tr r2, p2, f2, ⟨by omega, by omega⟩, ⟨by omega, by omega⟩, Or.inr ⟨hg, m2⟩⟩
theorem lv_p2 {R : SyM} {L : Nat} {xs : Nat → Int32} {rest : List MsF} {n : Nat} {fa : Fa} {be a0 a1 a2 : Int} {c : MsC} (hr : rest.length ≤ 15) (hP : PN jp_Q R 3 L xs n fa c) (hE : em_ok emL2 c.2.2.1) (hF : jz_F15 3 500 be rest c.1) (hM : jp_kA0 n fa 4 5 3 2 a0 a1 a2 3 2 c.2) : ∃ (k s : Int) (c' : MsC), rch c c' ∧ PN jp_Q R 3 L xs n fa c' ∧ jz_F15 k 500 be rest c'.1 ∧ (0 ≤ k ∧ k ≤ 499) ∧ (0 ≤ s ∧ s ≤ 999) ∧ ((jp_gd n fa = true ∧ jz_kKT s a0 a1 a2 c'.2) ∨ (jp_gd n fa = false ∧ jz_kKO s a0 a1 a2 c'.2)) := by
  obtain ⟨c1, r1, p1, z1⟩ := jp_run (M0 := c.2.2.1) hr rfl ⟨by decide, by decide⟩ ⟨by decide, by decide⟩ ⟨by decide, by decide⟩ ⟨by decide, by decide⟩ ⟨by decide, by decide⟩ ⟨by decide, by decide⟩ ⟨by decide, by decide⟩ ⟨hP, fun _ _ _ => rfl⟩ hF hM
  rcases z1 with ⟨hg, f1, i, m1⟩ | ⟨hg, f1, m1⟩
  · cases hx : xq n fa i with
    | false =>
      obtain ⟨c2, r2, p2, f2, m2⟩ := jz_p2W0_m (by omega) p1 hE f1 m1 ⟨by omega, by omega⟩ ⟨by omega, by omega⟩ ⟨by omega, by omega⟩ hx
      exact ⟨_, _, c2, r1.tr r2, p2, f2, ⟨by omega, by omega⟩, ⟨by omega, by omega⟩, Or.inl ⟨hg, m2⟩⟩
    | true =>
      obtain ⟨c2, r2, p2, f2, m2⟩ := jz_p2W1_m (by omega) p1 hE f1 m1 ⟨by omega, by omega⟩ ⟨by omega, by omega⟩ ⟨by omega, by omega⟩ hx
      exact ⟨_, _, c2, r1.tr r2, p2, f2, ⟨by omega, by omega⟩, ⟨by omega, by omega⟩, Or.inl ⟨hg, m2⟩⟩
  · obtain ⟨c2, r2, p2, f2, m2⟩ := jz_p2FK_m (by omega) p1 hE f1 m1 ⟨by omega, by omega⟩ ⟨by omega, by omega⟩ ⟨by omega, by omega⟩ ⟨by omega, by omega⟩
    exact ⟨_, _, c2, r1.tr r2, p2, f2, ⟨by omega, by omega⟩, ⟨by omega, by omega⟩, Or.inr ⟨hg, m2⟩⟩
theorem lv_q0 {R : SyM} {L : Nat} {xs : Nat → Int32} {rest : List MsF} {n : Nat} {fa : Fa} {be a0 a1 a2 : Int} {c : MsC} (hr : rest.length ≤ 15) (hP : PN jq_Q R 0 L xs n fa c) (hF : jz_F15 0 500 be rest c.1) (hM : jq_kA0 n fa 1 0 (-1) 0 a0 a1 a2 0 0 c.2) : ∃ (k s : Int) (c' : MsC), rch c c' ∧ PN jq_Q R 0 L xs n fa c' ∧ jz_F15 k 500 be rest c'.1 ∧ (0 ≤ k ∧ k ≤ 499) ∧ (0 ≤ s ∧ s ≤ 999) ∧ ((jq_gd n fa = true ∧ jz_kKS s a0 a1 a2 c'.2) ∨ (jq_gd n fa = false ∧ jz_kKO s a0 a1 a2 c'.2)) := by
  obtain ⟨c1, r1, p1, z1⟩ := jq_run (M0 := c.2.2.1) hr rfl ⟨by decide, by decide⟩ ⟨by decide, by decide⟩ ⟨by decide, by decide⟩ ⟨by decide, by decide⟩ ⟨by decide, by decide⟩ ⟨by decide, by decide⟩ ⟨by decide, by decide⟩ ⟨hP, fun _ _ _ => rfl⟩ hF hM
  rcases z1 with ⟨hg, f1, i, m1⟩ | ⟨hg, f1, m1⟩
  · cases hx : xq n fa i with
    | false =>
      obtain ⟨c2, r2, p2, f2, m2⟩ := jz_q0W0_m (by omega) p1 f1 m1 ⟨by omega, by omega⟩ ⟨by omega, by omega⟩ ⟨by omega, by omega⟩ hx
      exact ⟨_, _, c2, r1.tr r2, p2, f2, ⟨by omega, by omega⟩, ⟨by omega, by omega⟩, Or.inl ⟨hg, m2⟩⟩
    | true =>
      obtain ⟨c2, r2, p2, f2, m2⟩ := jz_q0W1_m (by omega) p1 f1 m1 ⟨by omega, by omega⟩ ⟨by omega, by omega⟩ ⟨by omega, by omega⟩ hx
      exact ⟨_, _, c2, r1.tr r2, p2, f2, ⟨by omega, by omega⟩, ⟨by omega, by omega⟩, Or.inl ⟨hg, m2⟩⟩
  · obtain ⟨c2, r2, p2, f2, m2⟩ := jz_q0FK_m (by omega) p1 f1 m1 ⟨by omega, by omega⟩ ⟨by omega, by omega⟩ ⟨by omega, by omega⟩ ⟨by omega, by omega⟩
    exact ⟨_, _, c2, r1.tr r2, p2, f2, ⟨by omega, by omega⟩, ⟨by omega, by omega⟩, Or.inr ⟨hg, m2⟩⟩
theorem lv_q1 {R : SyM} {L : Nat} {xs : Nat → Int32} {rest : List MsF} {n : Nat} {fa : Fa} {be a0 a1 a2 : Int} {c : MsC} (hr : rest.length ≤ 15) (hP : PN jq_Q R 0 L xs n fa c) (hE : em_ok emL1 c.2.2.1) (hF : jz_F15 1 500 be rest c.1) (hM : jq_kA0 n fa 2 2 1 1 a0 a1 a2 0 1 c.2) : ∃ (k s : Int) (c' : MsC), rch c c' ∧ PN jq_Q R 0 L xs n fa c' ∧ jz_F15 k 500 be rest c'.1 ∧ (0 ≤ k ∧ k ≤ 499) ∧ (0 ≤ s ∧ s ≤ 999) ∧ ((jq_gd n fa = true ∧ jz_kKO s a0 a1 a2 c'.2) ∨ (jq_gd n fa = false ∧ jz_kKT s a0 a1 a2 c'.2)) := by
  obtain ⟨c1, r1, p1, z1⟩ := jq_run (M0 := c.2.2.1) hr rfl ⟨by decide, by decide⟩ ⟨by decide, by decide⟩ ⟨by decide, by decide⟩ ⟨by decide, by decide⟩ ⟨by decide, by decide⟩ ⟨by decide, by decide⟩ ⟨by decide, by decide⟩ ⟨hP, fun _ _ _ => rfl⟩ hF hM
  rcases z1 with ⟨hg, f1, i, m1⟩ | ⟨hg, f1, m1⟩
  · cases hx : xq n fa i with
    | false =>
      obtain ⟨c2, r2, p2, f2, m2⟩ := jz_q1W0_m (by omega) p1 hE f1 m1 ⟨by omega, by omega⟩ ⟨by omega, by omega⟩ ⟨by omega, by omega⟩ hx
      exact ⟨_, _, c2, r1.tr r2, p2, f2, ⟨by omega, by omega⟩, ⟨by omega, by omega⟩, Or.inl ⟨hg, m2⟩⟩
    | true =>
      obtain ⟨c2, r2, p2, f2, m2⟩ := jz_q1W1_m (by omega) p1 hE f1 m1 ⟨by omega, by omega⟩ ⟨by omega, by omega⟩ ⟨by omega, by omega⟩ hx
      exact ⟨_, _, c2, r1.tr r2, p2, f2, ⟨by omega, by omega⟩, ⟨by omega, by omega⟩, Or.inl ⟨hg, m2⟩⟩
  · obtain ⟨c2, r2, p2, f2, m2⟩ := jz_q1FK_m (by omega) p1 hE f1 m1 ⟨by omega, by omega⟩ ⟨by omega, by omega⟩ ⟨by omega, by omega⟩ ⟨by omega, by omega⟩
    exact ⟨_, _, c2, r1.tr r2, p2, f2, ⟨by omega, by omega⟩, ⟨by omega, by omega⟩, Or.inr ⟨hg, m2⟩⟩
theorem lv_q2 {R : SyM} {L : Nat} {xs : Nat → Int32} {rest : List MsF} {n : Nat} {fa : Fa} {be a0 a1 a2 : Int} {c : MsC} (hr : rest.length ≤ 15) (hP : PN jq_Q R 3 L xs n fa c) (hE : em_ok emL2 c.2.2.1) (hF : jz_F15 3 500 be rest c.1) (hM : jq_kA0 n fa 4 5 3 2 a0 a1 a2 3 2 c.2) : ∃ (k s : Int) (c' : MsC), rch c c' ∧ PN jq_Q R 3 L xs n fa c' ∧ jz_F15 k 500 be rest c'.1 ∧ (0 ≤ k ∧ k ≤ 499) ∧ (0 ≤ s ∧ s ≤ 999) ∧ ((jq_gd n fa = true ∧ jz_kKT s a0 a1 a2 c'.2) ∨ (jq_gd n fa = false ∧ jz_kKO s a0 a1 a2 c'.2)) := by
  obtain ⟨c1, r1, p1, z1⟩ := jq_run (M0 := c.2.2.1) hr rfl ⟨by decide, by decide⟩ ⟨by decide, by decide⟩ ⟨by decide, by decide⟩ ⟨by decide, by decide⟩ ⟨by decide, by decide⟩ ⟨by decide, by decide⟩ ⟨by decide, by decide⟩ ⟨hP, fun _ _ _ => rfl⟩ hF hM
  rcases z1 with ⟨hg, f1, i, m1⟩ | ⟨hg, f1, m1⟩
  · cases hx : xq n fa i with
    | false =>
      obtain ⟨c2, r2, p2, f2, m2⟩ := jz_q2W0_m (by omega) p1 hE f1 m1 ⟨by omega, by omega⟩ ⟨by omega, by omega⟩ ⟨by omega, by omega⟩ hx
      exact ⟨_, _, c2, r1.tr r2, p2, f2, ⟨by omega, by omega⟩, ⟨by omega, by omega⟩, Or.inl ⟨hg, m2⟩⟩
    | true =>
      obtain ⟨c2, r2, p2, f2, m2⟩ := jz_q2W1_m (by omega) p1 hE f1 m1 ⟨by omega, by omega⟩ ⟨by omega, by omega⟩ ⟨by omega, by omega⟩ hx
      exact ⟨_, _, c2, r1.tr r2, p2, f2, ⟨by omega, by omega⟩, ⟨by omega, by omega⟩, Or.inl ⟨hg, m2⟩⟩
  · obtain ⟨c2, r2, p2, f2, m2⟩ := jz_q2FK_m (by omega) p1 hE f1 m1 ⟨by omega, by omega⟩ ⟨by omega, by omega⟩ ⟨by omega, by omega⟩ ⟨by omega, by omega⟩
    exact ⟨_, _, c2, r1.tr r2, p2, f2, ⟨by omega, by omega⟩, ⟨by omega, by omega⟩, Or.inr ⟨hg, m2⟩⟩
theorem lv_a0 {R : SyM} {L : Nat} {xs : Nat → Int32} {rest : List MsF} {n : Nat} {fa : Fa} {be a0 a1 a2 : Int} {c : MsC} (hr : rest.length ≤ 15) (hP : PN ja_Q R 0 L xs n fa c) (hF : jz_F15 0 500 be rest c.1) (hM : ja_kA0 n fa 0 (-1) 0 a0 a1 a2 0 0 1 c.2) : ∃ (k s : Int) (c' : MsC), rch c c' ∧ PN ja_Q R 0 L xs n fa c' ∧ jz_F15 k 500 be rest c'.1 ∧ (0 ≤ k ∧ k ≤ 499) ∧ (0 ≤ s ∧ s ≤ 999) ∧ ((ja_gd n fa = true ∧ jz_kKS s a0 a1 a2 c'.2) ∨ (ja_gd n fa = false ∧ jz_kKO s a0 a1 a2 c'.2)) := by
  obtain ⟨c1, r1, p1, z1⟩ := ja_run (M0 := c.2.2.1) hr rfl ⟨by decide, by decide⟩ ⟨by decide, by decide⟩ ⟨by decide, by decide⟩ ⟨by decide, by decide⟩ ⟨by decide, by decide⟩ ⟨by decide, by decide⟩ ⟨by decide, by decide⟩ ⟨hP, fun _ _ _ => rfl⟩ hF hM
  rcases z1 with ⟨hg, k, s, t, i, j, hk, hs, ht, f1, ⟨hft, hi, m1⟩ | m1⟩ | ⟨hg, k, s, t, hk, hs, ht, f1, m1⟩
  · cases hx : xq n fa i with
    | false =>
      cases hy : xq n fa j with
      | false =>
        obtain ⟨c2, r2, p2, f2, m2⟩ := jz_a0W00_m (by omega) p1 f1 m1 ⟨by omega, by omega⟩ ⟨by omega, by omega⟩ ⟨by omega, by omega⟩ ⟨by omega, by omega⟩ ⟨by omega, by omega⟩ hi (by omega) (by omega) (by omega) hx hy
        exact ⟨_, _, c2, r1.tr r2, p2, f2, ⟨by omega, by omega⟩, ⟨by omega, by omega⟩, Or.inl ⟨hg, m2⟩⟩
      | true =>
        obtain ⟨c2, r2, p2, f2, m2⟩ := jz_a0W01_m (by omega) p1 f1 m1 ⟨by omega, by omega⟩ ⟨by omega, by omega⟩ ⟨by omega, by omega⟩ ⟨by omega, by omega⟩ ⟨by omega, by omega⟩ hi (by omega) (by omega) (by omega) hx hy
        exact ⟨_, _, c2, r1.tr r2, p2, f2, ⟨by omega, by omega⟩, ⟨by omega, by omega⟩, Or.inl ⟨hg, m2⟩⟩
    | true =>
      cases hy : xq n fa j with
      | false =>
        obtain ⟨c2, r2, p2, f2, m2⟩ := jz_a0W10_m (by omega) p1 f1 m1 ⟨by omega, by omega⟩ ⟨by omega, by omega⟩ ⟨by omega, by omega⟩ ⟨by omega, by omega⟩ ⟨by omega, by omega⟩ hi (by omega) (by omega) (by omega) hx hy
        exact ⟨_, _, c2, r1.tr r2, p2, f2, ⟨by omega, by omega⟩, ⟨by omega, by omega⟩, Or.inl ⟨hg, m2⟩⟩
      | true =>
        obtain ⟨c2, r2, p2, f2, m2⟩ := jz_a0W11_m (by omega) p1 f1 m1 ⟨by omega, by omega⟩ ⟨by omega, by omega⟩ ⟨by omega, by omega⟩ ⟨by omega, by omega⟩ ⟨by omega, by omega⟩ hi (by omega) (by omega) (by omega) hx hy
        exact ⟨_, _, c2, r1.tr r2, p2, f2, ⟨by omega, by omega⟩, ⟨by omega, by omega⟩, Or.inl ⟨hg, m2⟩⟩
  · cases hx : xq n fa i with
    | false =>
      obtain ⟨c2, r2, p2, f2, m2⟩ := jz_a0W20_m (by omega) p1 f1 m1 ⟨by omega, by omega⟩ ⟨by omega, by omega⟩ ⟨by omega, by omega⟩ ⟨by omega, by omega⟩ (by omega) hx
      exact ⟨_, _, c2, r1.tr r2, p2, f2, ⟨by omega, by omega⟩, ⟨by omega, by omega⟩, Or.inl ⟨hg, m2⟩⟩
    | true =>
      obtain ⟨c2, r2, p2, f2, m2⟩ := jz_a0W21_m (by omega) p1 f1 m1 ⟨by omega, by omega⟩ ⟨by omega, by omega⟩ ⟨by omega, by omega⟩ ⟨by omega, by omega⟩ (by omega) hx
      exact ⟨_, _, c2, r1.tr r2, p2, f2, ⟨by omega, by omega⟩, ⟨by omega, by omega⟩, Or.inl ⟨hg, m2⟩⟩
  · obtain ⟨c2, r2, p2, f2, m2⟩ := jz_a0FK_m (by omega) p1 f1 m1 ⟨by omega, by omega⟩ ⟨by omega, by omega⟩ ⟨by omega, by omega⟩ ⟨by omega, by omega⟩ ⟨by omega, by omega⟩ (by omega)
    exact ⟨_, _, c2, r1.tr r2, p2, f2, ⟨by omega, by omega⟩, ⟨by omega, by omega⟩, Or.inr ⟨hg, m2⟩⟩
theorem lv_a1 {R : SyM} {L : Nat} {xs : Nat → Int32} {rest : List MsF} {n : Nat} {fa : Fa} {be a0 a1 a2 : Int} {c : MsC} (hr : rest.length ≤ 15) (hP : PN ja_Q R 0 L xs n fa c) (hE : em_ok emL1 c.2.2.1) (hF : jz_F15 1 500 be rest c.1) (hM : ja_kA0 n fa 2 1 1 a0 a1 a2 0 1 2 c.2) : ∃ (k s : Int) (c' : MsC), rch c c' ∧ PN ja_Q R 0 L xs n fa c' ∧ jz_F15 k 500 be rest c'.1 ∧ (0 ≤ k ∧ k ≤ 499) ∧ (0 ≤ s ∧ s ≤ 999) ∧ ((ja_gd n fa = true ∧ jz_kKO s a0 a1 a2 c'.2) ∨ (ja_gd n fa = false ∧ jz_kKT s a0 a1 a2 c'.2)) := by
  obtain ⟨c1, r1, p1, z1⟩ := ja_run (M0 := c.2.2.1) hr rfl ⟨by decide, by decide⟩ ⟨by decide, by decide⟩ ⟨by decide, by decide⟩ ⟨by decide, by decide⟩ ⟨by decide, by decide⟩ ⟨by decide, by decide⟩ ⟨by decide, by decide⟩ ⟨hP, fun _ _ _ => rfl⟩ hF hM
  rcases z1 with ⟨hg, k, s, t, i, j, hk, hs, ht, f1, ⟨hft, hi, m1⟩ | m1⟩ | ⟨hg, k, s, t, hk, hs, ht, f1, m1⟩
  · cases hx : xq n fa i with
    | false =>
      cases hy : xq n fa j with
      | false =>
        obtain ⟨c2, r2, p2, f2, m2⟩ := jz_a1W00_m (by omega) p1 hE f1 m1 ⟨by omega, by omega⟩ ⟨by omega, by omega⟩ ⟨by omega, by omega⟩ ⟨by omega, by omega⟩ ⟨by omega, by omega⟩ hi (by omega) (by omega) (by omega) hx hy
        exact ⟨_, _, c2, r1.tr r2, p2, f2, ⟨by omega, by omega⟩, ⟨by omega, by omega⟩, Or.inl ⟨hg, m2⟩⟩
      | true =>
        obtain ⟨c2, r2, p2, f2, m2⟩ := jz_a1W01_m (by omega) p1 hE f1 m1 ⟨by omega, by omega⟩ ⟨by omega, by omega⟩ ⟨by omega, by omega⟩ ⟨by omega, by omega⟩ ⟨by omega, by omega⟩ hi (by omega) (by omega) (by omega) hx hy
        exact ⟨_, _, c2, r1.tr r2, p2, f2, ⟨by omega, by omega⟩, ⟨by omega, by omega⟩, Or.inl ⟨hg, m2⟩⟩
    | true =>
      cases hy : xq n fa j with
      | false =>
        obtain ⟨c2, r2, p2, f2, m2⟩ := jz_a1W10_m (by omega) p1 hE f1 m1 ⟨by omega, by omega⟩ ⟨by omega, by omega⟩ ⟨by omega, by omega⟩ ⟨by omega, by omega⟩ ⟨by omega, by omega⟩ hi (by omega) (by omega) (by omega) hx hy
        exact ⟨_, _, c2, r1.tr r2, p2, f2, ⟨by omega, by omega⟩, ⟨by omega, by omega⟩, Or.inl ⟨hg, m2⟩⟩
      | true =>
        obtain ⟨c2, r2, p2, f2, m2⟩ := jz_a1W11_m (by omega) p1 hE f1 m1 ⟨by omega, by omega⟩ ⟨by omega, by omega⟩ ⟨by omega, by omega⟩ ⟨by omega, by omega⟩ ⟨by omega, by omega⟩ hi (by omega) (by omega) (by omega) hx hy
        exact ⟨_, _, c2, r1.tr r2, p2, f2, ⟨by omega, by omega⟩, ⟨by omega, by omega⟩, Or.inl ⟨hg, m2⟩⟩
  · cases hx : xq n fa i with
    | false =>
      obtain ⟨c2, r2, p2, f2, m2⟩ := jz_a1W20_m (by omega) p1 hE f1 m1 ⟨by omega, by omega⟩ ⟨by omega, by omega⟩ ⟨by omega, by omega⟩ ⟨by omega, by omega⟩ (by omega) hx
      exact ⟨_, _, c2, r1.tr r2, p2, f2, ⟨by omega, by omega⟩, ⟨by omega, by omega⟩, Or.inl ⟨hg, m2⟩⟩
    | true =>
      obtain ⟨c2, r2, p2, f2, m2⟩ := jz_a1W21_m (by omega) p1 hE f1 m1 ⟨by omega, by omega⟩ ⟨by omega, by omega⟩ ⟨by omega, by omega⟩ ⟨by omega, by omega⟩ (by omega) hx
      exact ⟨_, _, c2, r1.tr r2, p2, f2, ⟨by omega, by omega⟩, ⟨by omega, by omega⟩, Or.inl ⟨hg, m2⟩⟩
  · obtain ⟨c2, r2, p2, f2, m2⟩ := jz_a1FK_m (by omega) p1 hE f1 m1 ⟨by omega, by omega⟩ ⟨by omega, by omega⟩ ⟨by omega, by omega⟩ ⟨by omega, by omega⟩ ⟨by omega, by omega⟩ (by omega)
    exact ⟨_, _, c2, r1.tr r2, p2, f2, ⟨by omega, by omega⟩, ⟨by omega, by omega⟩, Or.inr ⟨hg, m2⟩⟩
theorem lv_a2 {R : SyM} {L : Nat} {xs : Nat → Int32} {rest : List MsF} {n : Nat} {fa : Fa} {be a0 a1 a2 : Int} {c : MsC} (hr : rest.length ≤ 15) (hP : PN ja_Q R 3 L xs n fa c) (hE : em_ok emL2 c.2.2.1) (hF : jz_F15 3 500 be rest c.1) (hM : ja_kA0 n fa 5 3 2 a0 a1 a2 3 2 4 c.2) : ∃ (k s : Int) (c' : MsC), rch c c' ∧ PN ja_Q R 3 L xs n fa c' ∧ jz_F15 k 500 be rest c'.1 ∧ (0 ≤ k ∧ k ≤ 499) ∧ (0 ≤ s ∧ s ≤ 999) ∧ ((ja_gd n fa = true ∧ jz_kKT s a0 a1 a2 c'.2) ∨ (ja_gd n fa = false ∧ jz_kKO s a0 a1 a2 c'.2)) := by
  obtain ⟨c1, r1, p1, z1⟩ := ja_run (M0 := c.2.2.1) hr rfl ⟨by decide, by decide⟩ ⟨by decide, by decide⟩ ⟨by decide, by decide⟩ ⟨by decide, by decide⟩ ⟨by decide, by decide⟩ ⟨by decide, by decide⟩ ⟨by decide, by decide⟩ ⟨hP, fun _ _ _ => rfl⟩ hF hM
  rcases z1 with ⟨hg, k, s, t, i, j, hk, hs, ht, f1, ⟨hft, hi, m1⟩ | m1⟩ | ⟨hg, k, s, t, hk, hs, ht, f1, m1⟩
  · cases hx : xq n fa i with
    | false =>
      cases hy : xq n fa j with
      | false =>
        obtain ⟨c2, r2, p2, f2, m2⟩ := jz_a2W00_m (by omega) p1 hE f1 m1 ⟨by omega, by omega⟩ ⟨by omega, by omega⟩ ⟨by omega, by omega⟩ ⟨by omega, by omega⟩ ⟨by omega, by omega⟩ hi (by omega) (by omega) (by omega) hx hy
        exact ⟨_, _, c2, r1.tr r2, p2, f2, ⟨by omega, by omega⟩, ⟨by omega, by omega⟩, Or.inl ⟨hg, m2⟩⟩
      | true =>
        obtain ⟨c2, r2, p2, f2, m2⟩ := jz_a2W01_m (by omega) p1 hE f1 m1 ⟨by omega, by omega⟩ ⟨by omega, by omega⟩ ⟨by omega, by omega⟩ ⟨by omega, by omega⟩ ⟨by omega, by omega⟩ hi (by omega) (by omega) (by omega) hx hy
        exact ⟨_, _, c2, r1.tr r2, p2, f2, ⟨by omega, by omega⟩, ⟨by omega, by omega⟩, Or.inl ⟨hg, m2⟩⟩
    | true =>
      cases hy : xq n fa j with
      | false =>
        obtain ⟨c2, r2, p2, f2, m2⟩ := jz_a2W10_m (by omega) p1 hE f1 m1 ⟨by omega, by omega⟩ ⟨by omega, by omega⟩ ⟨by omega, by omega⟩ ⟨by omega, by omega⟩ ⟨by omega, by omega⟩ hi (by omega) (by omega) (by omega) hx hy
        exact ⟨_, _, c2, r1.tr r2, p2, f2, ⟨by omega, by omega⟩, ⟨by omega, by omega⟩, Or.inl ⟨hg, m2⟩⟩
      | true =>
        obtain ⟨c2, r2, p2, f2, m2⟩ := jz_a2W11_m (by omega) p1 hE f1 m1 ⟨by omega, by omega⟩ ⟨by omega, by omega⟩ ⟨by omega, by omega⟩ ⟨by omega, by omega⟩ ⟨by omega, by omega⟩ hi (by omega) (by omega) (by omega) hx hy
        exact ⟨_, _, c2, r1.tr r2, p2, f2, ⟨by omega, by omega⟩, ⟨by omega, by omega⟩, Or.inl ⟨hg, m2⟩⟩
  · cases hx : xq n fa i with
    | false =>
      obtain ⟨c2, r2, p2, f2, m2⟩ := jz_a2W20_m (by omega) p1 hE f1 m1 ⟨by omega, by omega⟩ ⟨by omega, by omega⟩ ⟨by omega, by omega⟩ ⟨by omega, by omega⟩ (by omega) hx
      exact ⟨_, _, c2, r1.tr r2, p2, f2, ⟨by omega, by omega⟩, ⟨by omega, by omega⟩, Or.inl ⟨hg, m2⟩⟩
    | true =>
      obtain ⟨c2, r2, p2, f2, m2⟩ := jz_a2W21_m (by omega) p1 hE f1 m1 ⟨by omega, by omega⟩ ⟨by omega, by omega⟩ ⟨by omega, by omega⟩ ⟨by omega, by omega⟩ (by omega) hx
      exact ⟨_, _, c2, r1.tr r2, p2, f2, ⟨by omega, by omega⟩, ⟨by omega, by omega⟩, Or.inl ⟨hg, m2⟩⟩
  · obtain ⟨c2, r2, p2, f2, m2⟩ := jz_a2FK_m (by omega) p1 hE f1 m1 ⟨by omega, by omega⟩ ⟨by omega, by omega⟩ ⟨by omega, by omega⟩ ⟨by omega, by omega⟩ ⟨by omega, by omega⟩ (by omega)
    exact ⟨_, _, c2, r1.tr r2, p2, f2, ⟨by omega, by omega⟩, ⟨by omega, by omega⟩, Or.inr ⟨hg, m2⟩⟩
theorem lv_x0 {R : SyM} {L : Nat} {xs : Nat → Int32} {rest : List MsF} {n : Nat} {fa : Fa} {be a0 a1 a2 : Int} {c : MsC} (hr : rest.length ≤ 15) (hP : PN jx_Q R 0 L xs n fa c) (hF : jz_F15 0 500 be rest c.1) (hM : jx_kA0 n fa 1 0 (-1) 0 a0 a1 a2 0 0 c.2) : ∃ (k s : Int) (c' : MsC), rch c c' ∧ PN jx_Q R 0 L xs n fa c' ∧ jz_F15 k 500 be rest c'.1 ∧ (0 ≤ k ∧ k ≤ 499) ∧ (0 ≤ s ∧ s ≤ 999) ∧ ((jx_gd n fa = true ∧ jz_kKS s a0 a1 a2 c'.2) ∨ (jx_gd n fa = false ∧ jz_kKO s a0 a1 a2 c'.2)) := by
  obtain ⟨c1, r1, p1, z1⟩ := jx_run (M0 := c.2.2.1) hr rfl ⟨by decide, by decide⟩ ⟨by decide, by decide⟩ ⟨by decide, by decide⟩ ⟨by decide, by decide⟩ ⟨by decide, by decide⟩ ⟨by decide, by decide⟩ ⟨by decide, by decide⟩ ⟨hP, fun _ _ _ => rfl⟩ hF hM
  rcases z1 with ⟨hg, k, s, t, i, j, hk, hs, ht, hi, f1, m1⟩ | ⟨hg, k, s, t, kb, i, hk, hs, hkb, f1, m1 | ⟨ht, hi, m1⟩⟩
  · cases hx : xq n fa i with
    | false =>
      cases hy : xq n fa j with
      | false =>
        obtain ⟨c2, r2, p2, f2, m2⟩ := jz_x0W00_m (by omega) p1 f1 m1 ⟨by omega, by omega⟩ ⟨by omega, by omega⟩ ⟨by omega, by omega⟩ ⟨by omega, by omega⟩ hi (by omega) hx hy
        exact ⟨_, _, c2, r1.tr r2, p2, f2, ⟨by omega, by omega⟩, ⟨by omega, by omega⟩, Or.inl ⟨hg, m2⟩⟩
      | true =>
        obtain ⟨c2, r2, p2, f2, m2⟩ := jz_x0W01_m (by omega) p1 f1 m1 ⟨by omega, by omega⟩ ⟨by omega, by omega⟩ ⟨by omega, by omega⟩ ⟨by omega, by omega⟩ hi (by omega) hx hy
        exact ⟨_, _, c2, r1.tr r2, p2, f2, ⟨by omega, by omega⟩, ⟨by omega, by omega⟩, Or.inl ⟨hg, m2⟩⟩
    | true =>
      cases hy : xq n fa j with
      | false =>
        obtain ⟨c2, r2, p2, f2, m2⟩ := jz_x0W10_m (by omega) p1 f1 m1 ⟨by omega, by omega⟩ ⟨by omega, by omega⟩ ⟨by omega, by omega⟩ ⟨by omega, by omega⟩ hi (by omega) hx hy
        exact ⟨_, _, c2, r1.tr r2, p2, f2, ⟨by omega, by omega⟩, ⟨by omega, by omega⟩, Or.inl ⟨hg, m2⟩⟩
      | true =>
        obtain ⟨c2, r2, p2, f2, m2⟩ := jz_x0W11_m (by omega) p1 f1 m1 ⟨by omega, by omega⟩ ⟨by omega, by omega⟩ ⟨by omega, by omega⟩ ⟨by omega, by omega⟩ hi (by omega) hx hy
        exact ⟨_, _, c2, r1.tr r2, p2, f2, ⟨by omega, by omega⟩, ⟨by omega, by omega⟩, Or.inl ⟨hg, m2⟩⟩
  · obtain ⟨c2, r2, p2, f2, m2⟩ := jz_x0FK_m (by omega) p1 f1 m1 ⟨by omega, by omega⟩ ⟨by omega, by omega⟩ ⟨by omega, by omega⟩ ⟨by omega, by omega⟩
    exact ⟨_, _, c2, r1.tr r2, p2, f2, ⟨by omega, by omega⟩, ⟨by omega, by omega⟩, Or.inr ⟨hg, m2⟩⟩
  · cases hx : xq n fa i with
    | false =>
      obtain ⟨c2, r2, p2, f2, m2⟩ := jz_x0FQ0_m (by omega) p1 f1 m1 ⟨by omega, by omega⟩ ⟨by omega, by omega⟩ ⟨by omega, by omega⟩ ⟨by omega, by omega⟩ ⟨by omega, by omega⟩ hi (by omega) hx
      exact ⟨_, _, c2, r1.tr r2, p2, f2, ⟨by omega, by omega⟩, ⟨by omega, by omega⟩, Or.inr ⟨hg, m2⟩⟩
    | true =>
      obtain ⟨c2, r2, p2, f2, m2⟩ := jz_x0FQ1_m (by omega) p1 f1 m1 ⟨by omega, by omega⟩ ⟨by omega, by omega⟩ ⟨by omega, by omega⟩ ⟨by omega, by omega⟩ ⟨by omega, by omega⟩ hi (by omega) hx
      exact ⟨_, _, c2, r1.tr r2, p2, f2, ⟨by omega, by omega⟩, ⟨by omega, by omega⟩, Or.inr ⟨hg, m2⟩⟩
theorem lv_x1 {R : SyM} {L : Nat} {xs : Nat → Int32} {rest : List MsF} {n : Nat} {fa : Fa} {be a0 a1 a2 : Int} {c : MsC} (hr : rest.length ≤ 15) (hP : PN jx_Q R 0 L xs n fa c) (hE : em_ok emL1 c.2.2.1) (hF : jz_F15 1 500 be rest c.1) (hM : jx_kA0 n fa 2 2 1 1 a0 a1 a2 0 1 c.2) : ∃ (k s : Int) (c' : MsC), rch c c' ∧ PN jx_Q R 0 L xs n fa c' ∧ jz_F15 k 500 be rest c'.1 ∧ (0 ≤ k ∧ k ≤ 499) ∧ (0 ≤ s ∧ s ≤ 999) ∧ ((jx_gd n fa = true ∧ jz_kKO s a0 a1 a2 c'.2) ∨ (jx_gd n fa = false ∧ jz_kKT s a0 a1 a2 c'.2)) := by
  obtain ⟨c1, r1, p1, z1⟩ := jx_run (M0 := c.2.2.1) hr rfl ⟨by decide, by decide⟩ ⟨by decide, by decide⟩ ⟨by decide, by decide⟩ ⟨by decide, by decide⟩ ⟨by decide, by decide⟩ ⟨by decide, by decide⟩ ⟨by decide, by decide⟩ ⟨hP, fun _ _ _ => rfl⟩ hF hM
  rcases z1 with ⟨hg, k, s, t, i, j, hk, hs, ht, hi, f1, m1⟩ | ⟨hg, k, s, t, kb, i, hk, hs, hkb, f1, m1 | ⟨ht, hi, m1⟩⟩
  · cases hx : xq n fa i with
    | false =>
      cases hy : xq n fa j with
      | false =>
        obtain ⟨c2, r2, p2, f2, m2⟩ := jz_x1W00_m (by omega) p1 hE f1 m1 ⟨by omega, by omega⟩ ⟨by omega, by omega⟩ ⟨by omega, by omega⟩ ⟨by omega, by omega⟩ hi (by omega) hx hy
        exact ⟨_, _, c2, r1.tr r2, p2, f2, ⟨by omega, by omega⟩, ⟨by omega, by omega⟩, Or.inl ⟨hg, m2⟩⟩
      | true =>
        obtain ⟨c2, r2, p2, f2, m2⟩ := jz_x1W01_m (by omega) p1 hE f1 m1 ⟨by omega, by omega⟩ ⟨by omega, by omega⟩ ⟨by omega, by omega⟩ ⟨by omega, by omega⟩ hi (by omega) hx hy
        exact ⟨_, _, c2, r1.tr r2, p2, f2, ⟨by omega, by omega⟩, ⟨by omega, by omega⟩, Or.inl ⟨hg, m2⟩⟩
    | true =>
      cases hy : xq n fa j with
      | false =>
        obtain ⟨c2, r2, p2, f2, m2⟩ := jz_x1W10_m (by omega) p1 hE f1 m1 ⟨by omega, by omega⟩ ⟨by omega, by omega⟩ ⟨by omega, by omega⟩ ⟨by omega, by omega⟩ hi (by omega) hx hy
        exact ⟨_, _, c2, r1.tr r2, p2, f2, ⟨by omega, by omega⟩, ⟨by omega, by omega⟩, Or.inl ⟨hg, m2⟩⟩
      | true =>
        obtain ⟨c2, r2, p2, f2, m2⟩ := jz_x1W11_m (by omega) p1 hE f1 m1 ⟨by omega, by omega⟩ ⟨by omega, by omega⟩ ⟨by omega, by omega⟩ ⟨by omega, by omega⟩ hi (by omega) hx hy
        exact ⟨_, _, c2, r1.tr r2, p2, f2, ⟨by omega, by omega⟩, ⟨by omega, by omega⟩, Or.inl ⟨hg, m2⟩⟩
  · obtain ⟨c2, r2, p2, f2, m2⟩ := jz_x1FK_m (by omega) p1 hE f1 m1 ⟨by omega, by omega⟩ ⟨by omega, by omega⟩ ⟨by omega, by omega⟩ ⟨by omega, by omega⟩
    exact ⟨_, _, c2, r1.tr r2, p2, f2, ⟨by omega, by omega⟩, ⟨by omega, by omega⟩, Or.inr ⟨hg, m2⟩⟩
  · cases hx : xq n fa i with
    | false =>
      obtain ⟨c2, r2, p2, f2, m2⟩ := jz_x1FQ0_m (by omega) p1 hE f1 m1 ⟨by omega, by omega⟩ ⟨by omega, by omega⟩ ⟨by omega, by omega⟩ ⟨by omega, by omega⟩ ⟨by omega, by omega⟩ hi (by omega) hx
      exact ⟨_, _, c2, r1.tr r2, p2, f2, ⟨by omega, by omega⟩, ⟨by omega, by omega⟩, Or.inr ⟨hg, m2⟩⟩
    | true =>
      obtain ⟨c2, r2, p2, f2, m2⟩ := jz_x1FQ1_m (by omega) p1 hE f1 m1 ⟨by omega, by omega⟩ ⟨by omega, by omega⟩ ⟨by omega, by omega⟩ ⟨by omega, by omega⟩ ⟨by omega, by omega⟩ hi (by omega) hx
      exact ⟨_, _, c2, r1.tr r2, p2, f2, ⟨by omega, by omega⟩, ⟨by omega, by omega⟩, Or.inr ⟨hg, m2⟩⟩
theorem lv_x2 {R : SyM} {L : Nat} {xs : Nat → Int32} {rest : List MsF} {n : Nat} {fa : Fa} {be a0 a1 a2 : Int} {c : MsC} (hr : rest.length ≤ 15) (hP : PN jx_Q R 3 L xs n fa c) (hE : em_ok emL2 c.2.2.1) (hF : jz_F15 3 500 be rest c.1) (hM : jx_kA0 n fa 4 5 3 2 a0 a1 a2 3 2 c.2) : ∃ (k s : Int) (c' : MsC), rch c c' ∧ PN jx_Q R 3 L xs n fa c' ∧ jz_F15 k 500 be rest c'.1 ∧ (0 ≤ k ∧ k ≤ 499) ∧ (0 ≤ s ∧ s ≤ 999) ∧ ((jx_gd n fa = true ∧ jz_kKT s a0 a1 a2 c'.2) ∨ (jx_gd n fa = false ∧ jz_kKO s a0 a1 a2 c'.2)) := by
  obtain ⟨c1, r1, p1, z1⟩ := jx_run (M0 := c.2.2.1) hr rfl ⟨by decide, by decide⟩ ⟨by decide, by decide⟩ ⟨by decide, by decide⟩ ⟨by decide, by decide⟩ ⟨by decide, by decide⟩ ⟨by decide, by decide⟩ ⟨by decide, by decide⟩ ⟨hP, fun _ _ _ => rfl⟩ hF hM
  rcases z1 with ⟨hg, k, s, t, i, j, hk, hs, ht, hi, f1, m1⟩ | ⟨hg, k, s, t, kb, i, hk, hs, hkb, f1, m1 | ⟨ht, hi, m1⟩⟩
  · cases hx : xq n fa i with
    | false =>
      cases hy : xq n fa j with
      | false =>
        obtain ⟨c2, r2, p2, f2, m2⟩ := jz_x2W00_m (by omega) p1 hE f1 m1 ⟨by omega, by omega⟩ ⟨by omega, by omega⟩ ⟨by omega, by omega⟩ ⟨by omega, by omega⟩ hi (by omega) hx hy
        exact ⟨_, _, c2, r1.tr r2, p2, f2, ⟨by omega, by omega⟩, ⟨by omega, by omega⟩, Or.inl ⟨hg, m2⟩⟩
      | true =>
        obtain ⟨c2, r2, p2, f2, m2⟩ := jz_x2W01_m (by omega) p1 hE f1 m1 ⟨by omega, by omega⟩ ⟨by omega, by omega⟩ ⟨by omega, by omega⟩ ⟨by omega, by omega⟩ hi (by omega) hx hy
        exact ⟨_, _, c2, r1.tr r2, p2, f2, ⟨by omega, by omega⟩, ⟨by omega, by omega⟩, Or.inl ⟨hg, m2⟩⟩
    | true =>
      cases hy : xq n fa j with
      | false =>
        obtain ⟨c2, r2, p2, f2, m2⟩ := jz_x2W10_m (by omega) p1 hE f1 m1 ⟨by omega, by omega⟩ ⟨by omega, by omega⟩ ⟨by omega, by omega⟩ ⟨by omega, by omega⟩ hi (by omega) hx hy
        exact ⟨_, _, c2, r1.tr r2, p2, f2, ⟨by omega, by omega⟩, ⟨by omega, by omega⟩, Or.inl ⟨hg, m2⟩⟩
      | true =>
        obtain ⟨c2, r2, p2, f2, m2⟩ := jz_x2W11_m (by omega) p1 hE f1 m1 ⟨by omega, by omega⟩ ⟨by omega, by omega⟩ ⟨by omega, by omega⟩ ⟨by omega, by omega⟩ hi (by omega) hx hy
        exact ⟨_, _, c2, r1.tr r2, p2, f2, ⟨by omega, by omega⟩, ⟨by omega, by omega⟩, Or.inl ⟨hg, m2⟩⟩
  · obtain ⟨c2, r2, p2, f2, m2⟩ := jz_x2FK_m (by omega) p1 hE f1 m1 ⟨by omega, by omega⟩ ⟨by omega, by omega⟩ ⟨by omega, by omega⟩ ⟨by omega, by omega⟩
    exact ⟨_, _, c2, r1.tr r2, p2, f2, ⟨by omega, by omega⟩, ⟨by omega, by omega⟩, Or.inr ⟨hg, m2⟩⟩
  · cases hx : xq n fa i with
    | false =>
      obtain ⟨c2, r2, p2, f2, m2⟩ := jz_x2FQ0_m (by omega) p1 hE f1 m1 ⟨by omega, by omega⟩ ⟨by omega, by omega⟩ ⟨by omega, by omega⟩ ⟨by omega, by omega⟩ ⟨by omega, by omega⟩ hi (by omega) hx
      exact ⟨_, _, c2, r1.tr r2, p2, f2, ⟨by omega, by omega⟩, ⟨by omega, by omega⟩, Or.inr ⟨hg, m2⟩⟩
    | true =>
      obtain ⟨c2, r2, p2, f2, m2⟩ := jz_x2FQ1_m (by omega) p1 hE f1 m1 ⟨by omega, by omega⟩ ⟨by omega, by omega⟩ ⟨by omega, by omega⟩ ⟨by omega, by omega⟩ ⟨by omega, by omega⟩ hi (by omega) hx
      exact ⟨_, _, c2, r1.tr r2, p2, f2, ⟨by omega, by omega⟩, ⟨by omega, by omega⟩, Or.inr ⟨hg, m2⟩⟩
theorem lv_b0 {R : SyM} {L : Nat} {xs : Nat → Int32} {rest : List MsF} {n : Nat} {fa : Fa} {be a0 a1 a2 : Int} {c : MsC} (hr : rest.length ≤ 15) (hP : PN jb_Q R 0 L xs n fa c) (hF : jz_F15 0 500 be rest c.1) (hM : jb_kA0 n fa 0 (-1) 0 a0 a1 a2 0 0 1 c.2) : ∃ (k s : Int) (c' : MsC), rch c c' ∧ PN jb_Q R 0 L xs n fa c' ∧ jz_F15 k 500 be rest c'.1 ∧ (0 ≤ k ∧ k ≤ 499) ∧ (0 ≤ s ∧ s ≤ 999) ∧ ((jb_gd n fa = true ∧ jz_kKS s a0 a1 a2 c'.2) ∨ (jb_gd n fa = false ∧ jz_kKO s a0 a1 a2 c'.2)) := by
  obtain ⟨c1, r1, p1, z1⟩ := jb_run (M0 := c.2.2.1) hr rfl ⟨by decide, by decide⟩ ⟨by decide, by decide⟩ ⟨by decide, by decide⟩ ⟨by decide, by decide⟩ ⟨by decide, by decide⟩ ⟨by decide, by decide⟩ ⟨by decide, by decide⟩ ⟨hP, fun _ _ _ => rfl⟩ hF hM
  rcases z1 with ⟨hg, k, s, t, i, j, hk, hs, ht, f1, ⟨hft, hi, m1⟩ | m1⟩ | ⟨hg, k, s, t, hk, hs, ht, f1, m1⟩
  · cases hx : xq n fa i with
    | false =>
      cases hy : xq n fa j with
      | false =>
        obtain ⟨c2, r2, p2, f2, m2⟩ := jz_b0W00_m (by omega) p1 f1 m1 ⟨by omega, by omega⟩ ⟨by omega, by omega⟩ ⟨by omega, by omega⟩ ⟨by omega, by omega⟩ ⟨by omega, by omega⟩ hi (by omega) (by omega) (by omega) hx hy
        exact ⟨_, _, c2, r1.tr r2, p2, f2, ⟨by omega, by omega⟩, ⟨by omega, by omega⟩, Or.inl ⟨hg, m2⟩⟩
      | true =>
        obtain ⟨c2, r2, p2, f2, m2⟩ := jz_b0W01_m (by omega) p1 f1 m1 ⟨by omega, by omega⟩ ⟨by omega, by omega⟩ ⟨by omega, by omega⟩ ⟨by omega, by omega⟩ ⟨by omega, by omega⟩ hi (by omega) (by omega) (by omega) hx hy
        exact ⟨_, _, c2, r1.tr r2, p2, f2, ⟨by omega, by omega⟩, ⟨by omega, by omega⟩, Or.inl ⟨hg, m2⟩⟩
    | true =>
      cases hy : xq n fa j with
      | false =>
        obtain ⟨c2, r2, p2, f2, m2⟩ := jz_b0W10_m (by omega) p1 f1 m1 ⟨by omega, by omega⟩ ⟨by omega, by omega⟩ ⟨by omega, by omega⟩ ⟨by omega, by omega⟩ ⟨by omega, by omega⟩ hi (by omega) (by omega) (by omega) hx hy
        exact ⟨_, _, c2, r1.tr r2, p2, f2, ⟨by omega, by omega⟩, ⟨by omega, by omega⟩, Or.inl ⟨hg, m2⟩⟩
      | true =>
        obtain ⟨c2, r2, p2, f2, m2⟩ := jz_b0W11_m (by omega) p1 f1 m1 ⟨by omega, by omega⟩ ⟨by omega, by omega⟩ ⟨by omega, by omega⟩ ⟨by omega, by omega⟩ ⟨by omega, by omega⟩ hi (by omega) (by omega) (by omega) hx hy
        exact ⟨_, _, c2, r1.tr r2, p2, f2, ⟨by omega, by omega⟩, ⟨by omega, by omega⟩, Or.inl ⟨hg, m2⟩⟩
  · cases hx : xq n fa i with
    | false =>
      obtain ⟨c2, r2, p2, f2, m2⟩ := jz_b0W20_m (by omega) p1 f1 m1 ⟨by omega, by omega⟩ ⟨by omega, by omega⟩ ⟨by omega, by omega⟩ ⟨by omega, by omega⟩ (by omega) hx
      exact ⟨_, _, c2, r1.tr r2, p2, f2, ⟨by omega, by omega⟩, ⟨by omega, by omega⟩, Or.inl ⟨hg, m2⟩⟩
    | true =>
      obtain ⟨c2, r2, p2, f2, m2⟩ := jz_b0W21_m (by omega) p1 f1 m1 ⟨by omega, by omega⟩ ⟨by omega, by omega⟩ ⟨by omega, by omega⟩ ⟨by omega, by omega⟩ (by omega) hx
      exact ⟨_, _, c2, r1.tr r2, p2, f2, ⟨by omega, by omega⟩, ⟨by omega, by omega⟩, Or.inl ⟨hg, m2⟩⟩
  · obtain ⟨c2, r2, p2, f2, m2⟩ := jz_b0FK_m (by omega) p1 f1 m1 ⟨by omega, by omega⟩ ⟨by omega, by omega⟩ ⟨by omega, by omega⟩ ⟨by omega, by omega⟩ ⟨by omega, by omega⟩ (by omega)
    exact ⟨_, _, c2, r1.tr r2, p2, f2, ⟨by omega, by omega⟩, ⟨by omega, by omega⟩, Or.inr ⟨hg, m2⟩⟩
theorem lv_b1 {R : SyM} {L : Nat} {xs : Nat → Int32} {rest : List MsF} {n : Nat} {fa : Fa} {be a0 a1 a2 : Int} {c : MsC} (hr : rest.length ≤ 15) (hP : PN jb_Q R 0 L xs n fa c) (hE : em_ok emL1 c.2.2.1) (hF : jz_F15 1 500 be rest c.1) (hM : jb_kA0 n fa 2 1 1 a0 a1 a2 0 1 2 c.2) : ∃ (k s : Int) (c' : MsC), rch c c' ∧ PN jb_Q R 0 L xs n fa c' ∧ jz_F15 k 500 be rest c'.1 ∧ (0 ≤ k ∧ k ≤ 499) ∧ (0 ≤ s ∧ s ≤ 999) ∧ ((jb_gd n fa = true ∧ jz_kKO s a0 a1 a2 c'.2) ∨ (jb_gd n fa = false ∧ jz_kKT s a0 a1 a2 c'.2)) := by
  obtain ⟨c1, r1, p1, z1⟩ := jb_run (M0 := c.2.2.1) hr rfl ⟨by decide, by decide⟩ ⟨by decide, by decide⟩ ⟨by decide, by decide⟩ ⟨by decide, by decide⟩ ⟨by decide, by decide⟩ ⟨by decide, by decide⟩ ⟨by decide, by decide⟩ ⟨hP, fun _ _ _ => rfl⟩ hF hM
  rcases z1 with ⟨hg, k, s, t, i, j, hk, hs, ht, f1, ⟨hft, hi, m1⟩ | m1⟩ | ⟨hg, k, s, t, hk, hs, ht, f1, m1⟩
  · cases hx : xq n fa i with
    | false =>
      cases hy : xq n fa j with
      | false =>
        obtain ⟨c2, r2, p2, f2, m2⟩ := jz_b1W00_m (by omega) p1 hE f1 m1 ⟨by omega, by omega⟩ ⟨by omega, by omega⟩ ⟨by omega, by omega⟩ ⟨by omega, by omega⟩ ⟨by omega, by omega⟩ hi (by omega) (by omega) (by omega) hx hy
        exact ⟨_, _, c2, r1.tr r2, p2, f2, ⟨by omega, by omega⟩, ⟨by omega, by omega⟩, Or.inl ⟨hg, m2⟩⟩
      | true =>
        obtain ⟨c2, r2, p2, f2, m2⟩ := jz_b1W01_m (by omega) p1 hE f1 m1 ⟨by omega, by omega⟩ ⟨by omega, by omega⟩ ⟨by omega, by omega⟩ ⟨by omega, by omega⟩ ⟨by omega, by omega⟩ hi (by omega) (by omega) (by omega) hx hy
        exact ⟨_, _, c2, r1.tr r2, p2, f2, ⟨by omega, by omega⟩, ⟨by omega, by omega⟩, Or.inl ⟨hg, m2⟩⟩
    | true =>
      cases hy : xq n fa j with
      | false =>
        obtain ⟨c2, r2, p2, f2, m2⟩ := jz_b1W10_m (by omega) p1 hE f1 m1 ⟨by omega, by omega⟩ ⟨by omega, by omega⟩ ⟨by omega, by omega⟩ ⟨by omega, by omega⟩ ⟨by omega, by omega⟩ hi (by omega) (by omega) (by omega) hx hy
        exact ⟨_, _, c2, r1.tr r2, p2, f2, ⟨by omega, by omega⟩, ⟨by omega, by omega⟩, Or.inl ⟨hg, m2⟩⟩
      | true =>
        obtain ⟨c2, r2, p2, f2, m2⟩ := jz_b1W11_m (by omega) p1 hE f1 m1 ⟨by omega, by omega⟩ ⟨by omega, by omega⟩ ⟨by omega, by omega⟩ ⟨by omega, by omega⟩ ⟨by omega, by omega⟩ hi (by omega) (by omega) (by omega) hx hy
        exact ⟨_, _, c2, r1.tr r2, p2, f2, ⟨by omega, by omega⟩, ⟨by omega, by omega⟩, Or.inl ⟨hg, m2⟩⟩
  · cases hx : xq n fa i with
    | false =>
      obtain ⟨c2, r2, p2, f2, m2⟩ := jz_b1W20_m (by omega) p1 hE f1 m1 ⟨by omega, by omega⟩ ⟨by omega, by omega⟩ ⟨by omega, by omega⟩ ⟨by omega, by omega⟩ (by omega) hx
      exact ⟨_, _, c2, r1.tr r2, p2, f2, ⟨by omega, by omega⟩, ⟨by omega, by omega⟩, Or.inl ⟨hg, m2⟩⟩
    | true =>
      obtain ⟨c2, r2, p2, f2, m2⟩ := jz_b1W21_m (by omega) p1 hE f1 m1 ⟨by omega, by omega⟩ ⟨by omega, by omega⟩ ⟨by omega, by omega⟩ ⟨by omega, by omega⟩ (by omega) hx
      exact ⟨_, _, c2, r1.tr r2, p2, f2, ⟨by omega, by omega⟩, ⟨by omega, by omega⟩, Or.inl ⟨hg, m2⟩⟩
  · obtain ⟨c2, r2, p2, f2, m2⟩ := jz_b1FK_m (by omega) p1 hE f1 m1 ⟨by omega, by omega⟩ ⟨by omega, by omega⟩ ⟨by omega, by omega⟩ ⟨by omega, by omega⟩ ⟨by omega, by omega⟩ (by omega)
    exact ⟨_, _, c2, r1.tr r2, p2, f2, ⟨by omega, by omega⟩, ⟨by omega, by omega⟩, Or.inr ⟨hg, m2⟩⟩
theorem lv_b2 {R : SyM} {L : Nat} {xs : Nat → Int32} {rest : List MsF} {n : Nat} {fa : Fa} {be a0 a1 a2 : Int} {c : MsC} (hr : rest.length ≤ 15) (hP : PN jb_Q R 3 L xs n fa c) (hE : em_ok emL2 c.2.2.1) (hF : jz_F15 3 500 be rest c.1) (hM : jb_kA0 n fa 5 3 2 a0 a1 a2 3 2 4 c.2) : ∃ (k s : Int) (c' : MsC), rch c c' ∧ PN jb_Q R 3 L xs n fa c' ∧ jz_F15 k 500 be rest c'.1 ∧ (0 ≤ k ∧ k ≤ 499) ∧ (0 ≤ s ∧ s ≤ 999) ∧ ((jb_gd n fa = true ∧ jz_kKT s a0 a1 a2 c'.2) ∨ (jb_gd n fa = false ∧ jz_kKO s a0 a1 a2 c'.2)) := by
  obtain ⟨c1, r1, p1, z1⟩ := jb_run (M0 := c.2.2.1) hr rfl ⟨by decide, by decide⟩ ⟨by decide, by decide⟩ ⟨by decide, by decide⟩ ⟨by decide, by decide⟩ ⟨by decide, by decide⟩ ⟨by decide, by decide⟩ ⟨by decide, by decide⟩ ⟨hP, fun _ _ _ => rfl⟩ hF hM
  rcases z1 with ⟨hg, k, s, t, i, j, hk, hs, ht, f1, ⟨hft, hi, m1⟩ | m1⟩ | ⟨hg, k, s, t, hk, hs, ht, f1, m1⟩
  · cases hx : xq n fa i with
    | false =>
      cases hy : xq n fa j with
      | false =>
        obtain ⟨c2, r2, p2, f2, m2⟩ := jz_b2W00_m (by omega) p1 hE f1 m1 ⟨by omega, by omega⟩ ⟨by omega, by omega⟩ ⟨by omega, by omega⟩ ⟨by omega, by omega⟩ ⟨by omega, by omega⟩ hi (by omega) (by omega) (by omega) hx hy
        exact ⟨_, _, c2, r1.tr r2, p2, f2, ⟨by omega, by omega⟩, ⟨by omega, by omega⟩, Or.inl ⟨hg, m2⟩⟩
      | true =>
        obtain ⟨c2, r2, p2, f2, m2⟩ := jz_b2W01_m (by omega) p1 hE f1 m1 ⟨by omega, by omega⟩ ⟨by omega, by omega⟩ ⟨by omega, by omega⟩ ⟨by omega, by omega⟩ ⟨by omega, by omega⟩ hi (by omega) (by omega) (by omega) hx hy
        exact ⟨_, _, c2, r1.tr r2, p2, f2, ⟨by omega, by omega⟩, ⟨by omega, by omega⟩, Or.inl ⟨hg, m2⟩⟩
    | true =>
      cases hy : xq n fa j with
      | false =>
        obtain ⟨c2, r2, p2, f2, m2⟩ := jz_b2W10_m (by omega) p1 hE f1 m1 ⟨by omega, by omega⟩ ⟨by omega, by omega⟩ ⟨by omega, by omega⟩ ⟨by omega, by omega⟩ ⟨by omega, by omega⟩ hi (by omega) (by omega) (by omega) hx hy
        exact ⟨_, _, c2, r1.tr r2, p2, f2, ⟨by omega, by omega⟩, ⟨by omega, by omega⟩, Or.inl ⟨hg, m2⟩⟩
      | true =>
        obtain ⟨c2, r2, p2, f2, m2⟩ := jz_b2W11_m (by omega) p1 hE f1 m1 ⟨by omega, by omega⟩ ⟨by omega, by omega⟩ ⟨by omega, by omega⟩ ⟨by omega, by omega⟩ ⟨by omega, by omega⟩ hi (by omega) (by omega) (by omega) hx hy
        exact ⟨_, _, c2, r1.tr r2, p2, f2, ⟨by omega, by omega⟩, ⟨by omega, by omega⟩, Or.inl ⟨hg, m2⟩⟩
  · cases hx : xq n fa i with
    | false =>
      obtain ⟨c2, r2, p2, f2, m2⟩ := jz_b2W20_m (by omega) p1 hE f1 m1 ⟨by omega, by omega⟩ ⟨by omega, by omega⟩ ⟨by omega, by omega⟩ ⟨by omega, by omega⟩ (by omega) hx
      exact ⟨_, _, c2, r1.tr r2, p2, f2, ⟨by omega, by omega⟩, ⟨by omega, by omega⟩, Or.inl ⟨hg, m2⟩⟩
    | true =>
      obtain ⟨c2, r2, p2, f2, m2⟩ := jz_b2W21_m (by omega) p1 hE f1 m1 ⟨by omega, by omega⟩ ⟨by omega, by omega⟩ ⟨by omega, by omega⟩ ⟨by omega, by omega⟩ (by omega) hx
      exact ⟨_, _, c2, r1.tr r2, p2, f2, ⟨by omega, by omega⟩, ⟨by omega, by omega⟩, Or.inl ⟨hg, m2⟩⟩
  · obtain ⟨c2, r2, p2, f2, m2⟩ := jz_b2FK_m (by omega) p1 hE f1 m1 ⟨by omega, by omega⟩ ⟨by omega, by omega⟩ ⟨by omega, by omega⟩ ⟨by omega, by omega⟩ ⟨by omega, by omega⟩ (by omega)
    exact ⟨_, _, c2, r1.tr r2, p2, f2, ⟨by omega, by omega⟩, ⟨by omega, by omega⟩, Or.inr ⟨hg, m2⟩⟩
