/-! PHASE F (written by wip/p21/gM.py): the run of s. -/
def gs_ci (n : Nat) (fa : Fa) (i m : Nat) : Nat := sk n fa 112 (fun j => b1 (okq n fa j i)) m
def gs_to (n : Nat) (fa : Fa) (m : Nat) : Nat := sk n fa 113 (fun i => gs_ci n fa i 0) m
def gs_st (n : Nat) (fa : Fa) (m : Nat) : Nat := sk n fa 113 (fun i => 1 + m1 (gs_ci n fa i 0)) m
section Mos
variable {n : Nat} {fa : Fa} {m i j : Nat}
theorem gs_ci_none (h : nf n fa 112 m = -1) : gs_ci n fa i m = 0 := sk_none h
theorem gs_ci_at (hm : m ≤ n + 6) (h : nf n fa 112 m = j) : gs_ci n fa i m = b1 (okq n fa j i) + gs_ci n fa i (j + 1) := sk_at (f := fun j => b1 (okq n fa j i)) hm h
theorem gs_to_none (h : nf n fa 113 m = -1) : gs_to n fa m = 0 := sk_none h
theorem gs_to_at (hm : m ≤ n + 6) (h : nf n fa 113 m = i) : gs_to n fa m = gs_ci n fa i 0 + gs_to n fa (i + 1) := sk_at (f := fun i => gs_ci n fa i 0) hm h
theorem gs_st_none (h : nf n fa 113 m = -1) : gs_st n fa m = 0 := sk_none h
theorem gs_st_at (hm : m ≤ n + 6) (h : nf n fa 113 m = i) : gs_st n fa m = (1 + m1 (gs_ci n fa i 0)) + gs_st n fa (i + 1) := sk_at (f := fun i => 1 + m1 (gs_ci n fa i 0)) hm h
end Mos
/-- a clause of the first goal, and the next one -/
def gs_I (n : Nat) (fa : Fa) (i : Nat) (i2 : Int) : Prop := i < n + 2 ∧ lt n fa i = 113 ∧ nf n fa 113 (i + 1) = i2
/-- gone back, with a step to do -/
def gs_B4 (n : Nat) (fa : Fa) (N T s so a0 a1 a2 : Int) (S : AmS) : Prop :=
  (∃ (t : Int) (i j : Nat) (i2 : Int), (3 ≤ s ∧ 2 ≤ t ∧ t < s) ∧ gs_I n fa i i2 ∧ (j < n + 2 ∧ lt n fa j = 112 ∧ okq n fa j i = true) ∧ s + ((1 + gs_ci n fa i (j + 1) + gs_st n fa (i + 1) + tl n fa : Nat) : Int) = N ∧ so + ((1 + gs_ci n fa i (j + 1) + gs_to n fa (i + 1) + c2 n fa 0 : Nat) : Int) = T ∧ gs_kAQ n fa s t i i2 j so a0 a1 a2 S)
  ∨ (∃ i : Nat, 3 ≤ s ∧ (i < n + 2 ∧ lt n fa i = 113) ∧ s + ((1 + m1 (gs_ci n fa i 0) + gs_st n fa (i + 1) + tl n fa : Nat) : Int) = N ∧ so + ((gs_ci n fa i 0 + gs_to n fa (i + 1) + c2 n fa 0 : Nat) : Int) = T ∧ gs_kAP n fa s i so a0 a1 a2 S)
  ∨ (3 ≤ s ∧ s + ((tl n fa : Nat) : Int) = N ∧ so + ((c2 n fa 0 : Nat) : Int) = T ∧ gs_kAR n fa s so a0 a1 a2 S)
  ∨ (∃ (t : Int) (i : Nat), (3 ≤ s ∧ 2 ≤ t ∧ t < s) ∧ (i < n + 2 ∧ lt n fa i = 112 ∧ okq n fa i i = true) ∧ s + ((1 + c2 n fa (i + 1) : Nat) : Int) = N ∧ so + ((1 + c2 n fa (i + 1) : Nat) : Int) = T ∧ gs_kA2 n fa s t i so a0 a1 a2 S)
def gs_O (n : Nat) (fa : Fa) (N T s so a0 a1 a2 : Int) (S : AmS) : Prop := s = N ∧ so = T ∧ gs_kOV n fa s so a0 a1 a2 S
/-- at a solution -/
def gs_V (n : Nat) (fa : Fa) (N T s so a0 a1 a2 : Int) (S : AmS) : Prop :=
  (∃ (t : Int) (i j : Nat) (i2 j2 : Int), (3 ≤ s ∧ 2 ≤ t ∧ t < s) ∧ gs_I n fa i i2 ∧ (j < n + 2 ∧ lt n fa j = 112 ∧ nf n fa 112 (j + 1) = j2) ∧ s + ((gs_ci n fa i (j + 1) + gs_st n fa (i + 1) + tl n fa : Nat) : Int) = N ∧ so + ((gs_ci n fa i (j + 1) + gs_to n fa (i + 1) + c2 n fa 0 : Nat) : Int) = T ∧ gs_kW n fa s t i i2 j j2 so a0 a1 a2 S)
  ∨ (∃ (t : Int) (i : Nat) (i2 : Int), (3 ≤ s ∧ 2 ≤ t ∧ t < s) ∧ (i < n + 2 ∧ nf n fa 112 (i + 1) = i2) ∧ s + ((c2 n fa (i + 1) : Nat) : Int) = N ∧ so + ((c2 n fa (i + 1) : Nat) : Int) = T ∧ gs_kW2 n fa s t i i2 so a0 a1 a2 S)
/-- going on -/
def gs_A (n : Nat) (fa : Fa) (N T s so a0 a1 a2 : Int) (S : AmS) : Prop :=
  (s = 0 ∧ so = 0 ∧ s + ((1 + gs_st n fa 0 + tl n fa : Nat) : Int) = N ∧ so + ((gs_to n fa 0 + c2 n fa 0 : Nat) : Int) = T ∧ gs_kR0 n fa a0 a1 a2 S)
  ∨ (1 ≤ s ∧ s + ((gs_st n fa 0 + tl n fa : Nat) : Int) = N ∧ so + ((gs_to n fa 0 + c2 n fa 0 : Nat) : Int) = T ∧ gs_kR1 n fa s so a0 a1 a2 S)
  ∨ (∃ (i : Nat) (i2 : Int), 2 ≤ s ∧ gs_I n fa i i2 ∧ s + ((m1 (gs_ci n fa i 0) + gs_st n fa (i + 1) + tl n fa : Nat) : Int) = N ∧ so + ((gs_ci n fa i 0 + gs_to n fa (i + 1) + c2 n fa 0 : Nat) : Int) = T ∧ gs_kQ n fa s i i2 so a0 a1 a2 S)
  ∨ (3 ≤ s ∧ s + ((m1 (c2 n fa 0) : Nat) : Int) = N ∧ so + ((c2 n fa 0 : Nat) : Int) = T ∧ gs_kR2 n fa s so a0 a1 a2 S)
/-- the state of the question: going on, at a solution, over -/
def gs_J (st : Nat) (n : Nat) (fa : Fa) (N T s so a0 a1 a2 : Int) (S : AmS) : Prop := 0 ≤ so ∧ ((st = 0 ∧ (gs_A n fa N T s so a0 a1 a2 S ∨ gs_B4 n fa N T s so a0 a1 a2 S)) ∨ (st = 1 ∧ gs_V n fa N T s so a0 a1 a2 S) ∨ (st = 2 ∧ gs_O n fa N T s so a0 a1 a2 S))
section Mps
variable {R : SyM} {L : Nat} {xs : Nat → Int32} {rest : List MsF} {n : Nat} {fa : Fa} {N T s so a0 a1 a2 t mo be : Int} {S S' : AmS} {i : Nat} {i2 : Int}
theorem gs_B4.sm (h : gs_B4 n fa N T s so a0 a1 a2 S) (hs : sy_sm S S') : gs_B4 n fa N T s so a0 a1 a2 S' := by
  rcases h with ⟨t, i, j, i2, g1, g2, g3, g4, g5, g6⟩ | ⟨i, g1, g2, g3, g4, g5⟩ | ⟨g1, g2, g3, g4⟩ | ⟨t, i, g1, g2, g3, g4, g5⟩
  · exact Or.inl ⟨t, i, j, i2, g1, g2, g3, g4, g5, mm.sm g6 hs⟩
  · exact Or.inr (Or.inl ⟨i, g1, g2, g3, g4, mm.sm g5 hs⟩)
  · exact Or.inr (Or.inr (Or.inl ⟨g1, g2, g3, mm.sm g4 hs⟩))
  · exact Or.inr (Or.inr (Or.inr ⟨t, i, g1, g2, g3, g4, mm.sm g5 hs⟩))
theorem gs_O.sm (h : gs_O n fa N T s so a0 a1 a2 S) (hs : sy_sm S S') : gs_O n fa N T s so a0 a1 a2 S' := ⟨h.1, h.2.1, mm.sm h.2.2 hs⟩
theorem gs_V.sm (h : gs_V n fa N T s so a0 a1 a2 S) (hs : sy_sm S S') : gs_V n fa N T s so a0 a1 a2 S' := by
  rcases h with ⟨t, i, j, i2, j2, g1, g2, g3, g4, g5, g6⟩ | ⟨t, i, i2, g1, g2, g3, g4, g5⟩
  · exact Or.inl ⟨t, i, j, i2, j2, g1, g2, g3, g4, g5, mm.sm g6 hs⟩
  · exact Or.inr ⟨t, i, i2, g1, g2, g3, g4, mm.sm g5 hs⟩
theorem gs_A.sm (h : gs_A n fa N T s so a0 a1 a2 S) (hs : sy_sm S S') : gs_A n fa N T s so a0 a1 a2 S' := by
  rcases h with ⟨g1, g2, g3, g4, g5⟩ | ⟨g1, g2, g3, g4⟩ | ⟨i, i2, g1, g2, g3, g4, g5⟩ | ⟨g1, g2, g3, g4⟩
  · exact Or.inl ⟨g1, g2, g3, g4, mm.sm g5 hs⟩
  · exact Or.inr (Or.inl ⟨g1, g2, g3, mm.sm g4 hs⟩)
  · exact Or.inr (Or.inr (Or.inl ⟨i, i2, g1, g2, g3, g4, mm.sm g5 hs⟩))
  · exact Or.inr (Or.inr (Or.inr ⟨g1, g2, g3, mm.sm g4 hs⟩))
theorem gs_J.sm {st : Nat} (h : gs_J st n fa N T s so a0 a1 a2 S) (hs : sy_sm S S') : gs_J st n fa N T s so a0 a1 a2 S' := by
  obtain ⟨h0, ⟨e, h | h⟩ | ⟨e, h⟩ | ⟨e, h⟩⟩ := h
  · exact ⟨h0, Or.inl ⟨e, Or.inl (h.sm hs)⟩⟩
  · exact ⟨h0, Or.inl ⟨e, Or.inr (h.sm hs)⟩⟩
  · exact ⟨h0, Or.inr (Or.inl ⟨e, h.sm hs⟩)⟩
  · exact ⟨h0, Or.inr (Or.inr ⟨e, h.sm hs⟩)⟩
theorem gs_GP {c : MsC} {kb : Int} (hr : rest.length ≤ 16) (hN : N ≤ 330) (hT : T ≤ 330) (hP : PN gs_Q R 0 L xs n fa c) (hF : gs_FGP n i kb rest c.1) (hM : gs_kGP n fa s so a0 a1 a2 c.2) (h3 : 3 ≤ s) (h0 : 0 ≤ so) (hi : i < n + 2) (hli : lt n fa i = 113) (hkb : 0 ≤ kb ∧ kb ≤ 12) (hs : s + ((1 + m1 (gs_ci n fa i 0) + gs_st n fa (i + 1) + tl n fa : Nat) : Int) = N) (hso : so + ((gs_ci n fa i 0 + gs_to n fa (i + 1) + c2 n fa 0 : Nat) : Int) = T) : ∃ c', rch c c' ∧ PN gs_Q R 0 L xs n fa c' ∧ gs_FS rest c'.1 ∧ (gs_B4 n fa N T s so a0 a1 a2 c'.2 ∨ gs_O n fa N T s so a0 a1 a2 c'.2) := by
  have fin : (∃ c', rch c c' ∧ PN gs_Q R 0 L xs n fa c' ∧ (gs_FS rest c'.1) ∧ gs_kAP n fa s i so a0 a1 a2 c'.2) → ∃ c', rch c c' ∧ PN gs_Q R 0 L xs n fa c' ∧ gs_FS rest c'.1 ∧ (gs_B4 n fa N T s so a0 a1 a2 c'.2 ∨ gs_O n fa N T s so a0 a1 a2 c'.2) := fun ⟨c', r1, p1, f1, m1⟩ => ⟨c', r1, p1, f1, Or.inl (Or.inr (Or.inl ⟨i, h3, ⟨hi, hli⟩, hs, hso, m1⟩))⟩
  cases hx : xq n fa i with
  | false => exact fin (gs_gp0_m (by omega) hP ⟨by omega, by omega⟩ ⟨by omega, by omega⟩ ⟨by omega, by omega⟩ hi hx hli hF hM)
  | true => exact fin (gs_gp1_m (by omega) hP ⟨by omega, by omega⟩ ⟨by omega, by omega⟩ ⟨by omega, by omega⟩ hi hx hli hF hM)
theorem gs_GR {c : MsC} {kb : Int} (hr : rest.length ≤ 16) (hN : N ≤ 330) (hT : T ≤ 330) (hP : PN gs_Q R 0 L xs n fa c) (hF : gs_FGR n kb rest c.1) (hM : gs_kGR n fa s so a0 a1 a2 c.2) (h3 : 3 ≤ s) (h0 : 0 ≤ so) (hkb : 0 ≤ kb ∧ kb ≤ 12) (hs : s + ((tl n fa : Nat) : Int) = N) (hso : so + ((c2 n fa 0 : Nat) : Int) = T) : ∃ c', rch c c' ∧ PN gs_Q R 0 L xs n fa c' ∧ gs_FS rest c'.1 ∧ (gs_B4 n fa N T s so a0 a1 a2 c'.2 ∨ gs_O n fa N T s so a0 a1 a2 c'.2) := by
  obtain ⟨c', r1, p1, f1, m1⟩ := gs_gr_m (by omega) hP ⟨by omega, by omega⟩ ⟨by omega, by omega⟩ ⟨by omega, by omega⟩ hF hM
  exact ⟨c', r1, p1, f1, Or.inl (Or.inr (Or.inr (Or.inl ⟨h3, hs, hso, m1⟩)))⟩
theorem gs_Gl (hr : rest.length ≤ 16) (hN : N ≤ 330) (hT : T ≤ 330) (h3 : 3 ≤ s ∧ 2 ≤ t ∧ t < s) (h0 : 0 ≤ so) (hI : gs_I n fa i i2) : ∀ (d j : Nat) (c : MsC) (ct : Int), n + 2 ≤ j + d → PN gs_Q R 0 L xs n fa c → gs_FG n i2 j ct 0 rest c.1 → gs_kG n fa s t i i2 so a0 a1 a2 c.2 → j < n + 2 ∧ lt n fa j = 112 → 0 ≤ ct ∧ ct ≤ j ∧ ct ≤ n → s + ((b1 (okq n fa j i) + gs_ci n fa i (j + 1) + gs_st n fa (i + 1) + tl n fa : Nat) : Int) = N → so + ((b1 (okq n fa j i) + gs_ci n fa i (j + 1) + gs_to n fa (i + 1) + c2 n fa 0 : Nat) : Int) = T → ∃ c', rch c c' ∧ PN gs_Q R 0 L xs n fa c' ∧ gs_FS rest c'.1 ∧ (gs_B4 n fa N T s so a0 a1 a2 c'.2 ∨ gs_O n fa N T s so a0 a1 a2 c'.2) := by
  intro d
  obtain ⟨hi, hli, hnf⟩ := hI
  induction d with
  | zero => intro j c ct hd hP hF hM hj; omega
  | succ d ih =>
    intro j c ct hd hP hF hM hjj hct hs hso
    obtain ⟨hj, hlj⟩ := hjj
    have hn := hP.nr
    have hz := (nf_c (n := n) (fa := fa) (a := 113) (by decide) (i + 1) (by omega))
    rw [hnf] at hz
    cases hok : okq n fa j i with
    | true =>
      rw [hok] at hs hso
      have fin : (∃ c', rch c c' ∧ PN gs_Q R 0 L xs n fa c' ∧ (gs_FS rest c'.1) ∧ gs_kAQ n fa s t i i2 j so a0 a1 a2 c'.2) → ∃ c', rch c c' ∧ PN gs_Q R 0 L xs n fa c' ∧ gs_FS rest c'.1 ∧ (gs_B4 n fa N T s so a0 a1 a2 c'.2 ∨ gs_O n fa N T s so a0 a1 a2 c'.2) := fun ⟨c', r1, p1, f1, m1⟩ => ⟨c', r1, p1, f1, Or.inl (Or.inl ⟨t, i, j, i2, h3, ⟨hi, hli, hnf⟩, ⟨hj, hlj, hok⟩, hs, hso, m1⟩)⟩
      rcases hz with rfl | ⟨i2, rfl, hz1, hi2, hz2⟩
      · cases hx : xq n fa i with
        | false =>
          cases hy : xq n fa j with
          | false =>
            exact fin (gs_g000_m (by omega) hP ⟨by omega, by omega⟩ ⟨by omega, by omega⟩ ⟨by omega, by omega⟩ ⟨by omega, by omega⟩ hi hj hx hy hli hlj (by omega) ((okq_t hok hy).symm) hF hM)
          | true =>
            exact fin (gs_g001_m (by omega) hP ⟨by omega, by omega⟩ ⟨by omega, by omega⟩ ⟨by omega, by omega⟩ ⟨by omega, by omega⟩ hi hj hx hy hli hlj (by omega) hF hM)
        | true =>
          cases hy : xq n fa j with
          | false =>
            exact fin (gs_g100_m (by omega) hP ⟨by omega, by omega⟩ ⟨by omega, by omega⟩ ⟨by omega, by omega⟩ ⟨by omega, by omega⟩ hi hj hx hy hli hlj (by omega) ((okq_t hok hy).symm) hF hM)
          | true =>
            exact fin (gs_g101_m (by omega) hP ⟨by omega, by omega⟩ ⟨by omega, by omega⟩ ⟨by omega, by omega⟩ ⟨by omega, by omega⟩ hi hj hx hy hli hlj (by omega) hF hM)
      · cases hx : xq n fa i with
        | false =>
          cases hy : xq n fa j with
          | false =>
            exact fin (gs_g010_m (by omega) hP ⟨by omega, by omega⟩ ⟨by omega, by omega⟩ ⟨by omega, by omega⟩ ⟨by omega, by omega⟩ hi hj hx hy hli hlj (by omega) ((okq_t hok hy).symm) hF hM)
          | true =>
            exact fin (gs_g011_m (by omega) hP ⟨by omega, by omega⟩ ⟨by omega, by omega⟩ ⟨by omega, by omega⟩ ⟨by omega, by omega⟩ hi hj hx hy hli hlj (by omega) hF hM)
        | true =>
          cases hy : xq n fa j with
          | false =>
            exact fin (gs_g110_m (by omega) hP ⟨by omega, by omega⟩ ⟨by omega, by omega⟩ ⟨by omega, by omega⟩ ⟨by omega, by omega⟩ hi hj hx hy hli hlj (by omega) ((okq_t hok hy).symm) hF hM)
          | true =>
            exact fin (gs_g111_m (by omega) hP ⟨by omega, by omega⟩ ⟨by omega, by omega⟩ ⟨by omega, by omega⟩ ⟨by omega, by omega⟩ hi hj hx hy hli hlj (by omega) hF hM)
    | false =>
      rw [hok] at hs hso
      have hs : s + ((gs_ci n fa i (j + 1) + gs_st n fa (i + 1) + tl n fa : Nat) : Int) = N := by rw [← hs]; show _ = s + ((0 + _ + _ + _ : Nat) : Int); omega
      have hso : so + ((gs_ci n fa i (j + 1) + gs_to n fa (i + 1) + c2 n fa 0 : Nat) : Int) = T := by rw [← hso]; show _ = so + ((0 + _ + _ + _ : Nat) : Int); omega
      obtain ⟨hxf, hne⟩ := okq_f hok
      rcases (nf_c (n := n) (fa := fa) (a := 112) (by decide) (j + 1) (by omega)) with hj2 | ⟨j2, hj2, hj3, hj4, hj5⟩
      · have hci := gs_ci_none (i := i) hj2
        have fin2 : ∀ c1 : MsC, rch c c1 → PN gs_Q R 0 L xs n fa c1 → gs_FGN n i2 (ct + 1) 0 rest c1.1 → gs_kG n fa s t i i2 so a0 a1 a2 c1.2 → ∃ c', rch c c' ∧ PN gs_Q R 0 L xs n fa c' ∧ gs_FS rest c'.1 ∧ (gs_B4 n fa N T s so a0 a1 a2 c'.2 ∨ gs_O n fa N T s so a0 a1 a2 c'.2) := fun c1 r1 p1 f1 m1 => by
          rcases hz with rfl | ⟨i2, rfl, hz1, hi2, hz2⟩
          · have fin : (∃ c', rch c1 c' ∧ PN gs_Q R 0 L xs n fa c' ∧ (gs_FGR n (0 + 1) rest c'.1) ∧ gs_kGR n fa s so a0 a1 a2 c'.2) → ∃ c', rch c c' ∧ PN gs_Q R 0 L xs n fa c' ∧ gs_FS rest c'.1 ∧ (gs_B4 n fa N T s so a0 a1 a2 c'.2 ∨ gs_O n fa N T s so a0 a1 a2 c'.2) := fun ⟨c2, r2, p2, f2, m2⟩ => by
              have e1 := gs_st_none hnf
              have e2 := gs_to_none hnf
              obtain ⟨c3, r3, p3, f3, b3⟩ := gs_GR hr hN hT p2 f2 m2 h3.1 h0 (by decide) (by omega) (by omega)
              exact ⟨c3, r1.tr (r2.tr r3), p3, f3, b3⟩
            cases hx : xq n fa i with
            | false =>
              exact fin (gs_b00_m (by omega) p1 ⟨by omega, by omega⟩ ⟨by omega, by omega⟩ ⟨by omega, by omega⟩ ⟨by omega, by omega⟩ ⟨by omega, by omega⟩ hi hx hli (by omega) f1 m1)
            | true =>
              exact fin (gs_b10_m (by omega) p1 ⟨by omega, by omega⟩ ⟨by omega, by omega⟩ ⟨by omega, by omega⟩ ⟨by omega, by omega⟩ ⟨by omega, by omega⟩ hi hx hli (by omega) f1 m1)
          · have fin : (∃ c', rch c1 c' ∧ PN gs_Q R 0 L xs n fa c' ∧ (gs_FGP n i2 (0 + 1) rest c'.1) ∧ gs_kGP n fa s so a0 a1 a2 c'.2) → ∃ c', rch c c' ∧ PN gs_Q R 0 L xs n fa c' ∧ gs_FS rest c'.1 ∧ (gs_B4 n fa N T s so a0 a1 a2 c'.2 ∨ gs_O n fa N T s so a0 a1 a2 c'.2) := fun ⟨c2, r2, p2, f2, m2⟩ => by
              have e1 := gs_st_at (by omega) hnf
              have e2 := gs_to_at (by omega) hnf
              obtain ⟨c3, r3, p3, f3, b3⟩ := gs_GP hr hN hT p2 f2 m2 h3.1 h0 hi2 hz2 (by decide) (by omega) (by omega)
              exact ⟨c3, r1.tr (r2.tr r3), p3, f3, b3⟩
            cases hx : xq n fa i with
            | false =>
              exact fin (gs_b01_m (by omega) p1 ⟨by omega, by omega⟩ ⟨by omega, by omega⟩ ⟨by omega, by omega⟩ ⟨by omega, by omega⟩ ⟨by omega, by omega⟩ hi hi2 hx hli (by omega) f1 m1)
            | true =>
              exact fin (gs_b11_m (by omega) p1 ⟨by omega, by omega⟩ ⟨by omega, by omega⟩ ⟨by omega, by omega⟩ ⟨by omega, by omega⟩ ⟨by omega, by omega⟩ hi hi2 hx hli (by omega) f1 m1)
        have fin : (∃ c', rch c c' ∧ PN gs_Q R 0 L xs n fa c' ∧ (gs_FGN n i2 (ct + 1) 0 rest c'.1) ∧ gs_kG n fa s t i i2 so a0 a1 a2 c'.2) → ∃ c', rch c c' ∧ PN gs_Q R 0 L xs n fa c' ∧ gs_FS rest c'.1 ∧ (gs_B4 n fa N T s so a0 a1 a2 c'.2 ∨ gs_O n fa N T s so a0 a1 a2 c'.2) := fun ⟨c1, r1, p1, f1, m1⟩ => fin2 c1 r1 p1 f1 m1
        rcases hz with rfl | ⟨i2, rfl, hz1, hi2, hz2⟩
        · have hy := hxf
          cases hx : xq n fa i with
          | false =>
            rcases Int.lt_or_gt_of_ne hne.symm with h9 | h9
            · exact fin (gs_h000l_m (by omega) hP ⟨by omega, by omega⟩ ⟨by omega, by omega⟩ ⟨by omega, by omega⟩ ⟨by omega, by omega⟩ ⟨by omega, by omega⟩ hi hj hx hy hli hlj (by omega) h9 hj2 hF hM)
            · exact fin (gs_h000g_m (by omega) hP ⟨by omega, by omega⟩ ⟨by omega, by omega⟩ ⟨by omega, by omega⟩ ⟨by omega, by omega⟩ ⟨by omega, by omega⟩ hi hj hx hy hli hlj (by omega) h9 hj2 hF hM)
          | true =>
            rcases Int.lt_or_gt_of_ne hne.symm with h9 | h9
            · exact fin (gs_h100l_m (by omega) hP ⟨by omega, by omega⟩ ⟨by omega, by omega⟩ ⟨by omega, by omega⟩ ⟨by omega, by omega⟩ ⟨by omega, by omega⟩ hi hj hx hy hli hlj (by omega) h9 hj2 hF hM)
            · exact fin (gs_h100g_m (by omega) hP ⟨by omega, by omega⟩ ⟨by omega, by omega⟩ ⟨by omega, by omega⟩ ⟨by omega, by omega⟩ ⟨by omega, by omega⟩ hi hj hx hy hli hlj (by omega) h9 hj2 hF hM)
        · have hy := hxf
          cases hx : xq n fa i with
          | false =>
            rcases Int.lt_or_gt_of_ne hne.symm with h9 | h9
            · exact fin (gs_h010l_m (by omega) hP ⟨by omega, by omega⟩ ⟨by omega, by omega⟩ ⟨by omega, by omega⟩ ⟨by omega, by omega⟩ ⟨by omega, by omega⟩ hi hj hx hy hli hlj (by omega) h9 hj2 hF hM)
            · exact fin (gs_h010g_m (by omega) hP ⟨by omega, by omega⟩ ⟨by omega, by omega⟩ ⟨by omega, by omega⟩ ⟨by omega, by omega⟩ ⟨by omega, by omega⟩ hi hj hx hy hli hlj (by omega) h9 hj2 hF hM)
          | true =>
            rcases Int.lt_or_gt_of_ne hne.symm with h9 | h9
            · exact fin (gs_h110l_m (by omega) hP ⟨by omega, by omega⟩ ⟨by omega, by omega⟩ ⟨by omega, by omega⟩ ⟨by omega, by omega⟩ ⟨by omega, by omega⟩ hi hj hx hy hli hlj (by omega) h9 hj2 hF hM)
            · exact fin (gs_h110g_m (by omega) hP ⟨by omega, by omega⟩ ⟨by omega, by omega⟩ ⟨by omega, by omega⟩ ⟨by omega, by omega⟩ ⟨by omega, by omega⟩ hi hj hx hy hli hlj (by omega) h9 hj2 hF hM)
      · have hci := gs_ci_at (i := i) (by omega) hj2
        have hgap := pq_gap (n := n) (fa := fa) (hlj.trans hj5.symm) (by omega) hj4
        have fin : (∃ c', rch c c' ∧ PN gs_Q R 0 L xs n fa c' ∧ (gs_FG n i2 j2 (ct + 1) 0 rest c'.1) ∧ gs_kG n fa s t i i2 so a0 a1 a2 c'.2) → ∃ c', rch c c' ∧ PN gs_Q R 0 L xs n fa c' ∧ gs_FS rest c'.1 ∧ (gs_B4 n fa N T s so a0 a1 a2 c'.2 ∨ gs_O n fa N T s so a0 a1 a2 c'.2) := fun ⟨c1, r1, p1, f1, m1⟩ => by
          obtain ⟨c3, r3, p3, f3, b3⟩ := ih j2 c1 (ct + 1) (by omega) p1 f1 m1 ⟨hj4, hj5⟩ (by omega) (by omega) (by omega)
          exact ⟨c3, r1.tr r3, p3, f3, b3⟩
        have hj2' := hj4
        rcases hz with rfl | ⟨i2, rfl, hz1, hi2, hz2⟩
        · have hy := hxf
          cases hx : xq n fa i with
          | false =>
            rcases Int.lt_or_gt_of_ne hne.symm with h9 | h9
            · exact fin (gs_h001l_m (by omega) hP ⟨by omega, by omega⟩ ⟨by omega, by omega⟩ ⟨by omega, by omega⟩ ⟨by omega, by omega⟩ ⟨by omega, by omega⟩ hi hj hj2' hx hy hli hlj (by omega) h9 hj2 hF hM)
            · exact fin (gs_h001g_m (by omega) hP ⟨by omega, by omega⟩ ⟨by omega, by omega⟩ ⟨by omega, by omega⟩ ⟨by omega, by omega⟩ ⟨by omega, by omega⟩ hi hj hj2' hx hy hli hlj (by omega) h9 hj2 hF hM)
          | true =>
            rcases Int.lt_or_gt_of_ne hne.symm with h9 | h9
            · exact fin (gs_h101l_m (by omega) hP ⟨by omega, by omega⟩ ⟨by omega, by omega⟩ ⟨by omega, by omega⟩ ⟨by omega, by omega⟩ ⟨by omega, by omega⟩ hi hj hj2' hx hy hli hlj (by omega) h9 hj2 hF hM)
            · exact fin (gs_h101g_m (by omega) hP ⟨by omega, by omega⟩ ⟨by omega, by omega⟩ ⟨by omega, by omega⟩ ⟨by omega, by omega⟩ ⟨by omega, by omega⟩ hi hj hj2' hx hy hli hlj (by omega) h9 hj2 hF hM)
        · have hy := hxf
          cases hx : xq n fa i with
          | false =>
            rcases Int.lt_or_gt_of_ne hne.symm with h9 | h9
            · exact fin (gs_h011l_m (by omega) hP ⟨by omega, by omega⟩ ⟨by omega, by omega⟩ ⟨by omega, by omega⟩ ⟨by omega, by omega⟩ ⟨by omega, by omega⟩ hi hj hj2' hx hy hli hlj (by omega) h9 hj2 hF hM)
            · exact fin (gs_h011g_m (by omega) hP ⟨by omega, by omega⟩ ⟨by omega, by omega⟩ ⟨by omega, by omega⟩ ⟨by omega, by omega⟩ ⟨by omega, by omega⟩ hi hj hj2' hx hy hli hlj (by omega) h9 hj2 hF hM)
          | true =>
            rcases Int.lt_or_gt_of_ne hne.symm with h9 | h9
            · exact fin (gs_h111l_m (by omega) hP ⟨by omega, by omega⟩ ⟨by omega, by omega⟩ ⟨by omega, by omega⟩ ⟨by omega, by omega⟩ ⟨by omega, by omega⟩ hi hj hj2' hx hy hli hlj (by omega) h9 hj2 hF hM)
            · exact fin (gs_h111g_m (by omega) hP ⟨by omega, by omega⟩ ⟨by omega, by omega⟩ ⟨by omega, by omega⟩ ⟨by omega, by omega⟩ ⟨by omega, by omega⟩ hi hj hj2' hx hy hli hlj (by omega) h9 hj2 hF hM)
theorem gs_Gl2 (hr : rest.length ≤ 16) (hN : N ≤ 330) (hT : T ≤ 330) (h3 : 3 ≤ s ∧ 2 ≤ t ∧ t < s) (h0 : 0 ≤ so) : ∀ (d i : Nat) (c : MsC) (ct : Int), n + 2 ≤ i + d → PN gs_Q R 0 L xs n fa c → gs_FG2 n t i ct 0 rest c.1 → gs_kG2 n fa s t so a0 a1 a2 c.2 → i < n + 2 ∧ lt n fa i = 112 → 0 ≤ ct ∧ ct ≤ i ∧ ct ≤ n → s + ((b1 (okq n fa i i) + c2 n fa (i + 1) : Nat) : Int) = N → so + ((b1 (okq n fa i i) + c2 n fa (i + 1) : Nat) : Int) = T → ∃ c', rch c c' ∧ PN gs_Q R 0 L xs n fa c' ∧ gs_FS rest c'.1 ∧ (gs_B4 n fa N T s so a0 a1 a2 c'.2 ∨ gs_O n fa N T s so a0 a1 a2 c'.2) := by
  intro d
  induction d with
  | zero => intro i c ct hd hP hF hM hj; omega
  | succ d ih =>
    intro i c ct hd hP hF hM hii hct hs hso
    obtain ⟨hi, hli⟩ := hii
    have hn := hP.nr
    cases hok : okq n fa i i with
    | true =>
      rw [hok] at hs hso
      have fin : (∃ c', rch c c' ∧ PN gs_Q R 0 L xs n fa c' ∧ (gs_FS rest c'.1) ∧ gs_kA2 n fa s t i so a0 a1 a2 c'.2) → ∃ c', rch c c' ∧ PN gs_Q R 0 L xs n fa c' ∧ gs_FS rest c'.1 ∧ (gs_B4 n fa N T s so a0 a1 a2 c'.2 ∨ gs_O n fa N T s so a0 a1 a2 c'.2) := fun ⟨c', r1, p1, f1, m1⟩ => ⟨c', r1, p1, f1, Or.inl (Or.inr (Or.inr (Or.inr ⟨t, i, h3, ⟨hi, hli, hok⟩, hs, hso, m1⟩)))⟩
      cases hx : xq n fa i with
      | false => exact fin (gs_tg0_m (by omega) hP ⟨by omega, by omega⟩ ⟨by omega, by omega⟩ ⟨by omega, by omega⟩ ⟨by omega, by omega⟩ ⟨by omega, by omega⟩ hi hx hli (by omega) (okq_t hok hx).symm hF hM)
      | true => exact fin (gs_tg1_m (by omega) hP ⟨by omega, by omega⟩ ⟨by omega, by omega⟩ ⟨by omega, by omega⟩ ⟨by omega, by omega⟩ ⟨by omega, by omega⟩ hi hx hli (by omega) hF hM)
    | false =>
      rw [hok] at hs hso
      have hs : s + ((c2 n fa (i + 1) : Nat) : Int) = N := by rw [← hs]; show _ = s + ((0 + _ : Nat) : Int); omega
      have hso : so + ((c2 n fa (i + 1) : Nat) : Int) = T := by rw [← hso]; show _ = so + ((0 + _ : Nat) : Int); omega
      obtain ⟨hx, hne⟩ := okq_f hok
      rcases (nf_c (n := n) (fa := fa) (a := 112) (by decide) (i + 1) (by omega)) with hj2 | ⟨i2, hj2, hj3, hi2, hj5⟩
      · have hci := c2_none hj2
        have fin : (∃ c', rch c c' ∧ PN gs_Q R 0 L xs n fa c' ∧ (gs_FG2N n t (ct + 1) 0 rest c'.1) ∧ gs_kG2 n fa s t so a0 a1 a2 c'.2) → ∃ c', rch c c' ∧ PN gs_Q R 0 L xs n fa c' ∧ gs_FS rest c'.1 ∧ (gs_B4 n fa N T s so a0 a1 a2 c'.2 ∨ gs_O n fa N T s so a0 a1 a2 c'.2) := fun ⟨c1, r1, p1, f1, m1⟩ => by
          obtain ⟨c2, r2, p2, f2, m2⟩ := gs_tb_m (by omega) p1 ⟨by omega, by omega⟩ ⟨by omega, by omega⟩ ⟨by omega, by omega⟩ ⟨by omega, by omega⟩ ⟨by omega, by omega⟩ (by omega) f1 m1
          exact ⟨c2, r1.tr r2, p2, f2, Or.inr ⟨by omega, by omega, m2⟩⟩
        rcases Int.lt_or_gt_of_ne hne.symm with h9 | h9
        · exact fin (gs_th0l_m (by omega) hP ⟨by omega, by omega⟩ ⟨by omega, by omega⟩ ⟨by omega, by omega⟩ ⟨by omega, by omega⟩ ⟨by omega, by omega⟩ hi hx hli (by omega) h9 hj2 hF hM)
        · exact fin (gs_th0g_m (by omega) hP ⟨by omega, by omega⟩ ⟨by omega, by omega⟩ ⟨by omega, by omega⟩ ⟨by omega, by omega⟩ ⟨by omega, by omega⟩ hi hx hli (by omega) h9 hj2 hF hM)
      · have hci := c2_at (by omega) hj2
        have hgap := pq_gap (n := n) (fa := fa) (hli.trans hj5.symm) (by omega) hi2
        have fin : (∃ c', rch c c' ∧ PN gs_Q R 0 L xs n fa c' ∧ (gs_FG2 n t i2 (ct + 1) 0 rest c'.1) ∧ gs_kG2 n fa s t so a0 a1 a2 c'.2) → ∃ c', rch c c' ∧ PN gs_Q R 0 L xs n fa c' ∧ gs_FS rest c'.1 ∧ (gs_B4 n fa N T s so a0 a1 a2 c'.2 ∨ gs_O n fa N T s so a0 a1 a2 c'.2) := fun ⟨c1, r1, p1, f1, m1⟩ => by
          obtain ⟨c3, r3, p3, f3, b3⟩ := ih i2 c1 (ct + 1) (by omega) p1 f1 m1 ⟨hi2, hj5⟩ (by omega) (by omega) (by omega)
          exact ⟨c3, r1.tr r3, p3, f3, b3⟩
        rcases Int.lt_or_gt_of_ne hne.symm with h9 | h9
        · exact fin (gs_th1l_m (by omega) hP ⟨by omega, by omega⟩ ⟨by omega, by omega⟩ ⟨by omega, by omega⟩ ⟨by omega, by omega⟩ ⟨by omega, by omega⟩ hi hi2 hx hli (by omega) h9 hj2 hF hM)
        · exact fin (gs_th1g_m (by omega) hP ⟨by omega, by omega⟩ ⟨by omega, by omega⟩ ⟨by omega, by omega⟩ ⟨by omega, by omega⟩ ⟨by omega, by omega⟩ hi hi2 hx hli (by omega) h9 hj2 hF hM)
theorem gs_bk {c : MsC} (hr : rest.length ≤ 15) (hN : N ≤ 330) (hT : T ≤ 330) (hP : PN gs_Q R 0 L xs n fa c) (hmo : 1 ≤ mo ∧ mo ≤ 500) (hF : gs_F0 mo rest c.1) (hJ : gs_J 1 n fa N T s so a0 a1 a2 c.2) : ∃ (st : Nat) (c' : MsC), rch c c' ∧ PN gs_Q R 0 L xs n fa c' ∧ gs_F13 s mo rest c'.1 ∧ (st = 0 ∨ st = 2) ∧ gs_J st n fa N T s so a0 a1 a2 c'.2 := by
  have hn := hP.nr
  obtain ⟨h0, ⟨e, -⟩ | ⟨-, hV⟩ | ⟨e, -⟩⟩ := hJ
  · omega
  rotate_left
  · omega
  have pop : ∀ (mid : List MsF) (c1 : MsC), rch c c1 → PN gs_Q R 0 L xs n fa c1 → gs_F13 s mo rest mid → gs_FS mid c1.1 → (gs_B4 n fa N T s so a0 a1 a2 c1.2 ∨ gs_O n fa N T s so a0 a1 a2 c1.2) → ∃ (st : Nat) (c' : MsC), rch c c' ∧ PN gs_Q R 0 L xs n fa c' ∧ gs_F13 s mo rest c'.1 ∧ (st = 0 ∨ st = 2) ∧ gs_J st n fa N T s so a0 a1 a2 c'.2 := fun mid c1 r1 p1 f3 f1 b1 => by
    obtain ⟨c2, r2, e1, e2⟩ := se_pop (c := c1) (mid := mid) f1 f3
    refine (Or.elim b1 (fun b1 => ⟨0, c2, r1.tr r2, p1.mem e2, by rw [e1]; exact f3, Or.inl rfl, h0, Or.inl ⟨rfl, Or.inr ?_⟩⟩) fun b1 => ⟨2, c2, r1.tr r2, p1.mem e2, by rw [e1]; exact f3, Or.inr rfl, h0, Or.inr (Or.inr ⟨rfl, ?_⟩)⟩)
    · rw [e2]; exact b1
    · rw [e2]; exact b1
  have ml : ∀ mid : List MsF, gs_F13 s mo rest mid → mid.length ≤ 16 := fun mid h => by
    have := sy_Fs.len h
    have : mid.length = 1 + rest.length := this
    omega
  rcases hV with ⟨t, i, j, i2, j2, h3, ⟨hi, hli, hnf⟩, ⟨hj, hlj, hnj⟩, hs, hso, hM⟩ | ⟨t, i, i2, h3, ⟨hi, hnf⟩, hs, hso, hM⟩
  · have hz := (nf_c (n := n) (fa := fa) (a := 113) (by decide) (i + 1) (by omega))
    rw [hnf] at hz
    have hw := (nf_c (n := n) (fa := fa) (a := 112) (by decide) (j + 1) (by omega))
    rw [hnj] at hw
    rcases hw with rfl | ⟨j2, rfl, hw1, hj2', hw2⟩
    · have hci := gs_ci_none (i := i) hnj
      rcases hz with rfl | ⟨i2, rfl, hz1, hi2, hz2⟩
      · have fin : (∃ c', rch c c' ∧ PN gs_Q R 0 L xs n fa c' ∧ (∃ mid, gs_F13 s mo rest mid ∧ gs_FGR n 0 mid c'.1) ∧ gs_kGR n fa s so a0 a1 a2 c'.2) → ∃ (st : Nat) (c' : MsC), rch c c' ∧ PN gs_Q R 0 L xs n fa c' ∧ gs_F13 s mo rest c'.1 ∧ (st = 0 ∨ st = 2) ∧ gs_J st n fa N T s so a0 a1 a2 c'.2 := fun ⟨c1, r1, p1, ⟨mid, f3, f1⟩, m1⟩ => by
          have e1 := gs_st_none hnf
          have e2 := gs_to_none hnf
          obtain ⟨c4, r4, p4, f4, b4⟩ := gs_GR (ml mid f3) hN hT p1 f1 m1 h3.1 h0 (by decide) (by omega) (by omega)
          exact pop mid c4 (r1.tr r4) p4 f3 f4 b4
        cases hx : xq n fa i with
        | false =>
          cases hy : xq n fa j with
          | false =>
            exact fin (gs_w0000_m (by omega) hP ⟨by omega, by omega⟩ ⟨by omega, by omega⟩ ⟨by omega, by omega⟩ ⟨by omega, by omega⟩ hi hj hx hy hli (by omega) hF hM)
          | true =>
            exact fin (gs_w0100_m (by omega) hP ⟨by omega, by omega⟩ ⟨by omega, by omega⟩ ⟨by omega, by omega⟩ ⟨by omega, by omega⟩ hi hj hx hy hli (by omega) hF hM)
        | true =>
          cases hy : xq n fa j with
          | false =>
            exact fin (gs_w1000_m (by omega) hP ⟨by omega, by omega⟩ ⟨by omega, by omega⟩ ⟨by omega, by omega⟩ ⟨by omega, by omega⟩ hi hj hx hy hli (by omega) hF hM)
          | true =>
            exact fin (gs_w1100_m (by omega) hP ⟨by omega, by omega⟩ ⟨by omega, by omega⟩ ⟨by omega, by omega⟩ ⟨by omega, by omega⟩ hi hj hx hy hli (by omega) hF hM)
      · have fin : (∃ c', rch c c' ∧ PN gs_Q R 0 L xs n fa c' ∧ (∃ mid, gs_F13 s mo rest mid ∧ gs_FGP n i2 0 mid c'.1) ∧ gs_kGP n fa s so a0 a1 a2 c'.2) → ∃ (st : Nat) (c' : MsC), rch c c' ∧ PN gs_Q R 0 L xs n fa c' ∧ gs_F13 s mo rest c'.1 ∧ (st = 0 ∨ st = 2) ∧ gs_J st n fa N T s so a0 a1 a2 c'.2 := fun ⟨c1, r1, p1, ⟨mid, f3, f1⟩, m1⟩ => by
          have e1 := gs_st_at (by omega) hnf
          have e2 := gs_to_at (by omega) hnf
          obtain ⟨c4, r4, p4, f4, b4⟩ := gs_GP (ml mid f3) hN hT p1 f1 m1 h3.1 h0 hi2 hz2 (by decide) (by omega) (by omega)
          exact pop mid c4 (r1.tr r4) p4 f3 f4 b4
        cases hx : xq n fa i with
        | false =>
          cases hy : xq n fa j with
          | false =>
            exact fin (gs_w0010_m (by omega) hP ⟨by omega, by omega⟩ ⟨by omega, by omega⟩ ⟨by omega, by omega⟩ ⟨by omega, by omega⟩ hi hi2 hj hx hy hli (by omega) hF hM)
          | true =>
            exact fin (gs_w0110_m (by omega) hP ⟨by omega, by omega⟩ ⟨by omega, by omega⟩ ⟨by omega, by omega⟩ ⟨by omega, by omega⟩ hi hi2 hj hx hy hli (by omega) hF hM)
        | true =>
          cases hy : xq n fa j with
          | false =>
            exact fin (gs_w1010_m (by omega) hP ⟨by omega, by omega⟩ ⟨by omega, by omega⟩ ⟨by omega, by omega⟩ ⟨by omega, by omega⟩ hi hi2 hj hx hy hli (by omega) hF hM)
          | true =>
            exact fin (gs_w1110_m (by omega) hP ⟨by omega, by omega⟩ ⟨by omega, by omega⟩ ⟨by omega, by omega⟩ ⟨by omega, by omega⟩ hi hi2 hj hx hy hli (by omega) hF hM)
    · have hci := gs_ci_at (i := i) (by omega) hnj
      have fin : (∃ c', rch c c' ∧ PN gs_Q R 0 L xs n fa c' ∧ (∃ mid, gs_F13 s mo rest mid ∧ gs_FG n i2 j2 0 0 mid c'.1) ∧ gs_kG n fa s t i i2 so a0 a1 a2 c'.2) → ∃ (st : Nat) (c' : MsC), rch c c' ∧ PN gs_Q R 0 L xs n fa c' ∧ gs_F13 s mo rest c'.1 ∧ (st = 0 ∨ st = 2) ∧ gs_J st n fa N T s so a0 a1 a2 c'.2 := fun ⟨c1, r1, p1, ⟨mid, f3, f1⟩, m1⟩ => by
        obtain ⟨c4, r4, p4, f4, b4⟩ := gs_Gl (ml mid f3) hN hT h3 h0 ⟨hi, hli, hnf⟩ (n + 2) j2 c1 0 (by omega) p1 f1 m1 ⟨hj2', hw2⟩ (by omega) (by omega) (by omega)
        exact pop mid c4 (r1.tr r4) p4 f3 f4 b4
      rcases hz with rfl | ⟨i2, rfl, hz1, hi2, hz2⟩
      · cases hx : xq n fa i with
        | false =>
          cases hy : xq n fa j with
          | false =>
            exact fin (gs_w0001_m (by omega) hP ⟨by omega, by omega⟩ ⟨by omega, by omega⟩ ⟨by omega, by omega⟩ ⟨by omega, by omega⟩ hi hj hj2' hx hy hli (by omega) hF hM)
          | true =>
            exact fin (gs_w0101_m (by omega) hP ⟨by omega, by omega⟩ ⟨by omega, by omega⟩ ⟨by omega, by omega⟩ ⟨by omega, by omega⟩ hi hj hj2' hx hy hli (by omega) hF hM)
        | true =>
          cases hy : xq n fa j with
          | false =>
            exact fin (gs_w1001_m (by omega) hP ⟨by omega, by omega⟩ ⟨by omega, by omega⟩ ⟨by omega, by omega⟩ ⟨by omega, by omega⟩ hi hj hj2' hx hy hli (by omega) hF hM)
          | true =>
            exact fin (gs_w1101_m (by omega) hP ⟨by omega, by omega⟩ ⟨by omega, by omega⟩ ⟨by omega, by omega⟩ ⟨by omega, by omega⟩ hi hj hj2' hx hy hli (by omega) hF hM)
      · cases hx : xq n fa i with
        | false =>
          cases hy : xq n fa j with
          | false =>
            exact fin (gs_w0011_m (by omega) hP ⟨by omega, by omega⟩ ⟨by omega, by omega⟩ ⟨by omega, by omega⟩ ⟨by omega, by omega⟩ hi hj hj2' hx hy hli (by omega) hF hM)
          | true =>
            exact fin (gs_w0111_m (by omega) hP ⟨by omega, by omega⟩ ⟨by omega, by omega⟩ ⟨by omega, by omega⟩ ⟨by omega, by omega⟩ hi hj hj2' hx hy hli (by omega) hF hM)
        | true =>
          cases hy : xq n fa j with
          | false =>
            exact fin (gs_w1011_m (by omega) hP ⟨by omega, by omega⟩ ⟨by omega, by omega⟩ ⟨by omega, by omega⟩ ⟨by omega, by omega⟩ hi hj hj2' hx hy hli (by omega) hF hM)
          | true =>
            exact fin (gs_w1111_m (by omega) hP ⟨by omega, by omega⟩ ⟨by omega, by omega⟩ ⟨by omega, by omega⟩ ⟨by omega, by omega⟩ hi hj hj2' hx hy hli (by omega) hF hM)
  · have hz := (nf_c (n := n) (fa := fa) (a := 112) (by decide) (i + 1) (by omega))
    rw [hnf] at hz
    rcases hz with rfl | ⟨i2, rfl, hz1, hi2, hz2⟩
    · have hci := c2_none hnf
      have fin : (∃ c', rch c c' ∧ PN gs_Q R 0 L xs n fa c' ∧ (gs_F13 s mo rest c'.1) ∧ gs_kOV n fa s so a0 a1 a2 c'.2) → ∃ (st : Nat) (c' : MsC), rch c c' ∧ PN gs_Q R 0 L xs n fa c' ∧ gs_F13 s mo rest c'.1 ∧ (st = 0 ∨ st = 2) ∧ gs_J st n fa N T s so a0 a1 a2 c'.2 := fun ⟨c1, r1, p1, f1, m1⟩ => ⟨2, c1, r1, p1, f1, Or.inr rfl, h0, Or.inr (Or.inr ⟨rfl, by omega, by omega, m1⟩)⟩
      cases hx : xq n fa i with
      | false => exact fin (gs_tw00_m (by omega) hP ⟨by omega, by omega⟩ ⟨by omega, by omega⟩ ⟨by omega, by omega⟩ ⟨by omega, by omega⟩ hi hx (by omega) hF hM)
      | true => exact fin (gs_tw10_m (by omega) hP ⟨by omega, by omega⟩ ⟨by omega, by omega⟩ ⟨by omega, by omega⟩ ⟨by omega, by omega⟩ hi hx (by omega) hF hM)
    · have hci := c2_at (by omega) hnf
      have fin : (∃ c', rch c c' ∧ PN gs_Q R 0 L xs n fa c' ∧ (∃ mid, gs_F13 s mo rest mid ∧ gs_FG2 n t i2 0 0 mid c'.1) ∧ gs_kG2 n fa s t so a0 a1 a2 c'.2) → ∃ (st : Nat) (c' : MsC), rch c c' ∧ PN gs_Q R 0 L xs n fa c' ∧ gs_F13 s mo rest c'.1 ∧ (st = 0 ∨ st = 2) ∧ gs_J st n fa N T s so a0 a1 a2 c'.2 := fun ⟨c1, r1, p1, ⟨mid, f3, f1⟩, m1⟩ => by
        obtain ⟨c4, r4, p4, f4, b4⟩ := gs_Gl2 (ml mid f3) hN hT h3 h0 (n + 2) i2 c1 0 (by omega) p1 f1 m1 ⟨hi2, hz2⟩ (by omega) (by omega) (by omega)
        exact pop mid c4 (r1.tr r4) p4 f3 f4 b4
      cases hx : xq n fa i with
      | false => exact fin (gs_tw01_m (by omega) hP ⟨by omega, by omega⟩ ⟨by omega, by omega⟩ ⟨by omega, by omega⟩ ⟨by omega, by omega⟩ hi hi2 hx (by omega) hF hM)
      | true => exact fin (gs_tw11_m (by omega) hP ⟨by omega, by omega⟩ ⟨by omega, by omega⟩ ⟨by omega, by omega⟩ ⟨by omega, by omega⟩ hi hi2 hx (by omega) hF hM)
theorem gs_Ul {k : Int} (hr : rest.length ≤ 15) (hN : N ≤ 330) (hT : T ≤ 330) (h3 : 3 ≤ s ∧ 2 ≤ t ∧ t < s) (h0 : 0 ≤ so) (hI : gs_I n fa i i2) (hk : 0 ≤ k ∧ k < mo ∧ mo ≤ 500) : ∀ (d j : Nat) (c : MsC) (ct : Int), n + 2 ≤ j + d → PN gs_Q R 0 L xs n fa c → gs_FU n k mo be j ct rest c.1 → gs_kH n fa s t i i2 so a0 a1 a2 c.2 → j < n + 2 ∧ lt n fa j = 112 → 0 ≤ ct ∧ ct ≤ j ∧ ct ≤ n → s + ((m1 (b1 (okq n fa j i) + gs_ci n fa i (j + 1)) + gs_st n fa (i + 1) + tl n fa : Nat) : Int) = N + 1 → so + ((b1 (okq n fa j i) + gs_ci n fa i (j + 1) + gs_to n fa (i + 1) + c2 n fa 0 : Nat) : Int) = T → ∃ (st : Nat) (so' : Int) (c' : MsC), rch c c' ∧ PN gs_Q R 0 L xs n fa c' ∧ gs_F15 (k + 1) mo be rest c'.1 ∧ gs_J st n fa N T s so' a0 a1 a2 c'.2 := by
  intro d
  obtain ⟨hi, hli, hnf⟩ := hI
  induction d with
  | zero => intro j c ct hd hP hF hM hj; omega
  | succ d ih =>
    intro j c ct hd hP hF hM hjj hct hs hso
    obtain ⟨hj, hlj⟩ := hjj
    have hn := hP.nr
    have hz := (nf_c (n := n) (fa := fa) (a := 113) (by decide) (i + 1) (by omega))
    rw [hnf] at hz
    have hw := (nf_c (n := n) (fa := fa) (a := 112) (by decide) (j + 1) (by omega))
    have ht1 : 1 ≤ tl n fa := Nat.le_add_right _ _
    cases hok : okq n fa j i with
    | true =>
      rw [hok] at hs hso
      rw [m1_p (by show 0 < 1 + _; omega)] at hs
      have hs : s + ((1 + gs_ci n fa i (j + 1) + gs_st n fa (i + 1) + tl n fa : Nat) : Int) = N + 1 := hs
      have hso : so + ((1 + gs_ci n fa i (j + 1) + gs_to n fa (i + 1) + c2 n fa 0 : Nat) : Int) = T := hso
      have fin : ∀ {j2 : Int}, nf n fa 112 (j + 1) = j2 → (∃ c', rch c c' ∧ PN gs_Q R 0 L xs n fa c' ∧ (gs_F15 (k + 1) mo be rest c'.1) ∧ gs_kW n fa s t i i2 j j2 (so + 1) a0 a1 a2 c'.2) → ∃ (st : Nat) (so' : Int) (c' : MsC), rch c c' ∧ PN gs_Q R 0 L xs n fa c' ∧ gs_F15 (k + 1) mo be rest c'.1 ∧ gs_J st n fa N T s so' a0 a1 a2 c'.2 := fun {j2} hj2 ⟨c', r1, p1, f1, m1⟩ => ⟨1, so + 1, c', r1, p1, f1, by omega, Or.inr (Or.inl ⟨rfl, Or.inl ⟨t, i, j, i2, j2, h3, ⟨hi, hli, hnf⟩, ⟨hj, hlj, hj2⟩, by omega, by omega, m1⟩⟩)⟩
      rcases hw with hj2 | ⟨j2, hj2, hj3, hj2', hj5⟩
      · have fin := fin hj2
        rcases hz with rfl | ⟨i2, rfl, hz1, hi2, hz2⟩
        · cases hx : xq n fa i with
          | false =>
            cases hy : xq n fa j with
            | false =>
              exact fin (gs_s0000_m (by omega) hP ⟨by omega, by omega⟩ ⟨by omega, by omega⟩ ⟨by omega, by omega⟩ ⟨by omega, by omega⟩ ⟨by omega, by omega⟩ ⟨by omega, by omega⟩ hi hj hx hy hli hlj (by omega) ((okq_t hok hy).symm) hj2 hF hM)
            | true =>
              exact fin (gs_s0010_m (by omega) hP ⟨by omega, by omega⟩ ⟨by omega, by omega⟩ ⟨by omega, by omega⟩ ⟨by omega, by omega⟩ ⟨by omega, by omega⟩ ⟨by omega, by omega⟩ hi hj hx hy hli hlj (by omega) hj2 hF hM)
          | true =>
            cases hy : xq n fa j with
            | false =>
              exact fin (gs_s1000_m (by omega) hP ⟨by omega, by omega⟩ ⟨by omega, by omega⟩ ⟨by omega, by omega⟩ ⟨by omega, by omega⟩ ⟨by omega, by omega⟩ ⟨by omega, by omega⟩ hi hj hx hy hli hlj (by omega) ((okq_t hok hy).symm) hj2 hF hM)
            | true =>
              exact fin (gs_s1010_m (by omega) hP ⟨by omega, by omega⟩ ⟨by omega, by omega⟩ ⟨by omega, by omega⟩ ⟨by omega, by omega⟩ ⟨by omega, by omega⟩ ⟨by omega, by omega⟩ hi hj hx hy hli hlj (by omega) hj2 hF hM)
        · cases hx : xq n fa i with
          | false =>
            cases hy : xq n fa j with
            | false =>
              exact fin (gs_s0100_m (by omega) hP ⟨by omega, by omega⟩ ⟨by omega, by omega⟩ ⟨by omega, by omega⟩ ⟨by omega, by omega⟩ ⟨by omega, by omega⟩ ⟨by omega, by omega⟩ hi hj hx hy hli hlj (by omega) ((okq_t hok hy).symm) hj2 hF hM)
            | true =>
              exact fin (gs_s0110_m (by omega) hP ⟨by omega, by omega⟩ ⟨by omega, by omega⟩ ⟨by omega, by omega⟩ ⟨by omega, by omega⟩ ⟨by omega, by omega⟩ ⟨by omega, by omega⟩ hi hj hx hy hli hlj (by omega) hj2 hF hM)
          | true =>
            cases hy : xq n fa j with
            | false =>
              exact fin (gs_s1100_m (by omega) hP ⟨by omega, by omega⟩ ⟨by omega, by omega⟩ ⟨by omega, by omega⟩ ⟨by omega, by omega⟩ ⟨by omega, by omega⟩ ⟨by omega, by omega⟩ hi hj hx hy hli hlj (by omega) ((okq_t hok hy).symm) hj2 hF hM)
            | true =>
              exact fin (gs_s1110_m (by omega) hP ⟨by omega, by omega⟩ ⟨by omega, by omega⟩ ⟨by omega, by omega⟩ ⟨by omega, by omega⟩ ⟨by omega, by omega⟩ ⟨by omega, by omega⟩ hi hj hx hy hli hlj (by omega) hj2 hF hM)
      · have fin := fin hj2
        rcases hz with rfl | ⟨i2, rfl, hz1, hi2, hz2⟩
        · cases hx : xq n fa i with
          | false =>
            cases hy : xq n fa j with
            | false =>
              exact fin (gs_s0001_m (by omega) hP ⟨by omega, by omega⟩ ⟨by omega, by omega⟩ ⟨by omega, by omega⟩ ⟨by omega, by omega⟩ ⟨by omega, by omega⟩ ⟨by omega, by omega⟩ hi hj hj2' hx hy hli hlj (by omega) ((okq_t hok hy).symm) hj2 hF hM)
            | true =>
              exact fin (gs_s0011_m (by omega) hP ⟨by omega, by omega⟩ ⟨by omega, by omega⟩ ⟨by omega, by omega⟩ ⟨by omega, by omega⟩ ⟨by omega, by omega⟩ ⟨by omega, by omega⟩ hi hj hj2' hx hy hli hlj (by omega) hj2 hF hM)
          | true =>
            cases hy : xq n fa j with
            | false =>
              exact fin (gs_s1001_m (by omega) hP ⟨by omega, by omega⟩ ⟨by omega, by omega⟩ ⟨by omega, by omega⟩ ⟨by omega, by omega⟩ ⟨by omega, by omega⟩ ⟨by omega, by omega⟩ hi hj hj2' hx hy hli hlj (by omega) ((okq_t hok hy).symm) hj2 hF hM)
            | true =>
              exact fin (gs_s1011_m (by omega) hP ⟨by omega, by omega⟩ ⟨by omega, by omega⟩ ⟨by omega, by omega⟩ ⟨by omega, by omega⟩ ⟨by omega, by omega⟩ ⟨by omega, by omega⟩ hi hj hj2' hx hy hli hlj (by omega) hj2 hF hM)
        · cases hx : xq n fa i with
          | false =>
            cases hy : xq n fa j with
            | false =>
              exact fin (gs_s0101_m (by omega) hP ⟨by omega, by omega⟩ ⟨by omega, by omega⟩ ⟨by omega, by omega⟩ ⟨by omega, by omega⟩ ⟨by omega, by omega⟩ ⟨by omega, by omega⟩ hi hj hj2' hx hy hli hlj (by omega) ((okq_t hok hy).symm) hj2 hF hM)
            | true =>
              exact fin (gs_s0111_m (by omega) hP ⟨by omega, by omega⟩ ⟨by omega, by omega⟩ ⟨by omega, by omega⟩ ⟨by omega, by omega⟩ ⟨by omega, by omega⟩ ⟨by omega, by omega⟩ hi hj hj2' hx hy hli hlj (by omega) hj2 hF hM)
          | true =>
            cases hy : xq n fa j with
            | false =>
              exact fin (gs_s1101_m (by omega) hP ⟨by omega, by omega⟩ ⟨by omega, by omega⟩ ⟨by omega, by omega⟩ ⟨by omega, by omega⟩ ⟨by omega, by omega⟩ ⟨by omega, by omega⟩ hi hj hj2' hx hy hli hlj (by omega) ((okq_t hok hy).symm) hj2 hF hM)
            | true =>
              exact fin (gs_s1111_m (by omega) hP ⟨by omega, by omega⟩ ⟨by omega, by omega⟩ ⟨by omega, by omega⟩ ⟨by omega, by omega⟩ ⟨by omega, by omega⟩ ⟨by omega, by omega⟩ hi hj hj2' hx hy hli hlj (by omega) hj2 hF hM)
    | false =>
      rw [hok] at hs hso
      have hs : s + ((m1 (gs_ci n fa i (j + 1)) + gs_st n fa (i + 1) + tl n fa : Nat) : Int) = N + 1 := by rw [← hs]; show _ = s + ((m1 (0 + _) + _ + _ : Nat) : Int); rw [Nat.zero_add]
      have hso : so + ((gs_ci n fa i (j + 1) + gs_to n fa (i + 1) + c2 n fa 0 : Nat) : Int) = T := by rw [← hso]; show _ = so + ((0 + _ + _ + _ : Nat) : Int); omega
      obtain ⟨hxf, hne⟩ := okq_f hok
      rcases hw with hj2 | ⟨j2, hj2, hj3, hj4, hj5⟩
      · have hci := gs_ci_none (i := i) hj2
        have hm0 := m1_0 hci
        have fin2 : ∀ c1 : MsC, rch c c1 → PN gs_Q R 0 L xs n fa c1 → gs_FUN n k mo be (ct + 1) rest c1.1 → gs_kH n fa s t i i2 so a0 a1 a2 c1.2 → ∃ (st : Nat) (so' : Int) (c' : MsC), rch c c' ∧ PN gs_Q R 0 L xs n fa c' ∧ gs_F15 (k + 1) mo be rest c'.1 ∧ gs_J st n fa N T s so' a0 a1 a2 c'.2 := fun c1 r1 p1 f1 m1 => by
          have pop : ∀ (mid : List MsF) (c1 : MsC), rch c c1 → PN gs_Q R 0 L xs n fa c1 → gs_F41 k mo be rest mid → gs_FS mid c1.1 → (gs_B4 n fa N T s so a0 a1 a2 c1.2 ∨ gs_O n fa N T s so a0 a1 a2 c1.2) → ∃ (st : Nat) (so' : Int) (c' : MsC), rch c c' ∧ PN gs_Q R 0 L xs n fa c' ∧ gs_F15 (k + 1) mo be rest c'.1 ∧ gs_J st n fa N T s so' a0 a1 a2 c'.2 := fun mid c1 r1 p1 f3 f1 b1 => by
            obtain ⟨c2, r2, e1, e2⟩ := se_pop (c := c1) (mid := mid) f1 f3
            have p2 := p1.mem e2
            obtain ⟨c3, r3, f4, s3, e3⟩ := fz_m (c := c2) (rest := rest) (k := k) (mo := mo) (be := be) (by omega) p2.E (by omega) (by rw [e1]; exact f3)
            have s3 : sy_sm c1.2 c3.2 := by rw [← e2]; exact s3
            have p3 : PN gs_Q R 0 L xs n fa c3 := p2.sm (by rw [e2]; exact s3) e3
            exact Or.elim b1 (fun b1 => ⟨0, so, c3, r1.tr (r2.tr r3), p3, f4, h0, Or.inl ⟨rfl, Or.inr (b1.sm s3)⟩⟩) fun b1 => ⟨2, so, c3, r1.tr (r2.tr r3), p3, f4, h0, Or.inr (Or.inr ⟨rfl, b1.sm s3⟩)⟩
          have ml : ∀ mid : List MsF, gs_F41 k mo be rest mid → mid.length ≤ 16 := fun mid h => by
            have := sy_Fs.len h
            have : mid.length = 1 + rest.length := this
            omega
          rcases hz with rfl | ⟨i2, rfl, hz1, hi2, hz2⟩
          · have fin : (∃ c', rch c1 c' ∧ PN gs_Q R 0 L xs n fa c' ∧ (∃ mid, gs_F41 k mo be rest mid ∧ gs_FGR n 0 mid c'.1) ∧ gs_kGR n fa s so a0 a1 a2 c'.2) → ∃ (st : Nat) (so' : Int) (c' : MsC), rch c c' ∧ PN gs_Q R 0 L xs n fa c' ∧ gs_F15 (k + 1) mo be rest c'.1 ∧ gs_J st n fa N T s so' a0 a1 a2 c'.2 := fun ⟨c2, r2, p2, ⟨mid, f3, f2⟩, m2⟩ => by
              have e1 := gs_st_none hnf
              have e2 := gs_to_none hnf
              obtain ⟨c4, r4, p4, f4, b4⟩ := gs_GR (ml mid f3) hN hT p2 f2 m2 h3.1 h0 (by decide) (by omega) (by omega)
              exact pop mid c4 (r1.tr (r2.tr r4)) p4 f3 f4 b4
            cases hx : xq n fa i with
            | false =>
              exact fin (gs_e00_m (by omega) p1 ⟨by omega, by omega⟩ ⟨by omega, by omega⟩ ⟨by omega, by omega⟩ ⟨by omega, by omega⟩ ⟨by omega, by omega⟩ ⟨by omega, by omega⟩ hi hx hli (by omega) f1 m1)
            | true =>
              exact fin (gs_e10_m (by omega) p1 ⟨by omega, by omega⟩ ⟨by omega, by omega⟩ ⟨by omega, by omega⟩ ⟨by omega, by omega⟩ ⟨by omega, by omega⟩ ⟨by omega, by omega⟩ hi hx hli (by omega) f1 m1)
          · have fin : (∃ c', rch c1 c' ∧ PN gs_Q R 0 L xs n fa c' ∧ (∃ mid, gs_F41 k mo be rest mid ∧ gs_FGP n i2 0 mid c'.1) ∧ gs_kGP n fa s so a0 a1 a2 c'.2) → ∃ (st : Nat) (so' : Int) (c' : MsC), rch c c' ∧ PN gs_Q R 0 L xs n fa c' ∧ gs_F15 (k + 1) mo be rest c'.1 ∧ gs_J st n fa N T s so' a0 a1 a2 c'.2 := fun ⟨c2, r2, p2, ⟨mid, f3, f2⟩, m2⟩ => by
              have e1 := gs_st_at (by omega) hnf
              have e2 := gs_to_at (by omega) hnf
              obtain ⟨c4, r4, p4, f4, b4⟩ := gs_GP (ml mid f3) hN hT p2 f2 m2 h3.1 h0 hi2 hz2 (by decide) (by omega) (by omega)
              exact pop mid c4 (r1.tr (r2.tr r4)) p4 f3 f4 b4
            cases hx : xq n fa i with
            | false =>
              exact fin (gs_e01_m (by omega) p1 ⟨by omega, by omega⟩ ⟨by omega, by omega⟩ ⟨by omega, by omega⟩ ⟨by omega, by omega⟩ ⟨by omega, by omega⟩ ⟨by omega, by omega⟩ hi hi2 hx hli (by omega) f1 m1)
            | true =>
              exact fin (gs_e11_m (by omega) p1 ⟨by omega, by omega⟩ ⟨by omega, by omega⟩ ⟨by omega, by omega⟩ ⟨by omega, by omega⟩ ⟨by omega, by omega⟩ ⟨by omega, by omega⟩ hi hi2 hx hli (by omega) f1 m1)
        have fin : (∃ c', rch c c' ∧ PN gs_Q R 0 L xs n fa c' ∧ (gs_FUN n k mo be (ct + 1) rest c'.1) ∧ gs_kH n fa s t i i2 so a0 a1 a2 c'.2) → ∃ (st : Nat) (so' : Int) (c' : MsC), rch c c' ∧ PN gs_Q R 0 L xs n fa c' ∧ gs_F15 (k + 1) mo be rest c'.1 ∧ gs_J st n fa N T s so' a0 a1 a2 c'.2 := fun ⟨c1, r1, p1, f1, m1⟩ => fin2 c1 r1 p1 f1 m1
        rcases hz with rfl | ⟨i2, rfl, hz1, hi2, hz2⟩
        · have hy := hxf
          cases hx : xq n fa i with
          | false =>
            rcases Int.lt_or_gt_of_ne hne.symm with h9 | h9
            · exact fin (gs_f000l_m (by omega) hP ⟨by omega, by omega⟩ ⟨by omega, by omega⟩ ⟨by omega, by omega⟩ ⟨by omega, by omega⟩ ⟨by omega, by omega⟩ ⟨by omega, by omega⟩ hi hj hx hy hli hlj (by omega) h9 hj2 hF hM)
            · exact fin (gs_f000g_m (by omega) hP ⟨by omega, by omega⟩ ⟨by omega, by omega⟩ ⟨by omega, by omega⟩ ⟨by omega, by omega⟩ ⟨by omega, by omega⟩ ⟨by omega, by omega⟩ hi hj hx hy hli hlj (by omega) h9 hj2 hF hM)
          | true =>
            rcases Int.lt_or_gt_of_ne hne.symm with h9 | h9
            · exact fin (gs_f100l_m (by omega) hP ⟨by omega, by omega⟩ ⟨by omega, by omega⟩ ⟨by omega, by omega⟩ ⟨by omega, by omega⟩ ⟨by omega, by omega⟩ ⟨by omega, by omega⟩ hi hj hx hy hli hlj (by omega) h9 hj2 hF hM)
            · exact fin (gs_f100g_m (by omega) hP ⟨by omega, by omega⟩ ⟨by omega, by omega⟩ ⟨by omega, by omega⟩ ⟨by omega, by omega⟩ ⟨by omega, by omega⟩ ⟨by omega, by omega⟩ hi hj hx hy hli hlj (by omega) h9 hj2 hF hM)
        · have hy := hxf
          cases hx : xq n fa i with
          | false =>
            rcases Int.lt_or_gt_of_ne hne.symm with h9 | h9
            · exact fin (gs_f010l_m (by omega) hP ⟨by omega, by omega⟩ ⟨by omega, by omega⟩ ⟨by omega, by omega⟩ ⟨by omega, by omega⟩ ⟨by omega, by omega⟩ ⟨by omega, by omega⟩ hi hj hx hy hli hlj (by omega) h9 hj2 hF hM)
            · exact fin (gs_f010g_m (by omega) hP ⟨by omega, by omega⟩ ⟨by omega, by omega⟩ ⟨by omega, by omega⟩ ⟨by omega, by omega⟩ ⟨by omega, by omega⟩ ⟨by omega, by omega⟩ hi hj hx hy hli hlj (by omega) h9 hj2 hF hM)
          | true =>
            rcases Int.lt_or_gt_of_ne hne.symm with h9 | h9
            · exact fin (gs_f110l_m (by omega) hP ⟨by omega, by omega⟩ ⟨by omega, by omega⟩ ⟨by omega, by omega⟩ ⟨by omega, by omega⟩ ⟨by omega, by omega⟩ ⟨by omega, by omega⟩ hi hj hx hy hli hlj (by omega) h9 hj2 hF hM)
            · exact fin (gs_f110g_m (by omega) hP ⟨by omega, by omega⟩ ⟨by omega, by omega⟩ ⟨by omega, by omega⟩ ⟨by omega, by omega⟩ ⟨by omega, by omega⟩ ⟨by omega, by omega⟩ hi hj hx hy hli hlj (by omega) h9 hj2 hF hM)
      · have hci := gs_ci_at (i := i) (by omega) hj2
        have hgap := pq_gap (n := n) (fa := fa) (hlj.trans hj5.symm) (by omega) hj4
        rw [hci] at hs
        have fin : (∃ c', rch c c' ∧ PN gs_Q R 0 L xs n fa c' ∧ (gs_FU n k mo be j2 (ct + 1) rest c'.1) ∧ gs_kH n fa s t i i2 so a0 a1 a2 c'.2) → ∃ (st : Nat) (so' : Int) (c' : MsC), rch c c' ∧ PN gs_Q R 0 L xs n fa c' ∧ gs_F15 (k + 1) mo be rest c'.1 ∧ gs_J st n fa N T s so' a0 a1 a2 c'.2 := fun ⟨c1, r1, p1, f1, m1⟩ => by
          obtain ⟨st, so9, c3, r3, p3, f3, b3⟩ := ih j2 c1 (ct + 1) (by omega) p1 f1 m1 ⟨hj4, hj5⟩ (by omega) hs (by omega)
          exact ⟨st, so9, c3, r1.tr r3, p3, f3, b3⟩
        have hj2' := hj4
        rcases hz with rfl | ⟨i2, rfl, hz1, hi2, hz2⟩
        · have hy := hxf
          cases hx : xq n fa i with
          | false =>
            rcases Int.lt_or_gt_of_ne hne.symm with h9 | h9
            · exact fin (gs_f001l_m (by omega) hP ⟨by omega, by omega⟩ ⟨by omega, by omega⟩ ⟨by omega, by omega⟩ ⟨by omega, by omega⟩ ⟨by omega, by omega⟩ ⟨by omega, by omega⟩ hi hj hj2' hx hy hli hlj (by omega) h9 hj2 hF hM)
            · exact fin (gs_f001g_m (by omega) hP ⟨by omega, by omega⟩ ⟨by omega, by omega⟩ ⟨by omega, by omega⟩ ⟨by omega, by omega⟩ ⟨by omega, by omega⟩ ⟨by omega, by omega⟩ hi hj hj2' hx hy hli hlj (by omega) h9 hj2 hF hM)
          | true =>
            rcases Int.lt_or_gt_of_ne hne.symm with h9 | h9
            · exact fin (gs_f101l_m (by omega) hP ⟨by omega, by omega⟩ ⟨by omega, by omega⟩ ⟨by omega, by omega⟩ ⟨by omega, by omega⟩ ⟨by omega, by omega⟩ ⟨by omega, by omega⟩ hi hj hj2' hx hy hli hlj (by omega) h9 hj2 hF hM)
            · exact fin (gs_f101g_m (by omega) hP ⟨by omega, by omega⟩ ⟨by omega, by omega⟩ ⟨by omega, by omega⟩ ⟨by omega, by omega⟩ ⟨by omega, by omega⟩ ⟨by omega, by omega⟩ hi hj hj2' hx hy hli hlj (by omega) h9 hj2 hF hM)
        · have hy := hxf
          cases hx : xq n fa i with
          | false =>
            rcases Int.lt_or_gt_of_ne hne.symm with h9 | h9
            · exact fin (gs_f011l_m (by omega) hP ⟨by omega, by omega⟩ ⟨by omega, by omega⟩ ⟨by omega, by omega⟩ ⟨by omega, by omega⟩ ⟨by omega, by omega⟩ ⟨by omega, by omega⟩ hi hj hj2' hx hy hli hlj (by omega) h9 hj2 hF hM)
            · exact fin (gs_f011g_m (by omega) hP ⟨by omega, by omega⟩ ⟨by omega, by omega⟩ ⟨by omega, by omega⟩ ⟨by omega, by omega⟩ ⟨by omega, by omega⟩ ⟨by omega, by omega⟩ hi hj hj2' hx hy hli hlj (by omega) h9 hj2 hF hM)
          | true =>
            rcases Int.lt_or_gt_of_ne hne.symm with h9 | h9
            · exact fin (gs_f111l_m (by omega) hP ⟨by omega, by omega⟩ ⟨by omega, by omega⟩ ⟨by omega, by omega⟩ ⟨by omega, by omega⟩ ⟨by omega, by omega⟩ ⟨by omega, by omega⟩ hi hj hj2' hx hy hli hlj (by omega) h9 hj2 hF hM)
            · exact fin (gs_f111g_m (by omega) hP ⟨by omega, by omega⟩ ⟨by omega, by omega⟩ ⟨by omega, by omega⟩ ⟨by omega, by omega⟩ ⟨by omega, by omega⟩ ⟨by omega, by omega⟩ hi hj hj2' hx hy hli hlj (by omega) h9 hj2 hF hM)
theorem gs_Ul2 {k : Int} (hr : rest.length ≤ 15) (hN : N ≤ 330) (hT : T ≤ 330) (h3 : 3 ≤ s ∧ 2 ≤ t ∧ t < s) (h0 : 0 ≤ so) (hk : 0 ≤ k ∧ k < mo ∧ mo ≤ 500) : ∀ (d i : Nat) (c : MsC) (ct : Int), n + 2 ≤ i + d → PN gs_Q R 0 L xs n fa c → gs_FU2 n k mo be t i ct rest c.1 → gs_kH2 n fa s t so a0 a1 a2 c.2 → i < n + 2 ∧ lt n fa i = 112 → 0 ≤ ct ∧ ct ≤ i ∧ ct ≤ n → s + ((m1 (b1 (okq n fa i i) + c2 n fa (i + 1)) : Nat) : Int) = N + 1 → so + ((b1 (okq n fa i i) + c2 n fa (i + 1) : Nat) : Int) = T → ∃ (st : Nat) (so' : Int) (c' : MsC), rch c c' ∧ PN gs_Q R 0 L xs n fa c' ∧ gs_F15 (k + 1) mo be rest c'.1 ∧ gs_J st n fa N T s so' a0 a1 a2 c'.2 := by
  intro d
  induction d with
  | zero => intro i c ct hd hP hF hM hj; omega
  | succ d ih =>
    intro i c ct hd hP hF hM hii hct hs hso
    obtain ⟨hi, hli⟩ := hii
    have hn := hP.nr
    have hw := (nf_c (n := n) (fa := fa) (a := 112) (by decide) (i + 1) (by omega))
    cases hok : okq n fa i i with
    | true =>
      rw [hok] at hs hso
      rw [m1_p (by show 0 < 1 + _; omega)] at hs
      have hs : s + ((1 + c2 n fa (i + 1) : Nat) : Int) = N + 1 := hs
      have hso : so + ((1 + c2 n fa (i + 1) : Nat) : Int) = T := hso
      have fin : ∀ {i2 : Int}, nf n fa 112 (i + 1) = i2 → (∃ c', rch c c' ∧ PN gs_Q R 0 L xs n fa c' ∧ (gs_F15 (k + 1) mo be rest c'.1) ∧ gs_kW2 n fa s t i i2 (so + 1) a0 a1 a2 c'.2) → ∃ (st : Nat) (so' : Int) (c' : MsC), rch c c' ∧ PN gs_Q R 0 L xs n fa c' ∧ gs_F15 (k + 1) mo be rest c'.1 ∧ gs_J st n fa N T s so' a0 a1 a2 c'.2 := fun {i2} hj2 ⟨c', r1, p1, f1, m1⟩ => ⟨1, so + 1, c', r1, p1, f1, by omega, Or.inr (Or.inl ⟨rfl, Or.inr ⟨t, i, i2, h3, ⟨hi, hj2⟩, by omega, by omega, m1⟩⟩)⟩
      rcases hw with hj2 | ⟨i2, hj2, hj3, hi2, hj5⟩
      · have fin := fin hj2
        cases hx : xq n fa i with
        | false => exact fin (gs_ts00_m (by omega) hP ⟨by omega, by omega⟩ ⟨by omega, by omega⟩ ⟨by omega, by omega⟩ ⟨by omega, by omega⟩ ⟨by omega, by omega⟩ ⟨by omega, by omega⟩ hi hx hli (by omega) (okq_t hok hx).symm hj2 hF hM)
        | true => exact fin (gs_ts10_m (by omega) hP ⟨by omega, by omega⟩ ⟨by omega, by omega⟩ ⟨by omega, by omega⟩ ⟨by omega, by omega⟩ ⟨by omega, by omega⟩ ⟨by omega, by omega⟩ hi hx hli (by omega) hj2 hF hM)
      · have fin := fin hj2
        cases hx : xq n fa i with
        | false => exact fin (gs_ts01_m (by omega) hP ⟨by omega, by omega⟩ ⟨by omega, by omega⟩ ⟨by omega, by omega⟩ ⟨by omega, by omega⟩ ⟨by omega, by omega⟩ ⟨by omega, by omega⟩ hi hi2 hx hli (by omega) (okq_t hok hx).symm hj2 hF hM)
        | true => exact fin (gs_ts11_m (by omega) hP ⟨by omega, by omega⟩ ⟨by omega, by omega⟩ ⟨by omega, by omega⟩ ⟨by omega, by omega⟩ ⟨by omega, by omega⟩ ⟨by omega, by omega⟩ hi hi2 hx hli (by omega) hj2 hF hM)
    | false =>
      rw [hok] at hs hso
      have hs : s + ((m1 (c2 n fa (i + 1)) : Nat) : Int) = N + 1 := by rw [← hs]; show _ = s + ((m1 (0 + _) : Nat) : Int); rw [Nat.zero_add]
      have hso : so + ((c2 n fa (i + 1) : Nat) : Int) = T := by rw [← hso]; show _ = so + ((0 + _ : Nat) : Int); omega
      obtain ⟨hx, hne⟩ := okq_f hok
      rcases hw with hj2 | ⟨i2, hj2, hj3, hi2, hj5⟩
      · have hci := c2_none hj2
        have hm0 := m1_0 hci
        have fin : (∃ c', rch c c' ∧ PN gs_Q R 0 L xs n fa c' ∧ (gs_FU2N n k mo be t (ct + 1) rest c'.1) ∧ gs_kH2 n fa s t so a0 a1 a2 c'.2) → ∃ (st : Nat) (so' : Int) (c' : MsC), rch c c' ∧ PN gs_Q R 0 L xs n fa c' ∧ gs_F15 (k + 1) mo be rest c'.1 ∧ gs_J st n fa N T s so' a0 a1 a2 c'.2 := fun ⟨c1, r1, p1, f1, m1⟩ => by
          obtain ⟨c2, r2, p2, f2, m2⟩ := gs_te_m (by omega) p1 ⟨by omega, by omega⟩ ⟨by omega, by omega⟩ ⟨by omega, by omega⟩ ⟨by omega, by omega⟩ ⟨by omega, by omega⟩ ⟨by omega, by omega⟩ (by omega) f1 m1
          obtain ⟨c3, r3, f4, s3, e3⟩ := fz_m (c := c2) (rest := rest) (k := k) (mo := mo) (be := be) (by omega) p2.E (by omega) f2
          exact ⟨2, so, c3, r1.tr (r2.tr r3), p2.sm s3 e3, f4, h0, Or.inr (Or.inr ⟨rfl, by omega, by omega, mm.sm m2 s3⟩)⟩
        rcases Int.lt_or_gt_of_ne hne.symm with h9 | h9
        · exact fin (gs_tf0l_m (by omega) hP ⟨by omega, by omega⟩ ⟨by omega, by omega⟩ ⟨by omega, by omega⟩ ⟨by omega, by omega⟩ ⟨by omega, by omega⟩ ⟨by omega, by omega⟩ hi hx hli (by omega) h9 hj2 hF hM)
        · exact fin (gs_tf0g_m (by omega) hP ⟨by omega, by omega⟩ ⟨by omega, by omega⟩ ⟨by omega, by omega⟩ ⟨by omega, by omega⟩ ⟨by omega, by omega⟩ ⟨by omega, by omega⟩ hi hx hli (by omega) h9 hj2 hF hM)
      · have hci := c2_at (by omega) hj2
        have hgap := pq_gap (n := n) (fa := fa) (hli.trans hj5.symm) (by omega) hi2
        rw [hci] at hs
        have fin : (∃ c', rch c c' ∧ PN gs_Q R 0 L xs n fa c' ∧ (gs_FU2 n k mo be t i2 (ct + 1) rest c'.1) ∧ gs_kH2 n fa s t so a0 a1 a2 c'.2) → ∃ (st : Nat) (so' : Int) (c' : MsC), rch c c' ∧ PN gs_Q R 0 L xs n fa c' ∧ gs_F15 (k + 1) mo be rest c'.1 ∧ gs_J st n fa N T s so' a0 a1 a2 c'.2 := fun ⟨c1, r1, p1, f1, m1⟩ => by
          obtain ⟨st, so9, c3, r3, p3, f3, b3⟩ := ih i2 c1 (ct + 1) (by omega) p1 f1 m1 ⟨hi2, hj5⟩ (by omega) hs (by omega)
          exact ⟨st, so9, c3, r1.tr r3, p3, f3, b3⟩
        rcases Int.lt_or_gt_of_ne hne.symm with h9 | h9
        · exact fin (gs_tf1l_m (by omega) hP ⟨by omega, by omega⟩ ⟨by omega, by omega⟩ ⟨by omega, by omega⟩ ⟨by omega, by omega⟩ ⟨by omega, by omega⟩ ⟨by omega, by omega⟩ hi hi2 hx hli (by omega) h9 hj2 hF hM)
        · exact fin (gs_tf1g_m (by omega) hP ⟨by omega, by omega⟩ ⟨by omega, by omega⟩ ⟨by omega, by omega⟩ ⟨by omega, by omega⟩ ⟨by omega, by omega⟩ ⟨by omega, by omega⟩ hi hi2 hx hli (by omega) h9 hj2 hF hM)
/-- the rules' clauses -/
theorem gs_o0 (hf : ∀ j, j < n → fa_ok (fa j)) : cfor (lt n fa) 115 (n + 6 - 0) 0 = ((n + 4 : Nat) : Int) := rule_first hf 4 115 (by decide) (by decide) (by decide)
theorem gs_o1 : cfor (lt n fa) 115 (n + 6 - (n + 5)) (n + 5) = ((n + 5 : Nat) : Int) := rule_here 5 115 (by decide) (by decide)
theorem gs_o2 : cfor (lt n fa) 115 (n + 6 - (n + 6)) (n + 6) = -1 := rule_none 6 115 (by decide)
theorem gs_stp {c : MsC} {k : Int} (hr : rest.length ≤ 15) (hN : N ≤ 330) (hT : T ≤ 330) (hP : PN gs_Q R 0 L xs n fa c) (hk : 0 ≤ k ∧ k < mo ∧ mo ≤ 500) (hF : gs_F15 k mo be rest c.1) (hJ : gs_J 0 n fa N T s so a0 a1 a2 c.2) : ∃ (st : Nat) (so' : Int) (c' : MsC), rch c c' ∧ PN gs_Q R 0 L xs n fa c' ∧ gs_F15 (k + 1) mo be rest c'.1 ∧ gs_J st n fa N T (s + 1) so' a0 a1 a2 c'.2 := by
  have hn := hP.nr
  obtain ⟨h0, ⟨-, hA⟩ | ⟨e, -⟩ | ⟨e, -⟩⟩ := hJ
  rotate_left
  · omega
  · omega
  have ht1 : 1 ≤ tl n fa := Nat.le_add_right _ _
  have hm1 := m1_1 (c2 n fa 0)
  rcases hA with (⟨hs0, hso0, hs, hso, hM⟩ | ⟨h3, hs, hso, hM⟩ | ⟨i, i2, h3, ⟨hi, hli, hnf⟩, hs, hso, hM⟩ | ⟨h3, hs, hso, hM⟩) | (⟨t, i, j, i2, h3, ⟨hi, hli, hnf⟩, ⟨hj, hlj, hok⟩, hs, hso, hM⟩ | ⟨i, h3, ⟨hi, hli⟩, hs, hso, hM⟩ | ⟨h3, hs, hso, hM⟩ | ⟨t, i, h3, ⟨hi, hli, hok⟩, hs, hso, hM⟩)
  · -- the rule
    subst hs0
    subst hso0
    obtain ⟨c', r1, p1, f1, m1⟩ := gs_r1_m (by omega) hP ⟨by omega, by omega⟩ ⟨by omega, by omega⟩ (by omega) (gs_o0 hP.f) gs_o1 hF hM
    exact ⟨0, 0, c', r1, p1, f1, h0, Or.inl ⟨rfl, Or.inl (Or.inr (Or.inl ⟨by omega, by omega, by omega, m1⟩))⟩⟩
  · -- the first goal
    obtain ⟨i, hi1, hi, hli⟩ := nf_0 (n := n) (fa := fa) (a := 113) (by decide)
    have e1 := gs_st_at (by omega) hi1
    have e2 := gs_to_at (by omega) hi1
    have hz := (nf_c (n := n) (fa := fa) (a := 113) (by decide) (i + 1) (by omega))
    generalize hnf : nf n fa 113 (i + 1) = i2 at hz
    have fin : (∃ c', rch c c' ∧ PN gs_Q R 0 L xs n fa c' ∧ (gs_F15 (k + 1) mo be rest c'.1) ∧ gs_kQ n fa (s + 1) i i2 so a0 a1 a2 c'.2) → ∃ (st : Nat) (so' : Int) (c' : MsC), rch c c' ∧ PN gs_Q R 0 L xs n fa c' ∧ gs_F15 (k + 1) mo be rest c'.1 ∧ gs_J st n fa N T (s + 1) so' a0 a1 a2 c'.2 := fun ⟨c', r1, p1, f1, m1⟩ => ⟨0, so, c', r1, p1, f1, h0, Or.inl ⟨rfl, Or.inl (Or.inr (Or.inr (Or.inl ⟨i, i2, by omega, ⟨hi, hli, hnf⟩, by omega, by omega, m1⟩)))⟩⟩
    rcases hz with rfl | ⟨i2, rfl, hz1, hi2, hz2⟩
    · cases hx : xq n fa i with
      | false =>
        exact fin (gs_p00_m (by omega) hP ⟨by omega, by omega⟩ ⟨by omega, by omega⟩ ⟨by omega, by omega⟩ ⟨by omega, by omega⟩ hi hx hli (by omega) hi1 hnf hF hM)
      | true =>
        exact fin (gs_p10_m (by omega) hP ⟨by omega, by omega⟩ ⟨by omega, by omega⟩ ⟨by omega, by omega⟩ ⟨by omega, by omega⟩ hi hx hli (by omega) hi1 hnf hF hM)
    · cases hx : xq n fa i with
      | false =>
        exact fin (gs_p01_m (by omega) hP ⟨by omega, by omega⟩ ⟨by omega, by omega⟩ ⟨by omega, by omega⟩ ⟨by omega, by omega⟩ hi hi2 hx hli (by omega) hi1 hnf hF hM)
      | true =>
        exact fin (gs_p11_m (by omega) hP ⟨by omega, by omega⟩ ⟨by omega, by omega⟩ ⟨by omega, by omega⟩ ⟨by omega, by omega⟩ hi hi2 hx hli (by omega) hi1 hnf hF hM)
  · -- the second goal
    obtain ⟨j, hj1, hj, hlj⟩ := nf_0 (n := n) (fa := fa) (a := 112) (by decide)
    have hci := gs_ci_at (i := i) (by omega) hj1
    have fin : (∃ c', rch c c' ∧ PN gs_Q R 0 L xs n fa c' ∧ (gs_FU n k mo be j 0 rest c'.1) ∧ gs_kH n fa (s + 1) s i i2 so a0 a1 a2 c'.2) → ∃ (st : Nat) (so' : Int) (c' : MsC), rch c c' ∧ PN gs_Q R 0 L xs n fa c' ∧ gs_F15 (k + 1) mo be rest c'.1 ∧ gs_J st n fa N T (s + 1) so' a0 a1 a2 c'.2 := fun ⟨c1, r1, p1, f1, m1⟩ => by
      rw [hci] at hs hso
      obtain ⟨st, so9, c3, r3, p3, f3, b3⟩ := gs_Ul hr hN hT ⟨by omega, by omega, by omega⟩ h0 ⟨hi, hli, hnf⟩ hk (n + 2) j c1 0 (by omega) p1 f1 m1 ⟨hj, hlj⟩ (by omega) (by omega) (by omega)
      exact ⟨st, so9, c3, r1.tr r3, p3, f3, b3⟩
    have hz := (nf_c (n := n) (fa := fa) (a := 113) (by decide) (i + 1) (by omega))
    rw [hnf] at hz
    rcases hz with rfl | ⟨i2, rfl, hz1, hi2, hz2⟩
    · cases hx : xq n fa i with
      | false =>
        exact fin (gs_q00_m (by omega) hP ⟨by omega, by omega⟩ ⟨by omega, by omega⟩ ⟨by omega, by omega⟩ ⟨by omega, by omega⟩ hi hx hli (by omega) hj1 hF hM)
      | true =>
        exact fin (gs_q10_m (by omega) hP ⟨by omega, by omega⟩ ⟨by omega, by omega⟩ ⟨by omega, by omega⟩ ⟨by omega, by omega⟩ hi hx hli (by omega) hj1 hF hM)
    · cases hx : xq n fa i with
      | false =>
        exact fin (gs_q01_m (by omega) hP ⟨by omega, by omega⟩ ⟨by omega, by omega⟩ ⟨by omega, by omega⟩ ⟨by omega, by omega⟩ hi hx hli (by omega) hj1 hF hM)
      | true =>
        exact fin (gs_q11_m (by omega) hP ⟨by omega, by omega⟩ ⟨by omega, by omega⟩ ⟨by omega, by omega⟩ ⟨by omega, by omega⟩ hi hx hli (by omega) hj1 hF hM)
  · -- the second rule's goal
    obtain ⟨i, hi1, hi, hli⟩ := nf_0 (n := n) (fa := fa) (a := 112) (by decide)
    have hci := c2_at (by omega) hi1
    obtain ⟨c1, r1, p1, f1, m1⟩ := gs_t_m (by omega) hP ⟨by omega, by omega⟩ ⟨by omega, by omega⟩ ⟨by omega, by omega⟩ ⟨by omega, by omega⟩ (by omega) hi1 hF hM
    rw [hci] at hs hso
    obtain ⟨st, so9, c3, r3, p3, f3, b3⟩ := gs_Ul2 hr hN hT ⟨by omega, by omega, by omega⟩ h0 hk (n + 2) i c1 0 (by omega) p1 f1 m1 ⟨hi, hli⟩ (by omega) (by omega) (by omega)
    exact ⟨st, so9, c3, r1.tr r3, p3, f3, b3⟩
  · -- the second goal again
    have hz := (nf_c (n := n) (fa := fa) (a := 113) (by decide) (i + 1) (by omega))
    rw [hnf] at hz
    have fin : ∀ {j2 : Int}, nf n fa 112 (j + 1) = j2 → (∃ c', rch c c' ∧ PN gs_Q R 0 L xs n fa c' ∧ (gs_F15 (k + 1) mo be rest c'.1) ∧ gs_kW n fa (s + 1) t i i2 j j2 (so + 1) a0 a1 a2 c'.2) → ∃ (st : Nat) (so' : Int) (c' : MsC), rch c c' ∧ PN gs_Q R 0 L xs n fa c' ∧ gs_F15 (k + 1) mo be rest c'.1 ∧ gs_J st n fa N T (s + 1) so' a0 a1 a2 c'.2 := fun {j2} hj2 ⟨c', r1, p1, f1, m1⟩ => ⟨1, so + 1, c', r1, p1, f1, by omega, Or.inr (Or.inl ⟨rfl, Or.inl ⟨t, i, j, i2, j2, ⟨by omega, by omega, by omega⟩, ⟨hi, hli, hnf⟩, ⟨hj, hlj, hj2⟩, by omega, by omega, m1⟩⟩)⟩
    rcases (nf_c (n := n) (fa := fa) (a := 112) (by decide) (j + 1) (by omega)) with hw | ⟨j2, hw, hw1, hj2', hw2⟩
    · have fin := fin hw
      rcases hz with rfl | ⟨i2, rfl, hz1, hi2, hz2⟩
      · cases hx : xq n fa i with
        | false =>
          cases hy : xq n fa j with
          | false =>
            exact fin (gs_a0000_m (by omega) hP ⟨by omega, by omega⟩ ⟨by omega, by omega⟩ ⟨by omega, by omega⟩ ⟨by omega, by omega⟩ ⟨by omega, by omega⟩ hi hj hx hy hli hlj (by omega) (by omega) ((okq_t hok hy).symm) hw hF hM)
          | true =>
            exact fin (gs_a0010_m (by omega) hP ⟨by omega, by omega⟩ ⟨by omega, by omega⟩ ⟨by omega, by omega⟩ ⟨by omega, by omega⟩ ⟨by omega, by omega⟩ hi hj hx hy hli hlj (by omega) (by omega) hw hF hM)
        | true =>
          cases hy : xq n fa j with
          | false =>
            exact fin (gs_a1000_m (by omega) hP ⟨by omega, by omega⟩ ⟨by omega, by omega⟩ ⟨by omega, by omega⟩ ⟨by omega, by omega⟩ ⟨by omega, by omega⟩ hi hj hx hy hli hlj (by omega) (by omega) ((okq_t hok hy).symm) hw hF hM)
          | true =>
            exact fin (gs_a1010_m (by omega) hP ⟨by omega, by omega⟩ ⟨by omega, by omega⟩ ⟨by omega, by omega⟩ ⟨by omega, by omega⟩ ⟨by omega, by omega⟩ hi hj hx hy hli hlj (by omega) (by omega) hw hF hM)
      · cases hx : xq n fa i with
        | false =>
          cases hy : xq n fa j with
          | false =>
            exact fin (gs_a0100_m (by omega) hP ⟨by omega, by omega⟩ ⟨by omega, by omega⟩ ⟨by omega, by omega⟩ ⟨by omega, by omega⟩ ⟨by omega, by omega⟩ hi hj hx hy hli hlj (by omega) (by omega) ((okq_t hok hy).symm) hw hF hM)
          | true =>
            exact fin (gs_a0110_m (by omega) hP ⟨by omega, by omega⟩ ⟨by omega, by omega⟩ ⟨by omega, by omega⟩ ⟨by omega, by omega⟩ ⟨by omega, by omega⟩ hi hj hx hy hli hlj (by omega) (by omega) hw hF hM)
        | true =>
          cases hy : xq n fa j with
          | false =>
            exact fin (gs_a1100_m (by omega) hP ⟨by omega, by omega⟩ ⟨by omega, by omega⟩ ⟨by omega, by omega⟩ ⟨by omega, by omega⟩ ⟨by omega, by omega⟩ hi hj hx hy hli hlj (by omega) (by omega) ((okq_t hok hy).symm) hw hF hM)
          | true =>
            exact fin (gs_a1110_m (by omega) hP ⟨by omega, by omega⟩ ⟨by omega, by omega⟩ ⟨by omega, by omega⟩ ⟨by omega, by omega⟩ ⟨by omega, by omega⟩ hi hj hx hy hli hlj (by omega) (by omega) hw hF hM)
    · have fin := fin hw
      rcases hz with rfl | ⟨i2, rfl, hz1, hi2, hz2⟩
      · cases hx : xq n fa i with
        | false =>
          cases hy : xq n fa j with
          | false =>
            exact fin (gs_a0001_m (by omega) hP ⟨by omega, by omega⟩ ⟨by omega, by omega⟩ ⟨by omega, by omega⟩ ⟨by omega, by omega⟩ ⟨by omega, by omega⟩ hi hj hj2' hx hy hli hlj (by omega) (by omega) ((okq_t hok hy).symm) hw hF hM)
          | true =>
            exact fin (gs_a0011_m (by omega) hP ⟨by omega, by omega⟩ ⟨by omega, by omega⟩ ⟨by omega, by omega⟩ ⟨by omega, by omega⟩ ⟨by omega, by omega⟩ hi hj hj2' hx hy hli hlj (by omega) (by omega) hw hF hM)
        | true =>
          cases hy : xq n fa j with
          | false =>
            exact fin (gs_a1001_m (by omega) hP ⟨by omega, by omega⟩ ⟨by omega, by omega⟩ ⟨by omega, by omega⟩ ⟨by omega, by omega⟩ ⟨by omega, by omega⟩ hi hj hj2' hx hy hli hlj (by omega) (by omega) ((okq_t hok hy).symm) hw hF hM)
          | true =>
            exact fin (gs_a1011_m (by omega) hP ⟨by omega, by omega⟩ ⟨by omega, by omega⟩ ⟨by omega, by omega⟩ ⟨by omega, by omega⟩ ⟨by omega, by omega⟩ hi hj hj2' hx hy hli hlj (by omega) (by omega) hw hF hM)
      · cases hx : xq n fa i with
        | false =>
          cases hy : xq n fa j with
          | false =>
            exact fin (gs_a0101_m (by omega) hP ⟨by omega, by omega⟩ ⟨by omega, by omega⟩ ⟨by omega, by omega⟩ ⟨by omega, by omega⟩ ⟨by omega, by omega⟩ hi hj hj2' hx hy hli hlj (by omega) (by omega) ((okq_t hok hy).symm) hw hF hM)
          | true =>
            exact fin (gs_a0111_m (by omega) hP ⟨by omega, by omega⟩ ⟨by omega, by omega⟩ ⟨by omega, by omega⟩ ⟨by omega, by omega⟩ ⟨by omega, by omega⟩ hi hj hj2' hx hy hli hlj (by omega) (by omega) hw hF hM)
        | true =>
          cases hy : xq n fa j with
          | false =>
            exact fin (gs_a1101_m (by omega) hP ⟨by omega, by omega⟩ ⟨by omega, by omega⟩ ⟨by omega, by omega⟩ ⟨by omega, by omega⟩ ⟨by omega, by omega⟩ hi hj hj2' hx hy hli hlj (by omega) (by omega) ((okq_t hok hy).symm) hw hF hM)
          | true =>
            exact fin (gs_a1111_m (by omega) hP ⟨by omega, by omega⟩ ⟨by omega, by omega⟩ ⟨by omega, by omega⟩ ⟨by omega, by omega⟩ ⟨by omega, by omega⟩ hi hj hj2' hx hy hli hlj (by omega) (by omega) hw hF hM)
  · -- the first goal again
    have hz := (nf_c (n := n) (fa := fa) (a := 113) (by decide) (i + 1) (by omega))
    generalize hnf : nf n fa 113 (i + 1) = i2 at hz
    have fin : (∃ c', rch c c' ∧ PN gs_Q R 0 L xs n fa c' ∧ (gs_F15 (k + 1) mo be rest c'.1) ∧ gs_kQ n fa (s + 1) i i2 so a0 a1 a2 c'.2) → ∃ (st : Nat) (so' : Int) (c' : MsC), rch c c' ∧ PN gs_Q R 0 L xs n fa c' ∧ gs_F15 (k + 1) mo be rest c'.1 ∧ gs_J st n fa N T (s + 1) so' a0 a1 a2 c'.2 := fun ⟨c', r1, p1, f1, m1⟩ => ⟨0, so, c', r1, p1, f1, h0, Or.inl ⟨rfl, Or.inl (Or.inr (Or.inr (Or.inl ⟨i, i2, by omega, ⟨hi, hli, hnf⟩, by omega, by omega, m1⟩)))⟩⟩
    rcases hz with rfl | ⟨i2, rfl, hz1, hi2, hz2⟩
    · cases hx : xq n fa i with
      | false =>
        exact fin (gs_ap00_m (by omega) hP ⟨by omega, by omega⟩ ⟨by omega, by omega⟩ ⟨by omega, by omega⟩ ⟨by omega, by omega⟩ hi hx hli (by omega) hnf hF hM)
      | true =>
        exact fin (gs_ap10_m (by omega) hP ⟨by omega, by omega⟩ ⟨by omega, by omega⟩ ⟨by omega, by omega⟩ ⟨by omega, by omega⟩ hi hx hli (by omega) hnf hF hM)
    · cases hx : xq n fa i with
      | false =>
        exact fin (gs_ap01_m (by omega) hP ⟨by omega, by omega⟩ ⟨by omega, by omega⟩ ⟨by omega, by omega⟩ ⟨by omega, by omega⟩ hi hi2 hx hli (by omega) hnf hF hM)
      | true =>
        exact fin (gs_ap11_m (by omega) hP ⟨by omega, by omega⟩ ⟨by omega, by omega⟩ ⟨by omega, by omega⟩ ⟨by omega, by omega⟩ hi hi2 hx hli (by omega) hnf hF hM)
  · -- the rule again
    obtain ⟨c', r1, p1, f1, m9⟩ := gs_ar_m (by omega) hP ⟨by omega, by omega⟩ ⟨by omega, by omega⟩ ⟨by omega, by omega⟩ ⟨by omega, by omega⟩ (by omega) gs_o2 hF hM
    have e : tl n fa = 1 + m1 (c2 n fa 0) := rfl
    exact ⟨0, so, c', r1, p1, f1, h0, Or.inl ⟨rfl, Or.inl (Or.inr (Or.inr (Or.inr ⟨by omega, by omega, by omega, m9⟩)))⟩⟩
  · -- the second rule's goal again
    have fin : ∀ {i2 : Int}, nf n fa 112 (i + 1) = i2 → (∃ c', rch c c' ∧ PN gs_Q R 0 L xs n fa c' ∧ (gs_F15 (k + 1) mo be rest c'.1) ∧ gs_kW2 n fa (s + 1) t i i2 (so + 1) a0 a1 a2 c'.2) → ∃ (st : Nat) (so' : Int) (c' : MsC), rch c c' ∧ PN gs_Q R 0 L xs n fa c' ∧ gs_F15 (k + 1) mo be rest c'.1 ∧ gs_J st n fa N T (s + 1) so' a0 a1 a2 c'.2 := fun {i2} hj2 ⟨c', r1, p1, f1, m1⟩ => ⟨1, so + 1, c', r1, p1, f1, by omega, Or.inr (Or.inl ⟨rfl, Or.inr ⟨t, i, i2, ⟨by omega, by omega, by omega⟩, ⟨hi, hj2⟩, by omega, by omega, m1⟩⟩)⟩
    rcases (nf_c (n := n) (fa := fa) (a := 112) (by decide) (i + 1) (by omega)) with hw | ⟨i2, hw, hw1, hi2, hw2⟩
    · have fin := fin hw
      cases hx : xq n fa i with
      | false => exact fin (gs_ta00_m (by omega) hP ⟨by omega, by omega⟩ ⟨by omega, by omega⟩ ⟨by omega, by omega⟩ ⟨by omega, by omega⟩ ⟨by omega, by omega⟩ hi hx hli (by omega) (by omega) (okq_t hok hx).symm hw hF hM)
      | true => exact fin (gs_ta10_m (by omega) hP ⟨by omega, by omega⟩ ⟨by omega, by omega⟩ ⟨by omega, by omega⟩ ⟨by omega, by omega⟩ ⟨by omega, by omega⟩ hi hx hli (by omega) (by omega) hw hF hM)
    · have fin := fin hw
      cases hx : xq n fa i with
      | false => exact fin (gs_ta01_m (by omega) hP ⟨by omega, by omega⟩ ⟨by omega, by omega⟩ ⟨by omega, by omega⟩ ⟨by omega, by omega⟩ ⟨by omega, by omega⟩ hi hi2 hx hli (by omega) (by omega) (okq_t hok hx).symm hw hF hM)
      | true => exact fin (gs_ta11_m (by omega) hP ⟨by omega, by omega⟩ ⟨by omega, by omega⟩ ⟨by omega, by omega⟩ ⟨by omega, by omega⟩ ⟨by omega, by omega⟩ hi hi2 hx hli (by omega) (by omega) hw hF hM)
theorem gs_Jf {st : Nat} (h : gs_J st n fa N T s so a0 a1 a2 S) : (st = 0 → s < N) ∧ (st = 2 → s = N ∧ so = T) := by
  have ht1 : 1 ≤ tl n fa := Nat.le_add_right _ _
  have hm1 := m1_1 (c2 n fa 0)
  obtain ⟨h0, ⟨e, h | h⟩ | ⟨e, h⟩ | ⟨e, h⟩⟩ := h
  · refine ⟨fun _ => ?_, fun e2 => by omega⟩
    rcases h with ⟨g1, g2, g3, g4, g5⟩ | ⟨g1, g2, g3, g4⟩ | ⟨i, i2, g1, g2, g3, g4, g5⟩ | ⟨g1, g2, g3, g4⟩ <;> omega
  · refine ⟨fun _ => ?_, fun e2 => by omega⟩
    rcases h with ⟨t, i, j, i2, g1, g2, g3, g4, g5, g6⟩ | ⟨i, g1, g2, g3, g4, g5⟩ | ⟨g1, g2, g3, g4⟩ | ⟨t, i, g1, g2, g3, g4, g5⟩ <;> omega
  · exact ⟨fun e2 => by omega, fun e2 => by omega⟩
  · exact ⟨fun e2 => by omega, fun _ => ⟨h.1, h.2.1⟩⟩
end Mps
