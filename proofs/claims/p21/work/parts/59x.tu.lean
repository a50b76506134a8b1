/-! PHASE F (written by wip/p21/gU.py). -/
theorem EN.sm {lk ch : Int} {M0 : Nat → Nat → Value} {c c' : MsC} (h : EN lk ch M0 c) (ht : 54 ≤ c.2.2.2.1) (s3 : sy_sm c.2 c'.2) : EN lk ch M0 c' := fun q j hq => by
  rw [(s3.1 q (Or.inl (by omega))).2 j]
  exact h q j hq
def jx_E (n : Nat) (fa : Fa) (i : Nat) : Bool := ek n fa 113 (fun j => decide (uq n fa i = uq n fa j)) 0
def jx_ok (n : Nat) (fa : Fa) (i : Nat) : Bool := okq n fa i i && jx_E n fa i
def jx_Z (good : Bool) (n : Nat) (fa : Fa) (mo be lk nx cu a0 a1 a2 b ch : Int) (rest : List MsF) (c : MsC) : Prop := (good = true ∧ ∃ (k s t : Int) (i j : Nat), (0 ≤ k ∧ k ≤ 400) ∧ (2 ≤ s ∧ s ≤ 900) ∧ (1 ≤ t ∧ t < s) ∧ i < n + 2 ∧ jx_F40 k mo be rest c.1 ∧ jx_kW n fa s t i j lk nx cu a0 a1 a2 b ch c.2) ∨ (good = false ∧ ∃ (k s t kb : Int) (i : Nat), (0 ≤ k ∧ k ≤ 400) ∧ (1 ≤ s ∧ s ≤ 900) ∧ (0 ≤ kb ∧ kb ≤ 3) ∧ (∃ mid, jx_F41 k mo be rest mid ∧ jx_FX kb mid c.1) ∧ (jx_kFK n fa s lk nx cu a0 a1 a2 b ch c.2 ∨ ((1 ≤ t ∧ t < s) ∧ i < n + 2 ∧ jx_kFQ n fa s t i lk nx cu a0 a1 a2 b ch c.2)))
theorem jx_Il0 {R : SyM} {L : Nat} {xs : Nat → Int32} {rest : List MsF} {n : Nat} {fa : Fa} {M0 : Nat → Nat → Value} {k mo be s t lk nx cu a0 a1 a2 b ch : Int} {i : Nat} {i2 : Int} (hr : rest.length ≤ 15) (hmo : mo = 500) (hb : 0 ≤ b ∧ b ≤ 3) (hlk : 0 ≤ lk ∧ lk ≤ 5) (hnx : -1 ≤ nx ∧ nx ≤ 3) (hcu : 0 ≤ cu ∧ cu ≤ 2) (hch : 0 ≤ ch ∧ ch ≤ 2) (hk : 0 ≤ k ∧ k ≤ 400) (hs : 2 ≤ s ∧ s ≤ 900) (ht : 1 ≤ t ∧ t < s) (hi : i < n + 2) (hli : lt n fa i = 112) (hx : xq n fa i = false) (hok6 : uq n fa i = vq n fa i) (hz : i2 = -1 ∨ ∃ z : Nat, i2 = z ∧ z < n + 2) : ∀ (d j : Nat) (c : MsC) (ct : Int), n + 2 ≤ j + d → PG jx_Q R b lk ch M0 L xs n fa c → jx_FU2 k mo be j ct b rest c.1 → jx_kH n fa s t i i2 lk nx cu a0 a1 a2 b ch c.2 → j < n + 2 ∧ lt n fa j = 113 → 0 ≤ ct ∧ ct ≤ j ∧ ct ≤ n → ∃ c', rch c c' ∧ PG jx_Q R b lk ch M0 L xs n fa c' ∧ (((decide (uq n fa i = uq n fa j) || ek n fa 113 (fun j => decide (uq n fa i = uq n fa j)) (j + 1)) = true ∧ ∃ j : Nat, jx_F40 k mo be rest c'.1 ∧ jx_kW n fa s t i j lk nx cu a0 a1 a2 b ch c'.2) ∨ ((decide (uq n fa i = uq n fa j) || ek n fa 113 (fun j => decide (uq n fa i = uq n fa j)) (j + 1)) = false ∧ ∃ ct : Int, (0 ≤ ct ∧ ct ≤ 12) ∧ jx_FU2N k mo be ct b rest c'.1 ∧ jx_kH n fa s t i i2 lk nx cu a0 a1 a2 b ch c'.2)) := by
  intro d
  induction d with
  | zero => intro j c ct hd hP hF hM hj; omega
  | succ d ih =>
    intro j c ct hd hP hF hM hjj hct
    obtain ⟨hj, hlj⟩ := hjj
    have hn := hP.1.nr
    have hw := (nf_c (n := n) (fa := fa) (a := 113) (by decide) (j + 1) (by omega))
    by_cases hne : uq n fa i = uq n fa j
    · have hoq := hne
      rw [decide_eq_true hne, Bool.true_or]
      suffices fin9 : (∃ c', rch c c' ∧ PG jx_Q R b lk ch M0 L xs n fa c' ∧ (jx_F40 k mo be rest c'.1) ∧ jx_kW n fa s t i j lk nx cu a0 a1 a2 b ch c'.2) by
        obtain ⟨c', r1, p1, f1, m1⟩ := fin9
        exact ⟨c', r1, p1, Or.inl ⟨rfl, j, f1, m1⟩⟩
      have fin : (∃ c', rch c c' ∧ PG jx_Q R b lk ch M0 L xs n fa c' ∧ (jx_F40 k mo be rest c'.1) ∧ jx_kW n fa s t i j lk nx cu a0 a1 a2 b ch c'.2) → (∃ c', rch c c' ∧ PG jx_Q R b lk ch M0 L xs n fa c' ∧ (jx_F40 k mo be rest c'.1) ∧ jx_kW n fa s t i j lk nx cu a0 a1 a2 b ch c'.2) := fun h => h
      rcases hw with hj2 | ⟨j2, hj2, hj3, hj4, hj5⟩
      · rcases hz with rfl | ⟨i2, rfl, hi2⟩
        · cases hy : xq n fa j with
          | false => exact fin (jx_s0000_m (by omega) hP hb ⟨by omega, by omega⟩ ⟨by omega, by omega⟩ ⟨by omega, by omega⟩ ⟨by omega, by omega⟩ ⟨by omega, by omega⟩ ⟨by omega, by omega⟩ ⟨by omega, by omega⟩ ⟨by omega, by omega⟩ ⟨by omega, by omega⟩ ⟨by omega, by omega⟩ hi hj hx hy hli hlj (by omega) hok6 hoq hj2 hF hM)
          | true => exact fin (jx_s0010_m (by omega) hP hb ⟨by omega, by omega⟩ ⟨by omega, by omega⟩ ⟨by omega, by omega⟩ ⟨by omega, by omega⟩ ⟨by omega, by omega⟩ ⟨by omega, by omega⟩ ⟨by omega, by omega⟩ ⟨by omega, by omega⟩ ⟨by omega, by omega⟩ ⟨by omega, by omega⟩ hi hj hx hy hli hlj (by omega) hok6 hoq hj2 hF hM)
        · cases hy : xq n fa j with
          | false => exact fin (jx_s0100_m (by omega) hP hb ⟨by omega, by omega⟩ ⟨by omega, by omega⟩ ⟨by omega, by omega⟩ ⟨by omega, by omega⟩ ⟨by omega, by omega⟩ ⟨by omega, by omega⟩ ⟨by omega, by omega⟩ ⟨by omega, by omega⟩ ⟨by omega, by omega⟩ ⟨by omega, by omega⟩ hi hj hx hy hli hlj (by omega) hok6 hoq hj2 hF hM)
          | true => exact fin (jx_s0110_m (by omega) hP hb ⟨by omega, by omega⟩ ⟨by omega, by omega⟩ ⟨by omega, by omega⟩ ⟨by omega, by omega⟩ ⟨by omega, by omega⟩ ⟨by omega, by omega⟩ ⟨by omega, by omega⟩ ⟨by omega, by omega⟩ ⟨by omega, by omega⟩ ⟨by omega, by omega⟩ hi hj hx hy hli hlj (by omega) hok6 hoq hj2 hF hM)
      · have hj2' := hj4
        rcases hz with rfl | ⟨i2, rfl, hi2⟩
        · cases hy : xq n fa j with
          | false => exact fin (jx_s0001_m (by omega) hP hb ⟨by omega, by omega⟩ ⟨by omega, by omega⟩ ⟨by omega, by omega⟩ ⟨by omega, by omega⟩ ⟨by omega, by omega⟩ ⟨by omega, by omega⟩ ⟨by omega, by omega⟩ ⟨by omega, by omega⟩ ⟨by omega, by omega⟩ ⟨by omega, by omega⟩ hi hj hj4 hx hy hli hlj (by omega) hok6 hoq hj2 hF hM)
          | true => exact fin (jx_s0011_m (by omega) hP hb ⟨by omega, by omega⟩ ⟨by omega, by omega⟩ ⟨by omega, by omega⟩ ⟨by omega, by omega⟩ ⟨by omega, by omega⟩ ⟨by omega, by omega⟩ ⟨by omega, by omega⟩ ⟨by omega, by omega⟩ ⟨by omega, by omega⟩ ⟨by omega, by omega⟩ hi hj hj4 hx hy hli hlj (by omega) hok6 hoq hj2 hF hM)
        · cases hy : xq n fa j with
          | false => exact fin (jx_s0101_m (by omega) hP hb ⟨by omega, by omega⟩ ⟨by omega, by omega⟩ ⟨by omega, by omega⟩ ⟨by omega, by omega⟩ ⟨by omega, by omega⟩ ⟨by omega, by omega⟩ ⟨by omega, by omega⟩ ⟨by omega, by omega⟩ ⟨by omega, by omega⟩ ⟨by omega, by omega⟩ hi hj hj4 hx hy hli hlj (by omega) hok6 hoq hj2 hF hM)
          | true => exact fin (jx_s0111_m (by omega) hP hb ⟨by omega, by omega⟩ ⟨by omega, by omega⟩ ⟨by omega, by omega⟩ ⟨by omega, by omega⟩ ⟨by omega, by omega⟩ ⟨by omega, by omega⟩ ⟨by omega, by omega⟩ ⟨by omega, by omega⟩ ⟨by omega, by omega⟩ ⟨by omega, by omega⟩ hi hj hj4 hx hy hli hlj (by omega) hok6 hoq hj2 hF hM)
    · rw [decide_eq_false hne, Bool.false_or]
      rcases hw with hj2 | ⟨j2, hj2, hj3, hj4, hj5⟩
      · suffices fin9 : (∃ c', rch c c' ∧ PG jx_Q R b lk ch M0 L xs n fa c' ∧ (jx_FU2N k mo be (ct + 1) b rest c'.1) ∧ jx_kH n fa s t i i2 lk nx cu a0 a1 a2 b ch c'.2) by
          obtain ⟨c1, r1, p1, f1, m1⟩ := fin9
          exact ⟨c1, r1, p1, Or.inr ⟨ek_none hj2, ct + 1, by omega, f1, m1⟩⟩
        have fin : (∃ c', rch c c' ∧ PG jx_Q R b lk ch M0 L xs n fa c' ∧ (jx_FU2N k mo be (ct + 1) b rest c'.1) ∧ jx_kH n fa s t i i2 lk nx cu a0 a1 a2 b ch c'.2) → (∃ c', rch c c' ∧ PG jx_Q R b lk ch M0 L xs n fa c' ∧ (jx_FU2N k mo be (ct + 1) b rest c'.1) ∧ jx_kH n fa s t i i2 lk nx cu a0 a1 a2 b ch c'.2) := fun h => h
        rcases hz with rfl | ⟨i2, rfl, hi2⟩
        · rcases Int.lt_or_gt_of_ne hne with h9 | h9
          · exact fin (jx_f000l_m (by omega) hP hb ⟨by omega, by omega⟩ ⟨by omega, by omega⟩ ⟨by omega, by omega⟩ ⟨by omega, by omega⟩ ⟨by omega, by omega⟩ ⟨by omega, by omega⟩ ⟨by omega, by omega⟩ ⟨by omega, by omega⟩ ⟨by omega, by omega⟩ ⟨by omega, by omega⟩ hi hj hx hli hlj (by omega) h9 hok6 hj2 hF hM)
          · exact fin (jx_f000g_m (by omega) hP hb ⟨by omega, by omega⟩ ⟨by omega, by omega⟩ ⟨by omega, by omega⟩ ⟨by omega, by omega⟩ ⟨by omega, by omega⟩ ⟨by omega, by omega⟩ ⟨by omega, by omega⟩ ⟨by omega, by omega⟩ ⟨by omega, by omega⟩ ⟨by omega, by omega⟩ hi hj hx hli hlj (by omega) h9 hok6 hj2 hF hM)
        · rcases Int.lt_or_gt_of_ne hne with h9 | h9
          · exact fin (jx_f010l_m (by omega) hP hb ⟨by omega, by omega⟩ ⟨by omega, by omega⟩ ⟨by omega, by omega⟩ ⟨by omega, by omega⟩ ⟨by omega, by omega⟩ ⟨by omega, by omega⟩ ⟨by omega, by omega⟩ ⟨by omega, by omega⟩ ⟨by omega, by omega⟩ ⟨by omega, by omega⟩ hi hj hx hli hlj (by omega) h9 hok6 hj2 hF hM)
          · exact fin (jx_f010g_m (by omega) hP hb ⟨by omega, by omega⟩ ⟨by omega, by omega⟩ ⟨by omega, by omega⟩ ⟨by omega, by omega⟩ ⟨by omega, by omega⟩ ⟨by omega, by omega⟩ ⟨by omega, by omega⟩ ⟨by omega, by omega⟩ ⟨by omega, by omega⟩ ⟨by omega, by omega⟩ hi hj hx hli hlj (by omega) h9 hok6 hj2 hF hM)
      · have hgap := pq_gap (n := n) (fa := fa) (hlj.trans hj5.symm) (by omega) hj4
        suffices fin9 : (∃ c', rch c c' ∧ PG jx_Q R b lk ch M0 L xs n fa c' ∧ (jx_FU2 k mo be j2 (ct + 1) b rest c'.1) ∧ jx_kH n fa s t i i2 lk nx cu a0 a1 a2 b ch c'.2) by
          obtain ⟨c1, r1, p1, f1, m1⟩ := fin9
          obtain ⟨c3, r3, p3, b3⟩ := ih j2 c1 (ct + 1) (by omega) p1 f1 m1 ⟨hj4, hj5⟩ (by omega)
          rw [ek_at (by omega) hj2]
          exact ⟨c3, r1.tr r3, p3, b3⟩
        have fin : (∃ c', rch c c' ∧ PG jx_Q R b lk ch M0 L xs n fa c' ∧ (jx_FU2 k mo be j2 (ct + 1) b rest c'.1) ∧ jx_kH n fa s t i i2 lk nx cu a0 a1 a2 b ch c'.2) → (∃ c', rch c c' ∧ PG jx_Q R b lk ch M0 L xs n fa c' ∧ (jx_FU2 k mo be j2 (ct + 1) b rest c'.1) ∧ jx_kH n fa s t i i2 lk nx cu a0 a1 a2 b ch c'.2) := fun h => h
        have hj2' := hj4
        rcases hz with rfl | ⟨i2, rfl, hi2⟩
        · rcases Int.lt_or_gt_of_ne hne with h9 | h9
          · exact fin (jx_f001l_m (by omega) hP hb ⟨by omega, by omega⟩ ⟨by omega, by omega⟩ ⟨by omega, by omega⟩ ⟨by omega, by omega⟩ ⟨by omega, by omega⟩ ⟨by omega, by omega⟩ ⟨by omega, by omega⟩ ⟨by omega, by omega⟩ ⟨by omega, by omega⟩ ⟨by omega, by omega⟩ hi hj hj4 hx hli hlj (by omega) h9 hok6 hj2 hF hM)
          · exact fin (jx_f001g_m (by omega) hP hb ⟨by omega, by omega⟩ ⟨by omega, by omega⟩ ⟨by omega, by omega⟩ ⟨by omega, by omega⟩ ⟨by omega, by omega⟩ ⟨by omega, by omega⟩ ⟨by omega, by omega⟩ ⟨by omega, by omega⟩ ⟨by omega, by omega⟩ ⟨by omega, by omega⟩ hi hj hj4 hx hli hlj (by omega) h9 hok6 hj2 hF hM)
        · rcases Int.lt_or_gt_of_ne hne with h9 | h9
          · exact fin (jx_f011l_m (by omega) hP hb ⟨by omega, by omega⟩ ⟨by omega, by omega⟩ ⟨by omega, by omega⟩ ⟨by omega, by omega⟩ ⟨by omega, by omega⟩ ⟨by omega, by omega⟩ ⟨by omega, by omega⟩ ⟨by omega, by omega⟩ ⟨by omega, by omega⟩ ⟨by omega, by omega⟩ hi hj hj4 hx hli hlj (by omega) h9 hok6 hj2 hF hM)
          · exact fin (jx_f011g_m (by omega) hP hb ⟨by omega, by omega⟩ ⟨by omega, by omega⟩ ⟨by omega, by omega⟩ ⟨by omega, by omega⟩ ⟨by omega, by omega⟩ ⟨by omega, by omega⟩ ⟨by omega, by omega⟩ ⟨by omega, by omega⟩ ⟨by omega, by omega⟩ ⟨by omega, by omega⟩ hi hj hj4 hx hli hlj (by omega) h9 hok6 hj2 hF hM)
theorem jx_Il1 {R : SyM} {L : Nat} {xs : Nat → Int32} {rest : List MsF} {n : Nat} {fa : Fa} {M0 : Nat → Nat → Value} {k mo be s t lk nx cu a0 a1 a2 b ch : Int} {i : Nat} {i2 : Int} (hr : rest.length ≤ 15) (hmo : mo = 500) (hb : 0 ≤ b ∧ b ≤ 3) (hlk : 0 ≤ lk ∧ lk ≤ 5) (hnx : -1 ≤ nx ∧ nx ≤ 3) (hcu : 0 ≤ cu ∧ cu ≤ 2) (hch : 0 ≤ ch ∧ ch ≤ 2) (hk : 0 ≤ k ∧ k ≤ 400) (hs : 2 ≤ s ∧ s ≤ 900) (ht : 1 ≤ t ∧ t < s) (hi : i < n + 2) (hli : lt n fa i = 112) (hx : xq n fa i = true) (hz : i2 = -1 ∨ ∃ z : Nat, i2 = z ∧ z < n + 2) : ∀ (d j : Nat) (c : MsC) (ct : Int), n + 2 ≤ j + d → PG jx_Q R b lk ch M0 L xs n fa c → jx_FU3 k mo be j ct b rest c.1 → jx_kH n fa s t i i2 lk nx cu a0 a1 a2 b ch c.2 → j < n + 2 ∧ lt n fa j = 113 → 0 ≤ ct ∧ ct ≤ j ∧ ct ≤ n → ∃ c', rch c c' ∧ PG jx_Q R b lk ch M0 L xs n fa c' ∧ (((decide (uq n fa i = uq n fa j) || ek n fa 113 (fun j => decide (uq n fa i = uq n fa j)) (j + 1)) = true ∧ ∃ j : Nat, jx_F40 k mo be rest c'.1 ∧ jx_kW n fa s t i j lk nx cu a0 a1 a2 b ch c'.2) ∨ ((decide (uq n fa i = uq n fa j) || ek n fa 113 (fun j => decide (uq n fa i = uq n fa j)) (j + 1)) = false ∧ ∃ ct : Int, (0 ≤ ct ∧ ct ≤ 12) ∧ jx_FU3N k mo be ct b rest c'.1 ∧ jx_kH n fa s t i i2 lk nx cu a0 a1 a2 b ch c'.2)) := by
  intro d
  induction d with
  | zero => intro j c ct hd hP hF hM hj; omega
  | succ d ih =>
    intro j c ct hd hP hF hM hjj hct
    obtain ⟨hj, hlj⟩ := hjj
    have hn := hP.1.nr
    have hw := (nf_c (n := n) (fa := fa) (a := 113) (by decide) (j + 1) (by omega))
    by_cases hne : uq n fa i = uq n fa j
    · have hoq := hne
      rw [decide_eq_true hne, Bool.true_or]
      suffices fin9 : (∃ c', rch c c' ∧ PG jx_Q R b lk ch M0 L xs n fa c' ∧ (jx_F40 k mo be rest c'.1) ∧ jx_kW n fa s t i j lk nx cu a0 a1 a2 b ch c'.2) by
        obtain ⟨c', r1, p1, f1, m1⟩ := fin9
        exact ⟨c', r1, p1, Or.inl ⟨rfl, j, f1, m1⟩⟩
      have fin : (∃ c', rch c c' ∧ PG jx_Q R b lk ch M0 L xs n fa c' ∧ (jx_F40 k mo be rest c'.1) ∧ jx_kW n fa s t i j lk nx cu a0 a1 a2 b ch c'.2) → (∃ c', rch c c' ∧ PG jx_Q R b lk ch M0 L xs n fa c' ∧ (jx_F40 k mo be rest c'.1) ∧ jx_kW n fa s t i j lk nx cu a0 a1 a2 b ch c'.2) := fun h => h
      rcases hw with hj2 | ⟨j2, hj2, hj3, hj4, hj5⟩
      · rcases hz with rfl | ⟨i2, rfl, hi2⟩
        · cases hy : xq n fa j with
          | false => exact fin (jx_s1000_m (by omega) hP hb ⟨by omega, by omega⟩ ⟨by omega, by omega⟩ ⟨by omega, by omega⟩ ⟨by omega, by omega⟩ ⟨by omega, by omega⟩ ⟨by omega, by omega⟩ ⟨by omega, by omega⟩ ⟨by omega, by omega⟩ ⟨by omega, by omega⟩ ⟨by omega, by omega⟩ hi hj hx hy hli hlj (by omega) hoq hj2 hF hM)
          | true => exact fin (jx_s1010_m (by omega) hP hb ⟨by omega, by omega⟩ ⟨by omega, by omega⟩ ⟨by omega, by omega⟩ ⟨by omega, by omega⟩ ⟨by omega, by omega⟩ ⟨by omega, by omega⟩ ⟨by omega, by omega⟩ ⟨by omega, by omega⟩ ⟨by omega, by omega⟩ ⟨by omega, by omega⟩ hi hj hx hy hli hlj (by omega) hoq hj2 hF hM)
        · cases hy : xq n fa j with
          | false => exact fin (jx_s1100_m (by omega) hP hb ⟨by omega, by omega⟩ ⟨by omega, by omega⟩ ⟨by omega, by omega⟩ ⟨by omega, by omega⟩ ⟨by omega, by omega⟩ ⟨by omega, by omega⟩ ⟨by omega, by omega⟩ ⟨by omega, by omega⟩ ⟨by omega, by omega⟩ ⟨by omega, by omega⟩ hi hj hx hy hli hlj (by omega) hoq hj2 hF hM)
          | true => exact fin (jx_s1110_m (by omega) hP hb ⟨by omega, by omega⟩ ⟨by omega, by omega⟩ ⟨by omega, by omega⟩ ⟨by omega, by omega⟩ ⟨by omega, by omega⟩ ⟨by omega, by omega⟩ ⟨by omega, by omega⟩ ⟨by omega, by omega⟩ ⟨by omega, by omega⟩ ⟨by omega, by omega⟩ hi hj hx hy hli hlj (by omega) hoq hj2 hF hM)
      · have hj2' := hj4
        rcases hz with rfl | ⟨i2, rfl, hi2⟩
        · cases hy : xq n fa j with
          | false => exact fin (jx_s1001_m (by omega) hP hb ⟨by omega, by omega⟩ ⟨by omega, by omega⟩ ⟨by omega, by omega⟩ ⟨by omega, by omega⟩ ⟨by omega, by omega⟩ ⟨by omega, by omega⟩ ⟨by omega, by omega⟩ ⟨by omega, by omega⟩ ⟨by omega, by omega⟩ ⟨by omega, by omega⟩ hi hj hj4 hx hy hli hlj (by omega) hoq hj2 hF hM)
          | true => exact fin (jx_s1011_m (by omega) hP hb ⟨by omega, by omega⟩ ⟨by omega, by omega⟩ ⟨by omega, by omega⟩ ⟨by omega, by omega⟩ ⟨by omega, by omega⟩ ⟨by omega, by omega⟩ ⟨by omega, by omega⟩ ⟨by omega, by omega⟩ ⟨by omega, by omega⟩ ⟨by omega, by omega⟩ hi hj hj4 hx hy hli hlj (by omega) hoq hj2 hF hM)
        · cases hy : xq n fa j with
          | false => exact fin (jx_s1101_m (by omega) hP hb ⟨by omega, by omega⟩ ⟨by omega, by omega⟩ ⟨by omega, by omega⟩ ⟨by omega, by omega⟩ ⟨by omega, by omega⟩ ⟨by omega, by omega⟩ ⟨by omega, by omega⟩ ⟨by omega, by omega⟩ ⟨by omega, by omega⟩ ⟨by omega, by omega⟩ hi hj hj4 hx hy hli hlj (by omega) hoq hj2 hF hM)
          | true => exact fin (jx_s1111_m (by omega) hP hb ⟨by omega, by omega⟩ ⟨by omega, by omega⟩ ⟨by omega, by omega⟩ ⟨by omega, by omega⟩ ⟨by omega, by omega⟩ ⟨by omega, by omega⟩ ⟨by omega, by omega⟩ ⟨by omega, by omega⟩ ⟨by omega, by omega⟩ ⟨by omega, by omega⟩ hi hj hj4 hx hy hli hlj (by omega) hoq hj2 hF hM)
    · rw [decide_eq_false hne, Bool.false_or]
      rcases hw with hj2 | ⟨j2, hj2, hj3, hj4, hj5⟩
      · suffices fin9 : (∃ c', rch c c' ∧ PG jx_Q R b lk ch M0 L xs n fa c' ∧ (jx_FU3N k mo be (ct + 1) b rest c'.1) ∧ jx_kH n fa s t i i2 lk nx cu a0 a1 a2 b ch c'.2) by
          obtain ⟨c1, r1, p1, f1, m1⟩ := fin9
          exact ⟨c1, r1, p1, Or.inr ⟨ek_none hj2, ct + 1, by omega, f1, m1⟩⟩
        have fin : (∃ c', rch c c' ∧ PG jx_Q R b lk ch M0 L xs n fa c' ∧ (jx_FU3N k mo be (ct + 1) b rest c'.1) ∧ jx_kH n fa s t i i2 lk nx cu a0 a1 a2 b ch c'.2) → (∃ c', rch c c' ∧ PG jx_Q R b lk ch M0 L xs n fa c' ∧ (jx_FU3N k mo be (ct + 1) b rest c'.1) ∧ jx_kH n fa s t i i2 lk nx cu a0 a1 a2 b ch c'.2) := fun h => h
        rcases hz with rfl | ⟨i2, rfl, hi2⟩
        · rcases Int.lt_or_gt_of_ne hne with h9 | h9
          · exact fin (jx_f100l_m (by omega) hP hb ⟨by omega, by omega⟩ ⟨by omega, by omega⟩ ⟨by omega, by omega⟩ ⟨by omega, by omega⟩ ⟨by omega, by omega⟩ ⟨by omega, by omega⟩ ⟨by omega, by omega⟩ ⟨by omega, by omega⟩ ⟨by omega, by omega⟩ ⟨by omega, by omega⟩ hi hj hx hli hlj (by omega) h9 hj2 hF hM)
          · exact fin (jx_f100g_m (by omega) hP hb ⟨by omega, by omega⟩ ⟨by omega, by omega⟩ ⟨by omega, by omega⟩ ⟨by omega, by omega⟩ ⟨by omega, by omega⟩ ⟨by omega, by omega⟩ ⟨by omega, by omega⟩ ⟨by omega, by omega⟩ ⟨by omega, by omega⟩ ⟨by omega, by omega⟩ hi hj hx hli hlj (by omega) h9 hj2 hF hM)
        · rcases Int.lt_or_gt_of_ne hne with h9 | h9
          · exact fin (jx_f110l_m (by omega) hP hb ⟨by omega, by omega⟩ ⟨by omega, by omega⟩ ⟨by omega, by omega⟩ ⟨by omega, by omega⟩ ⟨by omega, by omega⟩ ⟨by omega, by omega⟩ ⟨by omega, by omega⟩ ⟨by omega, by omega⟩ ⟨by omega, by omega⟩ ⟨by omega, by omega⟩ hi hj hx hli hlj (by omega) h9 hj2 hF hM)
          · exact fin (jx_f110g_m (by omega) hP hb ⟨by omega, by omega⟩ ⟨by omega, by omega⟩ ⟨by omega, by omega⟩ ⟨by omega, by omega⟩ ⟨by omega, by omega⟩ ⟨by omega, by omega⟩ ⟨by omega, by omega⟩ ⟨by omega, by omega⟩ ⟨by omega, by omega⟩ ⟨by omega, by omega⟩ hi hj hx hli hlj (by omega) h9 hj2 hF hM)
      · have hgap := pq_gap (n := n) (fa := fa) (hlj.trans hj5.symm) (by omega) hj4
        suffices fin9 : (∃ c', rch c c' ∧ PG jx_Q R b lk ch M0 L xs n fa c' ∧ (jx_FU3 k mo be j2 (ct + 1) b rest c'.1) ∧ jx_kH n fa s t i i2 lk nx cu a0 a1 a2 b ch c'.2) by
          obtain ⟨c1, r1, p1, f1, m1⟩ := fin9
          obtain ⟨c3, r3, p3, b3⟩ := ih j2 c1 (ct + 1) (by omega) p1 f1 m1 ⟨hj4, hj5⟩ (by omega)
          rw [ek_at (by omega) hj2]
          exact ⟨c3, r1.tr r3, p3, b3⟩
        have fin : (∃ c', rch c c' ∧ PG jx_Q R b lk ch M0 L xs n fa c' ∧ (jx_FU3 k mo be j2 (ct + 1) b rest c'.1) ∧ jx_kH n fa s t i i2 lk nx cu a0 a1 a2 b ch c'.2) → (∃ c', rch c c' ∧ PG jx_Q R b lk ch M0 L xs n fa c' ∧ (jx_FU3 k mo be j2 (ct + 1) b rest c'.1) ∧ jx_kH n fa s t i i2 lk nx cu a0 a1 a2 b ch c'.2) := fun h => h
        have hj2' := hj4
        rcases hz with rfl | ⟨i2, rfl, hi2⟩
        · rcases Int.lt_or_gt_of_ne hne with h9 | h9
          · exact fin (jx_f101l_m (by omega) hP hb ⟨by omega, by omega⟩ ⟨by omega, by omega⟩ ⟨by omega, by omega⟩ ⟨by omega, by omega⟩ ⟨by omega, by omega⟩ ⟨by omega, by omega⟩ ⟨by omega, by omega⟩ ⟨by omega, by omega⟩ ⟨by omega, by omega⟩ ⟨by omega, by omega⟩ hi hj hj4 hx hli hlj (by omega) h9 hj2 hF hM)
          · exact fin (jx_f101g_m (by omega) hP hb ⟨by omega, by omega⟩ ⟨by omega, by omega⟩ ⟨by omega, by omega⟩ ⟨by omega, by omega⟩ ⟨by omega, by omega⟩ ⟨by omega, by omega⟩ ⟨by omega, by omega⟩ ⟨by omega, by omega⟩ ⟨by omega, by omega⟩ ⟨by omega, by omega⟩ hi hj hj4 hx hli hlj (by omega) h9 hj2 hF hM)
        · rcases Int.lt_or_gt_of_ne hne with h9 | h9
          · exact fin (jx_f111l_m (by omega) hP hb ⟨by omega, by omega⟩ ⟨by omega, by omega⟩ ⟨by omega, by omega⟩ ⟨by omega, by omega⟩ ⟨by omega, by omega⟩ ⟨by omega, by omega⟩ ⟨by omega, by omega⟩ ⟨by omega, by omega⟩ ⟨by omega, by omega⟩ ⟨by omega, by omega⟩ hi hj hj4 hx hli hlj (by omega) h9 hj2 hF hM)
          · exact fin (jx_f111g_m (by omega) hP hb ⟨by omega, by omega⟩ ⟨by omega, by omega⟩ ⟨by omega, by omega⟩ ⟨by omega, by omega⟩ ⟨by omega, by omega⟩ ⟨by omega, by omega⟩ ⟨by omega, by omega⟩ ⟨by omega, by omega⟩ ⟨by omega, by omega⟩ ⟨by omega, by omega⟩ hi hj hj4 hx hli hlj (by omega) h9 hj2 hF hM)
theorem jx_Gl {R : SyM} {L : Nat} {xs : Nat → Int32} {rest : List MsF} {n : Nat} {fa : Fa} {M0 : Nat → Nat → Value} {mo s lk nx cu a0 a1 a2 b ch : Int} (hr : rest.length ≤ 16) (hmo : mo = 500) (hb : 0 ≤ b ∧ b ≤ 3) (hlk : 0 ≤ lk ∧ lk ≤ 5) (hnx : -1 ≤ nx ∧ nx ≤ 3) (hcu : 0 ≤ cu ∧ cu ≤ 2) (hch : 0 ≤ ch ∧ ch ≤ 2) (hs : 2 ≤ s ∧ s ≤ 900) : ∀ (d i : Nat) (c : MsC) (ct : Int), n + 2 ≤ i + d → PG jx_Q R b lk ch M0 L xs n fa c → jx_FGP i ct 0 b ch rest c.1 → jx_kGP n fa s lk nx cu a0 a1 a2 b ch c.2 → i < n + 2 ∧ lt n fa i = 112 → 0 ≤ ct ∧ ct ≤ i ∧ ct ≤ n → ∃ c', rch c c' ∧ PG jx_Q R b lk ch M0 L xs n fa c' ∧ ((∃ i' : Nat, (i ≤ i' ∧ i' < n + 2 ∧ lt n fa i' = 112 ∧ okq n fa i' i' = true ∧ (jx_ok n fa i || ek n fa 112 (jx_ok n fa) (i + 1)) = (jx_E n fa i' || ek n fa 112 (jx_ok n fa) (i' + 1))) ∧ jx_FS rest c'.1 ∧ jx_kAP n fa (s + 1) i' lk nx cu a0 a1 a2 b ch c'.2) ∨ ((jx_ok n fa i || ek n fa 112 (jx_ok n fa) (i + 1)) = false ∧ jx_FX (0 + 1) rest c'.1 ∧ jx_kFK n fa s lk nx cu a0 a1 a2 b ch c'.2)) := by
  intro d
  induction d with
  | zero => intro i c ct hd hP hF hM hj; omega
  | succ d ih =>
    intro i c ct hd hP hF hM hii hct
    obtain ⟨hi, hli⟩ := hii
    have hn := hP.1.nr
    have hw := (nf_c (n := n) (fa := fa) (a := 112) (by decide) (i + 1) (by omega))
    cases hok : okq n fa i i with
    | true =>
      have e : jx_ok n fa i = jx_E n fa i := by unfold jx_ok; rw [hok]; rfl
      rw [e]
      suffices fin9 : (∃ c', rch c c' ∧ PG jx_Q R b lk ch M0 L xs n fa c' ∧ (jx_FS rest c'.1) ∧ jx_kAP n fa (s + 1) i lk nx cu a0 a1 a2 b ch c'.2) by
        obtain ⟨c', r1, p1, f1, m1⟩ := fin9
        exact ⟨c', r1, p1, Or.inl ⟨i, ⟨Nat.le_refl _, hi, hli, hok, rfl⟩, f1, m1⟩⟩
      have fin : (∃ c', rch c c' ∧ PG jx_Q R b lk ch M0 L xs n fa c' ∧ (jx_FS rest c'.1) ∧ jx_kAP n fa (s + 1) i lk nx cu a0 a1 a2 b ch c'.2) → (∃ c', rch c c' ∧ PG jx_Q R b lk ch M0 L xs n fa c' ∧ (jx_FS rest c'.1) ∧ jx_kAP n fa (s + 1) i lk nx cu a0 a1 a2 b ch c'.2) := fun h => h
      cases hx : xq n fa i with
      | false => exact fin (jx_tg0_m (by omega) hP hb ⟨by omega, by omega⟩ ⟨by omega, by omega⟩ ⟨by omega, by omega⟩ ⟨by omega, by omega⟩ ⟨by omega, by omega⟩ ⟨by omega, by omega⟩ ⟨by omega, by omega⟩ ⟨by omega, by omega⟩ hi hx hli (okq_t hok hx).symm hF hM)
      | true => exact fin (jx_tg1_m (by omega) hP hb ⟨by omega, by omega⟩ ⟨by omega, by omega⟩ ⟨by omega, by omega⟩ ⟨by omega, by omega⟩ ⟨by omega, by omega⟩ ⟨by omega, by omega⟩ ⟨by omega, by omega⟩ ⟨by omega, by omega⟩ hi hx hli hF hM)
    | false =>
      have e : jx_ok n fa i = false := by unfold jx_ok; rw [hok]; rfl
      rw [e, Bool.false_or]
      obtain ⟨hx, hne⟩ := okq_f hok
      rcases hw with hj2 | ⟨i2, hj2, hj3, hi2, hj5⟩
      · suffices fin9 : (∃ c', rch c c' ∧ PG jx_Q R b lk ch M0 L xs n fa c' ∧ (jx_FGPN (ct + 1) 0 b ch rest c'.1) ∧ jx_kGP n fa s lk nx cu a0 a1 a2 b ch c'.2) by
          obtain ⟨c1, r1, p1, f1, m1⟩ := fin9
          obtain ⟨c2, r2, p2, f2, m2⟩ := jx_tb_m (by omega) p1 hb ⟨by omega, by omega⟩ ⟨by omega, by omega⟩ ⟨by omega, by omega⟩ ⟨by omega, by omega⟩ ⟨by omega, by omega⟩ ⟨by omega, by omega⟩ ⟨by omega, by omega⟩ ⟨by omega, by omega⟩ f1 m1
          exact ⟨c2, r1.tr r2, p2, Or.inr ⟨ek_none hj2, f2, m2⟩⟩
        have fin : (∃ c', rch c c' ∧ PG jx_Q R b lk ch M0 L xs n fa c' ∧ (jx_FGPN (ct + 1) 0 b ch rest c'.1) ∧ jx_kGP n fa s lk nx cu a0 a1 a2 b ch c'.2) → (∃ c', rch c c' ∧ PG jx_Q R b lk ch M0 L xs n fa c' ∧ (jx_FGPN (ct + 1) 0 b ch rest c'.1) ∧ jx_kGP n fa s lk nx cu a0 a1 a2 b ch c'.2) := fun h => h
        rcases Int.lt_or_gt_of_ne hne.symm with h9 | h9
        · exact fin (jx_th0l_m (by omega) hP hb ⟨by omega, by omega⟩ ⟨by omega, by omega⟩ ⟨by omega, by omega⟩ ⟨by omega, by omega⟩ ⟨by omega, by omega⟩ ⟨by omega, by omega⟩ ⟨by omega, by omega⟩ ⟨by omega, by omega⟩ hi hx hli h9 hj2 hF hM)
        · exact fin (jx_th0g_m (by omega) hP hb ⟨by omega, by omega⟩ ⟨by omega, by omega⟩ ⟨by omega, by omega⟩ ⟨by omega, by omega⟩ ⟨by omega, by omega⟩ ⟨by omega, by omega⟩ ⟨by omega, by omega⟩ ⟨by omega, by omega⟩ hi hx hli h9 hj2 hF hM)
      · have hgap := pq_gap (n := n) (fa := fa) (hli.trans hj5.symm) (by omega) hi2
        suffices fin9 : (∃ c', rch c c' ∧ PG jx_Q R b lk ch M0 L xs n fa c' ∧ (jx_FGP i2 (ct + 1) 0 b ch rest c'.1) ∧ jx_kGP n fa s lk nx cu a0 a1 a2 b ch c'.2) by
          obtain ⟨c1, r1, p1, f1, m1⟩ := fin9
          obtain ⟨c3, r3, p3, b3⟩ := ih i2 c1 (ct + 1) (by omega) p1 f1 m1 ⟨hi2, hj5⟩ (by omega)
          rw [ek_at (by omega) hj2]
          refine ⟨c3, r1.tr r3, p3, ?_⟩
          rcases b3 with ⟨i', ⟨g1, g2⟩, g3⟩ | g
          · exact Or.inl ⟨i', ⟨by omega, g2⟩, g3⟩
          · exact Or.inr g
        have fin : (∃ c', rch c c' ∧ PG jx_Q R b lk ch M0 L xs n fa c' ∧ (jx_FGP i2 (ct + 1) 0 b ch rest c'.1) ∧ jx_kGP n fa s lk nx cu a0 a1 a2 b ch c'.2) → (∃ c', rch c c' ∧ PG jx_Q R b lk ch M0 L xs n fa c' ∧ (jx_FGP i2 (ct + 1) 0 b ch rest c'.1) ∧ jx_kGP n fa s lk nx cu a0 a1 a2 b ch c'.2) := fun h => h
        rcases Int.lt_or_gt_of_ne hne.symm with h9 | h9
        · exact fin (jx_th1l_m (by omega) hP hb ⟨by omega, by omega⟩ ⟨by omega, by omega⟩ ⟨by omega, by omega⟩ ⟨by omega, by omega⟩ ⟨by omega, by omega⟩ ⟨by omega, by omega⟩ ⟨by omega, by omega⟩ ⟨by omega, by omega⟩ hi hi2 hx hli h9 hj2 hF hM)
        · exact fin (jx_th1g_m (by omega) hP hb ⟨by omega, by omega⟩ ⟨by omega, by omega⟩ ⟨by omega, by omega⟩ ⟨by omega, by omega⟩ ⟨by omega, by omega⟩ ⟨by omega, by omega⟩ ⟨by omega, by omega⟩ ⟨by omega, by omega⟩ hi hi2 hx hli h9 hj2 hF hM)
theorem jx_Ql {R : SyM} {L : Nat} {xs : Nat → Int32} {rest : List MsF} {n : Nat} {fa : Fa} {M0 : Nat → Nat → Value} {mo be lk nx cu a0 a1 a2 b ch : Int} (hr : rest.length ≤ 15) (hmo : mo = 500) (hb : 0 ≤ b ∧ b ≤ 3) (hlk : 0 ≤ lk ∧ lk ≤ 5) (hnx : -1 ≤ nx ∧ nx ≤ 3) (hcu : 0 ≤ cu ∧ cu ≤ 2) (hch : 0 ≤ ch ∧ ch ≤ 2) : ∀ (d i : Nat) (k s : Int) (i2 : Int) (c : MsC), n + 2 ≤ i + d → (0 ≤ k ∧ k ≤ 2 * (i : Int) + 10) → (1 ≤ s ∧ s ≤ 2 * (i : Int) + 20) → PG jx_Q R b lk ch M0 L xs n fa c → jx_F15 k mo be rest c.1 → jx_kQ n fa s i i2 lk nx cu a0 a1 a2 b ch c.2 → i < n + 2 ∧ lt n fa i = 112 → nf n fa 112 (i + 1) = i2 → okq n fa i i = true → ∃ c', rch c c' ∧ PG jx_Q R b lk ch M0 L xs n fa c' ∧ jx_Z (jx_E n fa i || ek n fa 112 (jx_ok n fa) (i + 1)) n fa mo be lk nx cu a0 a1 a2 b ch rest c' := by
  intro d
  induction d with
  | zero => intro i k s i2 c hd hk hs hP hF hM hj; omega
  | succ d ih =>
    intro i k s i2 c hd hk hs hP hF hM hii hnf hok
    obtain ⟨hi, hli⟩ := hii
    have hn := hP.1.nr
    have hz := (nf_c (n := n) (fa := fa) (a := 112) (by decide) (i + 1) (by omega))
    rw [hnf] at hz
    obtain ⟨j, hj1, hj, hlj⟩ := nf_0 (n := n) (fa := fa) (a := 113) (by decide)
    have hE : jx_E n fa i = (decide (uq n fa i = uq n fa j) || ek n fa 113 (fun j => decide (uq n fa i = uq n fa j)) (j + 1)) := ek_at (by omega) hj1
    have pop : ∀ (mid : List MsF) (c1 : MsC), rch c c1 → PG jx_Q R b lk ch M0 L xs n fa c1 → jx_F41 k mo be rest mid → jx_FS mid c1.1 → ∃ c3, rch c c3 ∧ PG jx_Q R b lk ch M0 L xs n fa c3 ∧ jx_F15 (k + 1) mo be rest c3.1 ∧ sy_sm c1.2 c3.2 := fun mid c1 r1 p1 f3 f1 => by
      obtain ⟨c2, r2, e1, e2⟩ := se_pop (c := c1) (mid := mid) f1 f3
      have p2 : PG jx_Q R b lk ch M0 L xs n fa c2 := ⟨p1.1.mem e2, fun q j h => by rw [e2]; exact p1.2 q j h⟩
      obtain ⟨c3, r3, f4, s3, e3⟩ := fz_m (c := c2) (rest := rest) (k := k) (mo := mo) (be := be) (by omega) p2.1.E (by omega) (by rw [e1]; exact f3)
      exact ⟨c3, r1.tr (r2.tr r3), ⟨p2.1.sm s3 e3, p2.2.sm p2.1.top s3⟩, f4, by rw [← e2]; exact s3⟩
    have ml : ∀ mid : List MsF, jx_F41 k mo be rest mid → mid.length ≤ 16 := fun mid h => by
      have := sy_Fs.len h
      have : mid.length = 1 + rest.length := this
      omega
    have hk : 0 ≤ k ∧ k ≤ 400 := by omega
    have fin0 : ∀ c1 : MsC, rch c c1 → PG jx_Q R b lk ch M0 L xs n fa c1 → (jx_E n fa i = true ∧ ∃ j : Nat, jx_F40 k mo be rest c1.1 ∧ jx_kW n fa (s + 1) s i j lk nx cu a0 a1 a2 b ch c1.2) → ∃ c', rch c c' ∧ PG jx_Q R b lk ch M0 L xs n fa c' ∧ jx_Z (jx_E n fa i || ek n fa 112 (jx_ok n fa) (i + 1)) n fa mo be lk nx cu a0 a1 a2 b ch rest c' := fun c1 r1 p1 ⟨g1, j, g2, g3⟩ => ⟨c1, r1, p1, Or.inl ⟨by rw [g1]; rfl, k, s + 1, s, i, j, hk, ⟨by omega, by omega⟩, ⟨by omega, by omega⟩, hi, g2, g3⟩⟩
    rcases hz with rfl | ⟨i2, rfl, hz1, hi2, hz2⟩
    · have fin : ∀ c1 : MsC, rch c c1 → PG jx_Q R b lk ch M0 L xs n fa c1 → ((jx_E n fa i = true ∧ ∃ j : Nat, jx_F40 k mo be rest c1.1 ∧ jx_kW n fa (s + 1) s i j lk nx cu a0 a1 a2 b ch c1.2) ∨ (jx_E n fa i = false ∧ ∃ c', rch c1 c' ∧ PG jx_Q R b lk ch M0 L xs n fa c' ∧ (∃ mid, jx_F41 k mo be rest mid ∧ jx_FX 0 mid c'.1) ∧ jx_kFQ n fa (s + 1) s i lk nx cu a0 a1 a2 b ch c'.2)) → ∃ c', rch c c' ∧ PG jx_Q R b lk ch M0 L xs n fa c' ∧ jx_Z (jx_E n fa i || ek n fa 112 (jx_ok n fa) (i + 1)) n fa mo be lk nx cu a0 a1 a2 b ch rest c' := fun c1 r1 p1 h => by
        rcases h with h | ⟨g1, c3, r3, p3, f3, m3⟩
        · exact fin0 c1 r1 p1 h
        · exact ⟨c3, r1.tr r3, p3, Or.inr ⟨by rw [g1, ek_none hnf]; rfl, k, s + 1, s, 0, i, hk, ⟨by omega, by omega⟩, by decide, f3, Or.inr ⟨⟨by omega, by omega⟩, hi, m3⟩⟩⟩
      cases hx : xq n fa i with
      | false =>
        have hok6 := (okq_t hok hx).symm
        obtain ⟨c1, r1, p1, f1, m1⟩ := jx_q00_m (by omega) hP hb ⟨by omega, by omega⟩ ⟨by omega, by omega⟩ ⟨by omega, by omega⟩ ⟨by omega, by omega⟩ ⟨by omega, by omega⟩ ⟨by omega, by omega⟩ ⟨by omega, by omega⟩ ⟨by omega, by omega⟩ hi hx hli (by omega) hok6 hj1 hF hM
        obtain ⟨c2, r2, p2, b2⟩ := jx_Il0 hr hmo hb hlk hnx hcu hch hk ⟨by omega, by omega⟩ ⟨by omega, by omega⟩ hi hli hx hok6 (Or.inl rfl) (n + 2) j c1 0 (by omega) p1 f1 m1 ⟨hj, hlj⟩ (by omega)
        refine fin c2 (r1.tr r2) p2 ?_
        rw [hE]
        rcases b2 with ⟨g1, j, g2, g3⟩ | ⟨g1, ct, g2, g3, g4⟩
        · exact Or.inl ⟨g1, j, g2, g3⟩
        · exact Or.inr ⟨g1, jx_e00_m (by omega) p2 hb ⟨by omega, by omega⟩ ⟨by omega, by omega⟩ ⟨by omega, by omega⟩ ⟨by omega, by omega⟩ ⟨by omega, by omega⟩ ⟨by omega, by omega⟩ ⟨by omega, by omega⟩ ⟨by omega, by omega⟩ ⟨by omega, by omega⟩ ⟨by omega, by omega⟩ hi hx hli (by omega) hok6 g3 g4⟩
      | true =>
        obtain ⟨c1, r1, p1, f1, m1⟩ := jx_q10_m (by omega) hP hb ⟨by omega, by omega⟩ ⟨by omega, by omega⟩ ⟨by omega, by omega⟩ ⟨by omega, by omega⟩ ⟨by omega, by omega⟩ ⟨by omega, by omega⟩ ⟨by omega, by omega⟩ ⟨by omega, by omega⟩ hi hx hli (by omega) hj1 hF hM
        obtain ⟨c2, r2, p2, b2⟩ := jx_Il1 hr hmo hb hlk hnx hcu hch hk ⟨by omega, by omega⟩ ⟨by omega, by omega⟩ hi hli hx (Or.inl rfl) (n + 2) j c1 0 (by omega) p1 f1 m1 ⟨hj, hlj⟩ (by omega)
        refine fin c2 (r1.tr r2) p2 ?_
        rw [hE]
        rcases b2 with ⟨g1, j, g2, g3⟩ | ⟨g1, ct, g2, g3, g4⟩
        · exact Or.inl ⟨g1, j, g2, g3⟩
        · exact Or.inr ⟨g1, jx_e10_m (by omega) p2 hb ⟨by omega, by omega⟩ ⟨by omega, by omega⟩ ⟨by omega, by omega⟩ ⟨by omega, by omega⟩ ⟨by omega, by omega⟩ ⟨by omega, by omega⟩ ⟨by omega, by omega⟩ ⟨by omega, by omega⟩ ⟨by omega, by omega⟩ ⟨by omega, by omega⟩ hi hx hli (by omega) g3 g4⟩
    · have fin : ∀ c1 : MsC, rch c c1 → PG jx_Q R b lk ch M0 L xs n fa c1 → ((jx_E n fa i = true ∧ ∃ j : Nat, jx_F40 k mo be rest c1.1 ∧ jx_kW n fa (s + 1) s i j lk nx cu a0 a1 a2 b ch c1.2) ∨ (jx_E n fa i = false ∧ ∃ c', rch c1 c' ∧ PG jx_Q R b lk ch M0 L xs n fa c' ∧ (∃ mid, jx_F41 k mo be rest mid ∧ jx_FGP i2 0 0 b ch mid c'.1) ∧ jx_kGP n fa (s + 1) lk nx cu a0 a1 a2 b ch c'.2)) → ∃ c', rch c c' ∧ PG jx_Q R b lk ch M0 L xs n fa c' ∧ jx_Z (jx_E n fa i || ek n fa 112 (jx_ok n fa) (i + 1)) n fa mo be lk nx cu a0 a1 a2 b ch rest c' := fun c1 r1 p1 h => by
        rcases h with h | ⟨g1, c3, r3, p3, ⟨mid, f3, f4⟩, m3⟩
        · exact fin0 c1 r1 p1 h
        · rw [g1, Bool.false_or, ek_at (by omega) hnf]
          obtain ⟨c4, r4, p4, b4⟩ := jx_Gl (rest := mid) (ml mid f3) hmo hb hlk hnx hcu hch ⟨by omega, by omega⟩ (n + 2) i2 c3 0 (by omega) p3 f4 m3 ⟨hi2, hz2⟩ (by omega)
          rcases b4 with ⟨i', ⟨h1, h2, h3, h4, h5⟩, f5, m5⟩ | ⟨h5, f5, m5⟩
          · rw [h5]
            obtain ⟨c5, r5, p5, f6, s5⟩ := pop mid c4 (r1.tr (r3.tr r4)) p4 f3 f5
            have m6 : jx_kAP n fa (s + 1 + 1) i' lk nx cu a0 a1 a2 b ch c5.2 := mm.sm m5 s5
            have hz9 := (nf_c (n := n) (fa := fa) (a := 112) (by decide) (i' + 1) (by omega))
            generalize hnf9 : nf n fa 112 (i' + 1) = i9 at hz9
            have fin9 : (∃ c', rch c5 c' ∧ PG jx_Q R b lk ch M0 L xs n fa c' ∧ (jx_F15 (k + 1 + 1) mo be rest c'.1) ∧ jx_kQ n fa (s + 1 + 1) i' i9 lk nx cu a0 a1 a2 b ch c'.2) → ∃ c', rch c c' ∧ PG jx_Q R b lk ch M0 L xs n fa c' ∧ jx_Z (jx_E n fa i' || ek n fa 112 (jx_ok n fa) (i' + 1)) n fa mo be lk nx cu a0 a1 a2 b ch rest c' := fun ⟨c6, r6, p6, f7, m7⟩ => by
              obtain ⟨c7, r7, p7, b7⟩ := ih i' (k + 1 + 1) (s + 1 + 1) i9 c6 (by omega) ⟨by omega, by omega⟩ ⟨by omega, by omega⟩ p6 f7 m7 ⟨h2, h3⟩ hnf9 h4
              exact ⟨c7, r5.tr (r6.tr r7), p7, b7⟩
            rcases hz9 with rfl | ⟨i8, rfl, hz81, hi28, hz82⟩
            · cases hx9 : xq n fa i' with
              | false => exact fin9 (jx_ap00_m (by omega) p5 hb ⟨by omega, by omega⟩ ⟨by omega, by omega⟩ ⟨by omega, by omega⟩ ⟨by omega, by omega⟩ ⟨by omega, by omega⟩ ⟨by omega, by omega⟩ ⟨by omega, by omega⟩ ⟨by omega, by omega⟩ h2 hx9 h3 (by omega) (okq_t h4 hx9).symm hnf9 f6 m6)
              | true => exact fin9 (jx_ap10_m (by omega) p5 hb ⟨by omega, by omega⟩ ⟨by omega, by omega⟩ ⟨by omega, by omega⟩ ⟨by omega, by omega⟩ ⟨by omega, by omega⟩ ⟨by omega, by omega⟩ ⟨by omega, by omega⟩ ⟨by omega, by omega⟩ h2 hx9 h3 (by omega) hnf9 f6 m6)
            · cases hx9 : xq n fa i' with
              | false => exact fin9 (jx_ap01_m (by omega) p5 hb ⟨by omega, by omega⟩ ⟨by omega, by omega⟩ ⟨by omega, by omega⟩ ⟨by omega, by omega⟩ ⟨by omega, by omega⟩ ⟨by omega, by omega⟩ ⟨by omega, by omega⟩ ⟨by omega, by omega⟩ h2 hi28 hx9 h3 (by omega) (okq_t h4 hx9).symm hnf9 f6 m6)
              | true => exact fin9 (jx_ap11_m (by omega) p5 hb ⟨by omega, by omega⟩ ⟨by omega, by omega⟩ ⟨by omega, by omega⟩ ⟨by omega, by omega⟩ ⟨by omega, by omega⟩ ⟨by omega, by omega⟩ ⟨by omega, by omega⟩ ⟨by omega, by omega⟩ h2 hi28 hx9 h3 (by omega) hnf9 f6 m6)
          · rw [h5]
            exact ⟨c4, r1.tr (r3.tr r4), p4, Or.inr ⟨rfl, k, s + 1, 0, 0 + 1, 0, hk, ⟨by omega, by omega⟩, by decide, ⟨mid, f3, f5⟩, Or.inl m5⟩⟩
      cases hx : xq n fa i with
      | false =>
        have hok6 := (okq_t hok hx).symm
        obtain ⟨c1, r1, p1, f1, m1⟩ := jx_q01_m (by omega) hP hb ⟨by omega, by omega⟩ ⟨by omega, by omega⟩ ⟨by omega, by omega⟩ ⟨by omega, by omega⟩ ⟨by omega, by omega⟩ ⟨by omega, by omega⟩ ⟨by omega, by omega⟩ ⟨by omega, by omega⟩ hi hx hli (by omega) hok6 hj1 hF hM
        obtain ⟨c2, r2, p2, b2⟩ := jx_Il0 hr hmo hb hlk hnx hcu hch hk ⟨by omega, by omega⟩ ⟨by omega, by omega⟩ hi hli hx hok6 (Or.inr ⟨_, rfl, hi2⟩) (n + 2) j c1 0 (by omega) p1 f1 m1 ⟨hj, hlj⟩ (by omega)
        refine fin c2 (r1.tr r2) p2 ?_
        rw [hE]
        rcases b2 with ⟨g1, j, g2, g3⟩ | ⟨g1, ct, g2, g3, g4⟩
        · exact Or.inl ⟨g1, j, g2, g3⟩
        · exact Or.inr ⟨g1, jx_e01_m (by omega) p2 hb ⟨by omega, by omega⟩ ⟨by omega, by omega⟩ ⟨by omega, by omega⟩ ⟨by omega, by omega⟩ ⟨by omega, by omega⟩ ⟨by omega, by omega⟩ ⟨by omega, by omega⟩ ⟨by omega, by omega⟩ ⟨by omega, by omega⟩ ⟨by omega, by omega⟩ hi hi2 hx hli (by omega) hok6 g3 g4⟩
      | true =>
        obtain ⟨c1, r1, p1, f1, m1⟩ := jx_q11_m (by omega) hP hb ⟨by omega, by omega⟩ ⟨by omega, by omega⟩ ⟨by omega, by omega⟩ ⟨by omega, by omega⟩ ⟨by omega, by omega⟩ ⟨by omega, by omega⟩ ⟨by omega, by omega⟩ ⟨by omega, by omega⟩ hi hx hli (by omega) hj1 hF hM
        obtain ⟨c2, r2, p2, b2⟩ := jx_Il1 hr hmo hb hlk hnx hcu hch hk ⟨by omega, by omega⟩ ⟨by omega, by omega⟩ hi hli hx (Or.inr ⟨_, rfl, hi2⟩) (n + 2) j c1 0 (by omega) p1 f1 m1 ⟨hj, hlj⟩ (by omega)
        refine fin c2 (r1.tr r2) p2 ?_
        rw [hE]
        rcases b2 with ⟨g1, j, g2, g3⟩ | ⟨g1, ct, g2, g3, g4⟩
        · exact Or.inl ⟨g1, j, g2, g3⟩
        · exact Or.inr ⟨g1, jx_e11_m (by omega) p2 hb ⟨by omega, by omega⟩ ⟨by omega, by omega⟩ ⟨by omega, by omega⟩ ⟨by omega, by omega⟩ ⟨by omega, by omega⟩ ⟨by omega, by omega⟩ ⟨by omega, by omega⟩ ⟨by omega, by omega⟩ ⟨by omega, by omega⟩ ⟨by omega, by omega⟩ hi hi2 hx hli (by omega) g3 g4⟩
theorem jx_Ul {R : SyM} {L : Nat} {xs : Nat → Int32} {rest : List MsF} {n : Nat} {fa : Fa} {M0 : Nat → Nat → Value} {k mo be s lk nx cu a0 a1 a2 b ch : Int} (hr : rest.length ≤ 15) (hmo : mo = 500) (hb : 0 ≤ b ∧ b ≤ 3) (hlk : 0 ≤ lk ∧ lk ≤ 5) (hnx : -1 ≤ nx ∧ nx ≤ 3) (hcu : 0 ≤ cu ∧ cu ≤ 2) (hch : 0 ≤ ch ∧ ch ≤ 2) (hk : 0 ≤ k ∧ k ≤ 8) (hs : 1 ≤ s ∧ s ≤ 8) : ∀ (d i : Nat) (c : MsC) (ct : Int), n + 2 ≤ i + d → PG jx_Q R b lk ch M0 L xs n fa c → jx_FU1 k mo be i ct b rest c.1 → jx_kH1 n fa s lk nx cu a0 a1 a2 b ch c.2 → i < n + 2 ∧ lt n fa i = 112 → 0 ≤ ct ∧ ct ≤ i ∧ ct ≤ n → ∃ c', rch c c' ∧ PG jx_Q R b lk ch M0 L xs n fa c' ∧ jx_Z (jx_ok n fa i || ek n fa 112 (jx_ok n fa) (i + 1)) n fa mo be lk nx cu a0 a1 a2 b ch rest c' := by
  intro d
  induction d with
  | zero => intro i c ct hd hP hF hM hj; omega
  | succ d ih =>
    intro i c ct hd hP hF hM hii hct
    obtain ⟨hi, hli⟩ := hii
    have hn := hP.1.nr
    have hw := (nf_c (n := n) (fa := fa) (a := 112) (by decide) (i + 1) (by omega))
    cases hok : okq n fa i i with
    | true =>
      have e : jx_ok n fa i = jx_E n fa i := by unfold jx_ok; rw [hok]; rfl
      rw [e]
      suffices fin9 : ∃ i2 : Int, nf n fa 112 (i + 1) = i2 ∧ (∃ c', rch c c' ∧ PG jx_Q R b lk ch M0 L xs n fa c' ∧ (jx_F15 (k + 1) mo be rest c'.1) ∧ jx_kQ n fa s i i2 lk nx cu a0 a1 a2 b ch c'.2) by
        obtain ⟨i2, hj2, c1, r1, p1, f1, m1⟩ := fin9
        obtain ⟨c3, r3, p3, b3⟩ := jx_Ql hr hmo hb hlk hnx hcu hch (n + 2) i (k + 1) s i2 c1 (by omega) ⟨by omega, by omega⟩ ⟨by omega, by omega⟩ p1 f1 m1 ⟨hi, hli⟩ hj2 hok
        exact ⟨c3, r1.tr r3, p3, b3⟩
      have fin : ∀ {i2 : Int}, nf n fa 112 (i + 1) = i2 → (∃ c', rch c c' ∧ PG jx_Q R b lk ch M0 L xs n fa c' ∧ (jx_F15 (k + 1) mo be rest c'.1) ∧ jx_kQ n fa s i i2 lk nx cu a0 a1 a2 b ch c'.2) → (∃ i2 : Int, nf n fa 112 (i + 1) = i2 ∧ (∃ c', rch c c' ∧ PG jx_Q R b lk ch M0 L xs n fa c' ∧ (jx_F15 (k + 1) mo be rest c'.1) ∧ jx_kQ n fa s i i2 lk nx cu a0 a1 a2 b ch c'.2)) := fun {i2} h1 h2 => ⟨i2, h1, h2⟩
      rcases hw with hj2 | ⟨i2, hj2, hj3, hi2, hj5⟩
      · cases hx : xq n fa i with
        | false => exact fin hj2 (jx_ts00_m (by omega) hP hb ⟨by omega, by omega⟩ ⟨by omega, by omega⟩ ⟨by omega, by omega⟩ ⟨by omega, by omega⟩ ⟨by omega, by omega⟩ ⟨by omega, by omega⟩ ⟨by omega, by omega⟩ ⟨by omega, by omega⟩ ⟨by omega, by omega⟩ hi hx hli (okq_t hok hx).symm hj2 hF hM)
        | true => exact fin hj2 (jx_ts10_m (by omega) hP hb ⟨by omega, by omega⟩ ⟨by omega, by omega⟩ ⟨by omega, by omega⟩ ⟨by omega, by omega⟩ ⟨by omega, by omega⟩ ⟨by omega, by omega⟩ ⟨by omega, by omega⟩ ⟨by omega, by omega⟩ ⟨by omega, by omega⟩ hi hx hli hj2 hF hM)
      · cases hx : xq n fa i with
        | false => exact fin hj2 (jx_ts01_m (by omega) hP hb ⟨by omega, by omega⟩ ⟨by omega, by omega⟩ ⟨by omega, by omega⟩ ⟨by omega, by omega⟩ ⟨by omega, by omega⟩ ⟨by omega, by omega⟩ ⟨by omega, by omega⟩ ⟨by omega, by omega⟩ ⟨by omega, by omega⟩ hi hi2 hx hli (okq_t hok hx).symm hj2 hF hM)
        | true => exact fin hj2 (jx_ts11_m (by omega) hP hb ⟨by omega, by omega⟩ ⟨by omega, by omega⟩ ⟨by omega, by omega⟩ ⟨by omega, by omega⟩ ⟨by omega, by omega⟩ ⟨by omega, by omega⟩ ⟨by omega, by omega⟩ ⟨by omega, by omega⟩ ⟨by omega, by omega⟩ hi hi2 hx hli hj2 hF hM)
    | false =>
      have e : jx_ok n fa i = false := by unfold jx_ok; rw [hok]; rfl
      rw [e, Bool.false_or]
      obtain ⟨hx, hne⟩ := okq_f hok
      rcases hw with hj2 | ⟨i2, hj2, hj3, hi2, hj5⟩
      · suffices fin9 : (∃ c', rch c c' ∧ PG jx_Q R b lk ch M0 L xs n fa c' ∧ (jx_FU1N k mo be (ct + 1) b rest c'.1) ∧ jx_kH1 n fa s lk nx cu a0 a1 a2 b ch c'.2) by
          obtain ⟨c1, r1, p1, f1, m1⟩ := fin9
          obtain ⟨c2, r2, p2, f2, m2⟩ := jx_te_m (by omega) p1 hb ⟨by omega, by omega⟩ ⟨by omega, by omega⟩ ⟨by omega, by omega⟩ ⟨by omega, by omega⟩ ⟨by omega, by omega⟩ ⟨by omega, by omega⟩ ⟨by omega, by omega⟩ ⟨by omega, by omega⟩ ⟨by omega, by omega⟩ f1 m1
          exact ⟨c2, r1.tr r2, p2, Or.inr ⟨ek_none hj2, k, s, 0, 0, 0, ⟨by omega, by omega⟩, ⟨by omega, by omega⟩, by decide, f2, Or.inl m2⟩⟩
        have fin : (∃ c', rch c c' ∧ PG jx_Q R b lk ch M0 L xs n fa c' ∧ (jx_FU1N k mo be (ct + 1) b rest c'.1) ∧ jx_kH1 n fa s lk nx cu a0 a1 a2 b ch c'.2) → (∃ c', rch c c' ∧ PG jx_Q R b lk ch M0 L xs n fa c' ∧ (jx_FU1N k mo be (ct + 1) b rest c'.1) ∧ jx_kH1 n fa s lk nx cu a0 a1 a2 b ch c'.2) := fun h => h
        rcases Int.lt_or_gt_of_ne hne.symm with h9 | h9
        · exact fin (jx_tf0l_m (by omega) hP hb ⟨by omega, by omega⟩ ⟨by omega, by omega⟩ ⟨by omega, by omega⟩ ⟨by omega, by omega⟩ ⟨by omega, by omega⟩ ⟨by omega, by omega⟩ ⟨by omega, by omega⟩ ⟨by omega, by omega⟩ ⟨by omega, by omega⟩ hi hx hli h9 hj2 hF hM)
        · exact fin (jx_tf0g_m (by omega) hP hb ⟨by omega, by omega⟩ ⟨by omega, by omega⟩ ⟨by omega, by omega⟩ ⟨by omega, by omega⟩ ⟨by omega, by omega⟩ ⟨by omega, by omega⟩ ⟨by omega, by omega⟩ ⟨by omega, by omega⟩ ⟨by omega, by omega⟩ hi hx hli h9 hj2 hF hM)
      · have hgap := pq_gap (n := n) (fa := fa) (hli.trans hj5.symm) (by omega) hi2
        suffices fin9 : (∃ c', rch c c' ∧ PG jx_Q R b lk ch M0 L xs n fa c' ∧ (jx_FU1 k mo be i2 (ct + 1) b rest c'.1) ∧ jx_kH1 n fa s lk nx cu a0 a1 a2 b ch c'.2) by
          obtain ⟨c1, r1, p1, f1, m1⟩ := fin9
          obtain ⟨c3, r3, p3, b3⟩ := ih i2 c1 (ct + 1) (by omega) p1 f1 m1 ⟨hi2, hj5⟩ (by omega)
          rw [ek_at (by omega) hj2]
          exact ⟨c3, r1.tr r3, p3, b3⟩
        have fin : (∃ c', rch c c' ∧ PG jx_Q R b lk ch M0 L xs n fa c' ∧ (jx_FU1 k mo be i2 (ct + 1) b rest c'.1) ∧ jx_kH1 n fa s lk nx cu a0 a1 a2 b ch c'.2) → (∃ c', rch c c' ∧ PG jx_Q R b lk ch M0 L xs n fa c' ∧ (jx_FU1 k mo be i2 (ct + 1) b rest c'.1) ∧ jx_kH1 n fa s lk nx cu a0 a1 a2 b ch c'.2) := fun h => h
        rcases Int.lt_or_gt_of_ne hne.symm with h9 | h9
        · exact fin (jx_tf1l_m (by omega) hP hb ⟨by omega, by omega⟩ ⟨by omega, by omega⟩ ⟨by omega, by omega⟩ ⟨by omega, by omega⟩ ⟨by omega, by omega⟩ ⟨by omega, by omega⟩ ⟨by omega, by omega⟩ ⟨by omega, by omega⟩ ⟨by omega, by omega⟩ hi hi2 hx hli h9 hj2 hF hM)
        · exact fin (jx_tf1g_m (by omega) hP hb ⟨by omega, by omega⟩ ⟨by omega, by omega⟩ ⟨by omega, by omega⟩ ⟨by omega, by omega⟩ ⟨by omega, by omega⟩ ⟨by omega, by omega⟩ ⟨by omega, by omega⟩ ⟨by omega, by omega⟩ ⟨by omega, by omega⟩ hi hi2 hx hli h9 hj2 hF hM)
theorem jx_run {R : SyM} {L : Nat} {xs : Nat → Int32} {rest : List MsF} {n : Nat} {fa : Fa} {M0 : Nat → Nat → Value} {k mo be s lk nx cu a0 a1 a2 b ch : Int} {c : MsC} (hr : rest.length ≤ 15) (hmo : mo = 500) (hb : 0 ≤ b ∧ b ≤ 3) (hlk : 0 ≤ lk ∧ lk ≤ 5) (hnx : -1 ≤ nx ∧ nx ≤ 3) (hcu : 0 ≤ cu ∧ cu ≤ 2) (hch : 0 ≤ ch ∧ ch ≤ 2) (hk : 0 ≤ k ∧ k ≤ 8) (hs : 1 ≤ s ∧ s ≤ 8) (hP : PG jx_Q R b lk ch M0 L xs n fa c) (hF : jx_F15 k mo be rest c.1) (hM : jx_kA0 n fa s lk nx cu a0 a1 a2 b ch c.2) : ∃ c', rch c c' ∧ PG jx_Q R b lk ch M0 L xs n fa c' ∧ jx_Z (ek n fa 112 (jx_ok n fa) 0) n fa mo be lk nx cu a0 a1 a2 b ch rest c' := by
  have hn := hP.1.nr
  obtain ⟨i, hi1, hi, hli⟩ := nf_0 (n := n) (fa := fa) (a := 112) (by decide)
  obtain ⟨c1, r1, p1, f1, m1⟩ := jx_t_m (by omega) hP hb ⟨by omega, by omega⟩ ⟨by omega, by omega⟩ ⟨by omega, by omega⟩ ⟨by omega, by omega⟩ ⟨by omega, by omega⟩ ⟨by omega, by omega⟩ ⟨by omega, by omega⟩ ⟨by omega, by omega⟩ (by omega) hi1 hF hM
  obtain ⟨c3, r3, p3, b3⟩ := jx_Ul hr hmo hb hlk hnx hcu hch hk hs (n + 2) i c1 0 (by omega) p1 f1 m1 ⟨hi, hli⟩ (by omega)
  rw [ek_at (by omega) hi1]
  exact ⟨c3, r1.tr r3, p3, b3⟩
