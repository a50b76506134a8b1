/-! PHASE F (written by wip/p21/gU.py). -/
def jq_ok (n : Nat) (fa : Fa) (i : Nat) : Bool := decide (uq n fa i = 99)
def jq_Z (good : Bool) (n : Nat) (fa : Fa) (k mo be s lk nx cu a0 a1 a2 b ch : Int) (rest : List MsF) (c : MsC) : Prop := (good = true ∧ jq_F40 k mo be rest c.1 ∧ ∃ i : Nat, jq_kW n fa s i lk nx cu a0 a1 a2 b ch c.2) ∨ (good = false ∧ (∃ mid, jq_F41 k mo be rest mid ∧ jq_FX 0 mid c.1) ∧ jq_kFK n fa s lk nx cu a0 a1 a2 b ch c.2)
theorem jq_Ul {R : SyM} {L : Nat} {xs : Nat → Int32} {rest : List MsF} {n : Nat} {fa : Fa} {M0 : Nat → Nat → Value} {k mo be s lk nx cu a0 a1 a2 b ch : Int} (hr : rest.length ≤ 15) (hmo : mo = 500) (hb : 0 ≤ b ∧ b ≤ 3) (hlk : 0 ≤ lk ∧ lk ≤ 5) (hnx : -1 ≤ nx ∧ nx ≤ 3) (hcu : 0 ≤ cu ∧ cu ≤ 2) (hch : 0 ≤ ch ∧ ch ≤ 2) (hk : 0 ≤ k ∧ k ≤ 400) (hs : 1 ≤ s ∧ s ≤ 900) : ∀ (d i : Nat) (c : MsC) (ct : Int), n + 2 ≤ i + d → PG jq_Q R b lk ch M0 L xs n fa c → jq_FU k mo be i ct b rest c.1 → jq_kH n fa s lk nx cu a0 a1 a2 b ch c.2 → i < n + 2 ∧ lt n fa i = 113 → 0 ≤ ct ∧ ct ≤ i ∧ ct ≤ n → ∃ c', rch c c' ∧ PG jq_Q R b lk ch M0 L xs n fa c' ∧ jq_Z (jq_ok n fa i || ek n fa 113 (jq_ok n fa) (i + 1)) n fa k mo be s lk nx cu a0 a1 a2 b ch rest c' := by
  intro d
  induction d with
  | zero => intro i c ct hd hP hF hM hj; omega
  | succ d ih =>
    intro i c ct hd hP hF hM hii hct
    obtain ⟨hi, hli⟩ := hii
    have hn := hP.1.nr
    have hw := (nf_c (n := n) (fa := fa) (a := 113) (by decide) (i + 1) (by omega))
    cases hok : jq_ok n fa i with
    | true =>
      rw [Bool.true_or]
      have hu : uq n fa i = 99 := of_decide_eq_true hok
      have fin : (∃ c', rch c c' ∧ PG jq_Q R b lk ch M0 L xs n fa c' ∧ (jq_F40 k mo be rest c'.1) ∧ jq_kW n fa s i lk nx cu a0 a1 a2 b ch c'.2) → ∃ c', rch c c' ∧ PG jq_Q R b lk ch M0 L xs n fa c' ∧ jq_Z true n fa k mo be s lk nx cu a0 a1 a2 b ch rest c' := fun ⟨c', r1, p1, f1, m1⟩ => ⟨c', r1, p1, Or.inl ⟨rfl, f1, i, m1⟩⟩
      rcases hw with hj2 | ⟨i2, hj2, hj3, hi2, hj5⟩
      · cases hx : xq n fa i with
        | false =>
          exact fin (jq_ts00_m (by omega) hP hb ⟨by omega, by omega⟩ ⟨by omega, by omega⟩ ⟨by omega, by omega⟩ ⟨by omega, by omega⟩ ⟨by omega, by omega⟩ ⟨by omega, by omega⟩ ⟨by omega, by omega⟩ ⟨by omega, by omega⟩ ⟨by omega, by omega⟩ hi hx hli hu hj2 hF hM)
        | true => exact fin (jq_ts10_m (by omega) hP hb ⟨by omega, by omega⟩ ⟨by omega, by omega⟩ ⟨by omega, by omega⟩ ⟨by omega, by omega⟩ ⟨by omega, by omega⟩ ⟨by omega, by omega⟩ ⟨by omega, by omega⟩ ⟨by omega, by omega⟩ ⟨by omega, by omega⟩ hi hx hli hu hj2 hF hM)
      · cases hx : xq n fa i with
        | false =>
          exact fin (jq_ts01_m (by omega) hP hb ⟨by omega, by omega⟩ ⟨by omega, by omega⟩ ⟨by omega, by omega⟩ ⟨by omega, by omega⟩ ⟨by omega, by omega⟩ ⟨by omega, by omega⟩ ⟨by omega, by omega⟩ ⟨by omega, by omega⟩ ⟨by omega, by omega⟩ hi hi2 hx hli hu hj2 hF hM)
        | true => exact fin (jq_ts11_m (by omega) hP hb ⟨by omega, by omega⟩ ⟨by omega, by omega⟩ ⟨by omega, by omega⟩ ⟨by omega, by omega⟩ ⟨by omega, by omega⟩ ⟨by omega, by omega⟩ ⟨by omega, by omega⟩ ⟨by omega, by omega⟩ ⟨by omega, by omega⟩ hi hi2 hx hli hu hj2 hF hM)
    | false =>
      rw [Bool.false_or]
      rcases hw with hj2 | ⟨i2, hj2, hj3, hi2, hj5⟩
      · have fin : (∃ c', rch c c' ∧ PG jq_Q R b lk ch M0 L xs n fa c' ∧ (jq_FUN k mo be (ct + 1) b rest c'.1) ∧ jq_kH n fa s lk nx cu a0 a1 a2 b ch c'.2) → ∃ c', rch c c' ∧ PG jq_Q R b lk ch M0 L xs n fa c' ∧ jq_Z (ek n fa 113 (jq_ok n fa) (i + 1)) n fa k mo be s lk nx cu a0 a1 a2 b ch rest c' := fun ⟨c1, r1, p1, f1, m1⟩ => by
          obtain ⟨c2, r2, p2, f2, m2⟩ := jq_te_m (by omega) p1 hb ⟨by omega, by omega⟩ ⟨by omega, by omega⟩ ⟨by omega, by omega⟩ ⟨by omega, by omega⟩ ⟨by omega, by omega⟩ ⟨by omega, by omega⟩ ⟨by omega, by omega⟩ ⟨by omega, by omega⟩ ⟨by omega, by omega⟩ f1 m1
          exact ⟨c2, r1.tr r2, p2, Or.inr ⟨ek_none hj2, f2, m2⟩⟩
        have hub := hP.1.u i
        rcases Int.lt_or_gt_of_ne (of_decide_eq_false hok) with h9 | h9
        · exact fin (jq_tf0l_m (by omega) hP hb ⟨by omega, by omega⟩ ⟨by omega, by omega⟩ ⟨by omega, by omega⟩ ⟨by omega, by omega⟩ ⟨by omega, by omega⟩ ⟨by omega, by omega⟩ ⟨by omega, by omega⟩ ⟨by omega, by omega⟩ ⟨by omega, by omega⟩ hi hli ⟨by omega, by omega⟩ hj2 hF hM)
        · exact fin (jq_tf0g_m (by omega) hP hb ⟨by omega, by omega⟩ ⟨by omega, by omega⟩ ⟨by omega, by omega⟩ ⟨by omega, by omega⟩ ⟨by omega, by omega⟩ ⟨by omega, by omega⟩ ⟨by omega, by omega⟩ ⟨by omega, by omega⟩ ⟨by omega, by omega⟩ hi hli ⟨by omega, by omega⟩ hj2 hF hM)
      · have hgap := pq_gap (n := n) (fa := fa) (hli.trans hj5.symm) (by omega) hi2
        have fin : (∃ c', rch c c' ∧ PG jq_Q R b lk ch M0 L xs n fa c' ∧ (jq_FU k mo be i2 (ct + 1) b rest c'.1) ∧ jq_kH n fa s lk nx cu a0 a1 a2 b ch c'.2) → ∃ c', rch c c' ∧ PG jq_Q R b lk ch M0 L xs n fa c' ∧ jq_Z (ek n fa 113 (jq_ok n fa) (i + 1)) n fa k mo be s lk nx cu a0 a1 a2 b ch rest c' := fun ⟨c1, r1, p1, f1, m1⟩ => by
          obtain ⟨c3, r3, p3, b3⟩ := ih i2 c1 (ct + 1) (by omega) p1 f1 m1 ⟨hi2, hj5⟩ (by omega)
          rw [ek_at (by omega) hj2]
          exact ⟨c3, r1.tr r3, p3, b3⟩
        have hub := hP.1.u i
        rcases Int.lt_or_gt_of_ne (of_decide_eq_false hok) with h9 | h9
        · exact fin (jq_tf1l_m (by omega) hP hb ⟨by omega, by omega⟩ ⟨by omega, by omega⟩ ⟨by omega, by omega⟩ ⟨by omega, by omega⟩ ⟨by omega, by omega⟩ ⟨by omega, by omega⟩ ⟨by omega, by omega⟩ ⟨by omega, by omega⟩ ⟨by omega, by omega⟩ hi hi2 hli ⟨by omega, by omega⟩ hj2 hF hM)
        · exact fin (jq_tf1g_m (by omega) hP hb ⟨by omega, by omega⟩ ⟨by omega, by omega⟩ ⟨by omega, by omega⟩ ⟨by omega, by omega⟩ ⟨by omega, by omega⟩ ⟨by omega, by omega⟩ ⟨by omega, by omega⟩ ⟨by omega, by omega⟩ ⟨by omega, by omega⟩ hi hi2 hli ⟨by omega, by omega⟩ hj2 hF hM)
theorem jq_run {R : SyM} {L : Nat} {xs : Nat → Int32} {rest : List MsF} {n : Nat} {fa : Fa} {M0 : Nat → Nat → Value} {k mo be s lk nx cu a0 a1 a2 b ch : Int} {c : MsC} (hr : rest.length ≤ 15) (hmo : mo = 500) (hb : 0 ≤ b ∧ b ≤ 3) (hlk : 0 ≤ lk ∧ lk ≤ 5) (hnx : -1 ≤ nx ∧ nx ≤ 3) (hcu : 0 ≤ cu ∧ cu ≤ 2) (hch : 0 ≤ ch ∧ ch ≤ 2) (hk : 0 ≤ k ∧ k ≤ 400) (hs : 1 ≤ s ∧ s ≤ 900) (hP : PG jq_Q R b lk ch M0 L xs n fa c) (hF : jq_F15 k mo be rest c.1) (hM : jq_kA0 n fa s lk nx cu a0 a1 a2 b ch c.2) : ∃ c', rch c c' ∧ PG jq_Q R b lk ch M0 L xs n fa c' ∧ jq_Z (ek n fa 113 (jq_ok n fa) 0) n fa k mo be s lk nx cu a0 a1 a2 b ch rest c' := by
  have hn := hP.1.nr
  obtain ⟨i, hi1, hi, hli⟩ := nf_0 (n := n) (fa := fa) (a := 113) (by decide)
  obtain ⟨c1, r1, p1, f1, m1⟩ := jq_t_m (by omega) hP hb ⟨by omega, by omega⟩ ⟨by omega, by omega⟩ ⟨by omega, by omega⟩ ⟨by omega, by omega⟩ ⟨by omega, by omega⟩ ⟨by omega, by omega⟩ ⟨by omega, by omega⟩ ⟨by omega, by omega⟩ (by omega) hi1 hF hM
  obtain ⟨c3, r3, p3, b3⟩ := jq_Ul hr hmo hb hlk hnx hcu hch hk hs (n + 2) i c1 0 (by omega) p1 f1 m1 ⟨hi, hli⟩ (by omega)
  rw [ek_at (by omega) hi1]
  exact ⟨c3, r1.tr r3, p3, b3⟩
