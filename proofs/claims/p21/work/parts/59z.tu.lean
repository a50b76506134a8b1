/-! PHASE F (written by wip/p21/gU.py). -/
def jb_k (n : Nat) (fa : Fa) (i j : Nat) : Bool := decide (uq n fa j = 98) && okq n fa j i
def jb_E (n : Nat) (fa : Fa) (i : Nat) : Bool := ek n fa 112 (jb_k n fa i) 0
def jb_2 (n : Nat) (fa : Fa) (i : Nat) : Bool := decide (uq n fa i = 98) && (xq n fa i || decide (vq n fa i = 98))
def jb_G (n : Nat) (fa : Fa) : Bool := ek n fa 112 (jb_2 n fa) 0
def jb_Z (good : Bool) (n : Nat) (fa : Fa) (mo be lk nx cu a0 a1 a2 b ch f : Int) (rest : List MsF) (c : MsC) : Prop := (good = true ∧ ∃ (k s t : Int) (i j : Nat), (0 ≤ k ∧ k ≤ 400) ∧ (3 ≤ s ∧ s ≤ 900) ∧ (1 ≤ t ∧ t < s) ∧ jb_F40 k mo be rest c.1 ∧ ((f < t ∧ i < n + 2 ∧ jb_kW n fa s t i j lk nx cu a0 a1 a2 b ch f c.2) ∨ jb_kW2 n fa s t i lk nx cu a0 a1 a2 b ch c.2)) ∨ (good = false ∧ ∃ (k s t : Int), (0 ≤ k ∧ k ≤ 400) ∧ (3 ≤ s ∧ s ≤ 900) ∧ (1 ≤ t ∧ t < s) ∧ (∃ mid, jb_F41 k mo be rest mid ∧ jb_FX 0 mid c.1) ∧ jb_kFK n fa s t lk nx cu a0 a1 a2 b ch c.2)
theorem jb_Ul2 {R : SyM} {L : Nat} {xs : Nat → Int32} {rest : List MsF} {n : Nat} {fa : Fa} {M0 : Nat → Nat → Value} {k mo be s t f lk nx cu a0 a1 a2 b ch : Int} (hr : rest.length ≤ 15) (hmo : mo = 500) (hb : 0 ≤ b ∧ b ≤ 3) (hlk : 0 ≤ lk ∧ lk ≤ 5) (hnx : -1 ≤ nx ∧ nx ≤ 3) (hcu : 0 ≤ cu ∧ cu ≤ 2) (hch : 0 ≤ ch ∧ ch ≤ 2) (hk : 0 ≤ k ∧ k ≤ 400) (hs : 3 ≤ s ∧ s ≤ 900) (ht : 1 ≤ t ∧ t < s) : ∀ (d i : Nat) (c : MsC) (ct : Int), n + 2 ≤ i + d → PG jb_Q R b lk ch M0 L xs n fa c → jb_FU2 n k mo be t i ct rest c.1 → jb_kH2 n fa s t lk nx cu a0 a1 a2 b ch c.2 → i < n + 2 ∧ lt n fa i = 112 → 0 ≤ ct ∧ ct ≤ i ∧ ct ≤ n → ∃ c', rch c c' ∧ PG jb_Q R b lk ch M0 L xs n fa c' ∧ jb_Z (jb_2 n fa i || ek n fa 112 (jb_2 n fa) (i + 1)) n fa mo be lk nx cu a0 a1 a2 b ch f rest c' := by
  intro d
  induction d with
  | zero => intro i c ct hd hP hF hM hj; omega
  | succ d ih =>
    intro i c ct hd hP hF hM hii hct
    obtain ⟨hi, hli⟩ := hii
    have hn := hP.1.nr
    have hw := (nf_c (n := n) (fa := fa) (a := 112) (by decide) (i + 1) (by omega))
    cases hok : jb_2 n fa i with
    | true =>
      rw [Bool.true_or]
      have hu : uq n fa i = 98 := by
        unfold jb_2 at hok
        exact of_decide_eq_true (Bool.and_eq_true_iff.mp hok).1
      have hv' : xq n fa i = false → vq n fa i = 98 := fun hx => by
        unfold jb_2 at hok
        have := (Bool.and_eq_true_iff.mp hok).2
        rw [hx] at this
        exact of_decide_eq_true this
      suffices fin9 : (∃ c', rch c c' ∧ PG jb_Q R b lk ch M0 L xs n fa c' ∧ (jb_F40 k mo be rest c'.1) ∧ jb_kW2 n fa s t i lk nx cu a0 a1 a2 b ch c'.2) by
        obtain ⟨c', r1, p1, f1, m1⟩ := fin9
        exact ⟨c', r1, p1, Or.inl ⟨rfl, k, s, t, i, 0, hk, hs, ht, f1, Or.inr m1⟩⟩
      have fin : (∃ c', rch c c' ∧ PG jb_Q R b lk ch M0 L xs n fa c' ∧ (jb_F40 k mo be rest c'.1) ∧ jb_kW2 n fa s t i lk nx cu a0 a1 a2 b ch c'.2) → (∃ c', rch c c' ∧ PG jb_Q R b lk ch M0 L xs n fa c' ∧ (jb_F40 k mo be rest c'.1) ∧ jb_kW2 n fa s t i lk nx cu a0 a1 a2 b ch c'.2) := fun h => h
      rcases hw with hj2 | ⟨i2, hj2, hj3, hi2, hj5⟩
      · cases hx : xq n fa i with
        | false =>
          have hv := hv' hx
          exact fin (jb_ts00_m (by omega) hP hb ⟨by omega, by omega⟩ ⟨by omega, by omega⟩ ⟨by omega, by omega⟩ ⟨by omega, by omega⟩ ⟨by omega, by omega⟩ ⟨by omega, by omega⟩ ⟨by omega, by omega⟩ ⟨by omega, by omega⟩ ⟨by omega, by omega⟩ ⟨by omega, by omega⟩ hi hx hli (by omega) hu hv hj2 hF hM)
        | true => exact fin (jb_ts10_m (by omega) hP hb ⟨by omega, by omega⟩ ⟨by omega, by omega⟩ ⟨by omega, by omega⟩ ⟨by omega, by omega⟩ ⟨by omega, by omega⟩ ⟨by omega, by omega⟩ ⟨by omega, by omega⟩ ⟨by omega, by omega⟩ ⟨by omega, by omega⟩ ⟨by omega, by omega⟩ hi hx hli (by omega) hu hj2 hF hM)
      · cases hx : xq n fa i with
        | false =>
          have hv := hv' hx
          exact fin (jb_ts01_m (by omega) hP hb ⟨by omega, by omega⟩ ⟨by omega, by omega⟩ ⟨by omega, by omega⟩ ⟨by omega, by omega⟩ ⟨by omega, by omega⟩ ⟨by omega, by omega⟩ ⟨by omega, by omega⟩ ⟨by omega, by omega⟩ ⟨by omega, by omega⟩ ⟨by omega, by omega⟩ hi hi2 hx hli (by omega) hu hv hj2 hF hM)
        | true => exact fin (jb_ts11_m (by omega) hP hb ⟨by omega, by omega⟩ ⟨by omega, by omega⟩ ⟨by omega, by omega⟩ ⟨by omega, by omega⟩ ⟨by omega, by omega⟩ ⟨by omega, by omega⟩ ⟨by omega, by omega⟩ ⟨by omega, by omega⟩ ⟨by omega, by omega⟩ ⟨by omega, by omega⟩ hi hi2 hx hli (by omega) hu hj2 hF hM)
    | false =>
      rw [Bool.false_or]
      rcases hw with hj2 | ⟨i2, hj2, hj3, hi2, hj5⟩
      · have fin : (∃ c', rch c c' ∧ PG jb_Q R b lk ch M0 L xs n fa c' ∧ (jb_FU2N n k mo be t (ct + 1) rest c'.1) ∧ jb_kH2 n fa s t lk nx cu a0 a1 a2 b ch c'.2) → ∃ c', rch c c' ∧ PG jb_Q R b lk ch M0 L xs n fa c' ∧ jb_Z (ek n fa 112 (jb_2 n fa) (i + 1)) n fa mo be lk nx cu a0 a1 a2 b ch f rest c' := fun ⟨c1, r1, p1, f1, m1⟩ => by
          obtain ⟨c2, r2, p2, f2, m2⟩ := jb_te_m (by omega) p1 hb ⟨by omega, by omega⟩ ⟨by omega, by omega⟩ ⟨by omega, by omega⟩ ⟨by omega, by omega⟩ ⟨by omega, by omega⟩ ⟨by omega, by omega⟩ ⟨by omega, by omega⟩ ⟨by omega, by omega⟩ ⟨by omega, by omega⟩ ⟨by omega, by omega⟩ (by omega) f1 m1
          exact ⟨c2, r1.tr r2, p2, Or.inr ⟨ek_none hj2, k, s, t, hk, hs, ht, f2, m2⟩⟩
        by_cases hu : uq n fa i = 98
        · have hx : xq n fa i = false ∧ vq n fa i ≠ 98 := by
            unfold jb_2 at hok
            rw [decide_eq_true hu] at hok
            rcases hx : xq n fa i with _ | _
            · rw [hx] at hok
              exact ⟨rfl, of_decide_eq_false hok⟩
            · rw [hx] at hok
              cases hok
          obtain ⟨hx, hv⟩ := hx
          have hvb := hP.1.v i hx
          rcases Int.lt_or_gt_of_ne hv with h9 | h9
          · exact fin (jb_tf0v_m (by omega) hP hb ⟨by omega, by omega⟩ ⟨by omega, by omega⟩ ⟨by omega, by omega⟩ ⟨by omega, by omega⟩ ⟨by omega, by omega⟩ ⟨by omega, by omega⟩ ⟨by omega, by omega⟩ ⟨by omega, by omega⟩ ⟨by omega, by omega⟩ ⟨by omega, by omega⟩ hi hx hli ⟨by omega, by omega⟩ (by omega) hu hj2 hF hM)
          · exact fin (jb_tf0w_m (by omega) hP hb ⟨by omega, by omega⟩ ⟨by omega, by omega⟩ ⟨by omega, by omega⟩ ⟨by omega, by omega⟩ ⟨by omega, by omega⟩ ⟨by omega, by omega⟩ ⟨by omega, by omega⟩ ⟨by omega, by omega⟩ ⟨by omega, by omega⟩ ⟨by omega, by omega⟩ hi hx hli ⟨by omega, by omega⟩ (by omega) hu hj2 hF hM)
        · have hub := hP.1.u i
          rcases Int.lt_or_gt_of_ne hu with h9 | h9
          · exact fin (jb_tf0l_m (by omega) hP hb ⟨by omega, by omega⟩ ⟨by omega, by omega⟩ ⟨by omega, by omega⟩ ⟨by omega, by omega⟩ ⟨by omega, by omega⟩ ⟨by omega, by omega⟩ ⟨by omega, by omega⟩ ⟨by omega, by omega⟩ ⟨by omega, by omega⟩ ⟨by omega, by omega⟩ hi hli ⟨by omega, by omega⟩ (by omega) hj2 hF hM)
          · exact fin (jb_tf0g_m (by omega) hP hb ⟨by omega, by omega⟩ ⟨by omega, by omega⟩ ⟨by omega, by omega⟩ ⟨by omega, by omega⟩ ⟨by omega, by omega⟩ ⟨by omega, by omega⟩ ⟨by omega, by omega⟩ ⟨by omega, by omega⟩ ⟨by omega, by omega⟩ ⟨by omega, by omega⟩ hi hli ⟨by omega, by omega⟩ (by omega) hj2 hF hM)
      · have hgap := pq_gap (n := n) (fa := fa) (hli.trans hj5.symm) (by omega) hi2
        have fin : (∃ c', rch c c' ∧ PG jb_Q R b lk ch M0 L xs n fa c' ∧ (jb_FU2 n k mo be t i2 (ct + 1) rest c'.1) ∧ jb_kH2 n fa s t lk nx cu a0 a1 a2 b ch c'.2) → ∃ c', rch c c' ∧ PG jb_Q R b lk ch M0 L xs n fa c' ∧ jb_Z (ek n fa 112 (jb_2 n fa) (i + 1)) n fa mo be lk nx cu a0 a1 a2 b ch f rest c' := fun ⟨c1, r1, p1, f1, m1⟩ => by
          obtain ⟨c3, r3, p3, b3⟩ := ih i2 c1 (ct + 1) (by omega) p1 f1 m1 ⟨hi2, hj5⟩ (by omega)
          rw [ek_at (by omega) hj2]
          exact ⟨c3, r1.tr r3, p3, b3⟩
        by_cases hu : uq n fa i = 98
        · have hx : xq n fa i = false ∧ vq n fa i ≠ 98 := by
            unfold jb_2 at hok
            rw [decide_eq_true hu] at hok
            rcases hx : xq n fa i with _ | _
            · rw [hx] at hok
              exact ⟨rfl, of_decide_eq_false hok⟩
            · rw [hx] at hok
              cases hok
          obtain ⟨hx, hv⟩ := hx
          have hvb := hP.1.v i hx
          rcases Int.lt_or_gt_of_ne hv with h9 | h9
          · exact fin (jb_tf1v_m (by omega) hP hb ⟨by omega, by omega⟩ ⟨by omega, by omega⟩ ⟨by omega, by omega⟩ ⟨by omega, by omega⟩ ⟨by omega, by omega⟩ ⟨by omega, by omega⟩ ⟨by omega, by omega⟩ ⟨by omega, by omega⟩ ⟨by omega, by omega⟩ ⟨by omega, by omega⟩ hi hi2 hx hli ⟨by omega, by omega⟩ (by omega) hu hj2 hF hM)
          · exact fin (jb_tf1w_m (by omega) hP hb ⟨by omega, by omega⟩ ⟨by omega, by omega⟩ ⟨by omega, by omega⟩ ⟨by omega, by omega⟩ ⟨by omega, by omega⟩ ⟨by omega, by omega⟩ ⟨by omega, by omega⟩ ⟨by omega, by omega⟩ ⟨by omega, by omega⟩ ⟨by omega, by omega⟩ hi hi2 hx hli ⟨by omega, by omega⟩ (by omega) hu hj2 hF hM)
        · have hub := hP.1.u i
          rcases Int.lt_or_gt_of_ne hu with h9 | h9
          · exact fin (jb_tf1l_m (by omega) hP hb ⟨by omega, by omega⟩ ⟨by omega, by omega⟩ ⟨by omega, by omega⟩ ⟨by omega, by omega⟩ ⟨by omega, by omega⟩ ⟨by omega, by omega⟩ ⟨by omega, by omega⟩ ⟨by omega, by omega⟩ ⟨by omega, by omega⟩ ⟨by omega, by omega⟩ hi hi2 hli ⟨by omega, by omega⟩ (by omega) hj2 hF hM)
          · exact fin (jb_tf1g_m (by omega) hP hb ⟨by omega, by omega⟩ ⟨by omega, by omega⟩ ⟨by omega, by omega⟩ ⟨by omega, by omega⟩ ⟨by omega, by omega⟩ ⟨by omega, by omega⟩ ⟨by omega, by omega⟩ ⟨by omega, by omega⟩ ⟨by omega, by omega⟩ ⟨by omega, by omega⟩ hi hi2 hli ⟨by omega, by omega⟩ (by omega) hj2 hF hM)
theorem jb_Il {R : SyM} {L : Nat} {xs : Nat → Int32} {rest : List MsF} {n : Nat} {fa : Fa} {M0 : Nat → Nat → Value} {k mo be s t f lk nx cu a0 a1 a2 b ch : Int} {i : Nat} {i2 : Int} (hr : rest.length ≤ 15) (hmo : mo = 500) (hb : 0 ≤ b ∧ b ≤ 3) (hlk : 0 ≤ lk ∧ lk ≤ 5) (hnx : -1 ≤ nx ∧ nx ≤ 3) (hcu : 0 ≤ cu ∧ cu ≤ 2) (hch : 0 ≤ ch ∧ ch ≤ 2) (hk : 0 ≤ k ∧ k ≤ 400) (hs : 3 ≤ s ∧ s ≤ 900) (hf : 1 ≤ f ∧ f < t) (ht : 1 ≤ t ∧ t < s) (hi : i < n + 2) (hli : lt n fa i = 113) (hz : i2 = -1 ∨ ∃ z : Nat, i2 = z ∧ z < n + 2) : ∀ (d j : Nat) (c : MsC) (ct : Int), n + 2 ≤ j + d → PG jb_Q R b lk ch M0 L xs n fa c → jb_FU n k mo be j ct f rest c.1 → jb_kH n fa s t i i2 lk nx cu a0 a1 a2 b ch f c.2 → j < n + 2 ∧ lt n fa j = 112 → 0 ≤ ct ∧ ct ≤ j ∧ ct ≤ n → ∃ c', rch c c' ∧ PG jb_Q R b lk ch M0 L xs n fa c' ∧ (((jb_k n fa i j || ek n fa 112 (jb_k n fa i) (j + 1)) = true ∧ ∃ j : Nat, jb_F40 k mo be rest c'.1 ∧ jb_kW n fa s t i j lk nx cu a0 a1 a2 b ch f c'.2) ∨ ((jb_k n fa i j || ek n fa 112 (jb_k n fa i) (j + 1)) = false ∧ ∃ ct : Int, (0 ≤ ct ∧ ct ≤ 12) ∧ jb_FUN n k mo be ct f rest c'.1 ∧ jb_kH n fa s t i i2 lk nx cu a0 a1 a2 b ch f c'.2)) := by
  intro d
  induction d with
  | zero => intro j c ct hd hP hF hM hj; omega
  | succ d ih =>
    intro j c ct hd hP hF hM hjj hct
    obtain ⟨hj, hlj⟩ := hjj
    have hn := hP.1.nr
    have hw := (nf_c (n := n) (fa := fa) (a := 112) (by decide) (j + 1) (by omega))
    cases hok : jb_k n fa i j with
    | true =>
      rw [Bool.true_or]
      have hu : uq n fa j = 98 := by
        unfold jb_k at hok
        exact of_decide_eq_true (Bool.and_eq_true_iff.mp hok).1
      have hok1 : okq n fa j i = true := by
        unfold jb_k at hok
        exact (Bool.and_eq_true_iff.mp hok).2
      suffices fin9 : (∃ c', rch c c' ∧ PG jb_Q R b lk ch M0 L xs n fa c' ∧ (jb_F40 k mo be rest c'.1) ∧ jb_kW n fa s t i j lk nx cu a0 a1 a2 b ch f c'.2) by
        obtain ⟨c', r1, p1, f1, m1⟩ := fin9
        exact ⟨c', r1, p1, Or.inl ⟨rfl, j, f1, m1⟩⟩
      have fin : (∃ c', rch c c' ∧ PG jb_Q R b lk ch M0 L xs n fa c' ∧ (jb_F40 k mo be rest c'.1) ∧ jb_kW n fa s t i j lk nx cu a0 a1 a2 b ch f c'.2) → (∃ c', rch c c' ∧ PG jb_Q R b lk ch M0 L xs n fa c' ∧ (jb_F40 k mo be rest c'.1) ∧ jb_kW n fa s t i j lk nx cu a0 a1 a2 b ch f c'.2) := fun h => h
      rcases hw with hj2 | ⟨j2, hj2, hj3, hj4, hj5⟩
      · rcases hz with rfl | ⟨i2, rfl, hi2⟩
        · cases hx : xq n fa i with
          | false =>
            cases hy : xq n fa j with
            | false =>
              exact fin (jb_s0000_m (by omega) hP hb ⟨by omega, by omega⟩ ⟨by omega, by omega⟩ ⟨by omega, by omega⟩ ⟨by omega, by omega⟩ ⟨by omega, by omega⟩ ⟨by omega, by omega⟩ ⟨by omega, by omega⟩ ⟨by omega, by omega⟩ ⟨by omega, by omega⟩ ⟨by omega, by omega⟩ ⟨by omega, by omega⟩ hi hj hx hy hli hlj (by omega) (by omega) (by omega) hu (okq_t hok1 hy).symm hj2 hF hM)
            | true =>
              exact fin (jb_s0010_m (by omega) hP hb ⟨by omega, by omega⟩ ⟨by omega, by omega⟩ ⟨by omega, by omega⟩ ⟨by omega, by omega⟩ ⟨by omega, by omega⟩ ⟨by omega, by omega⟩ ⟨by omega, by omega⟩ ⟨by omega, by omega⟩ ⟨by omega, by omega⟩ ⟨by omega, by omega⟩ ⟨by omega, by omega⟩ hi hj hx hy hli hlj (by omega) (by omega) (by omega) hu hj2 hF hM)
          | true =>
            cases hy : xq n fa j with
            | false =>
              exact fin (jb_s1000_m (by omega) hP hb ⟨by omega, by omega⟩ ⟨by omega, by omega⟩ ⟨by omega, by omega⟩ ⟨by omega, by omega⟩ ⟨by omega, by omega⟩ ⟨by omega, by omega⟩ ⟨by omega, by omega⟩ ⟨by omega, by omega⟩ ⟨by omega, by omega⟩ ⟨by omega, by omega⟩ ⟨by omega, by omega⟩ hi hj hx hy hli hlj (by omega) (by omega) (by omega) hu (okq_t hok1 hy).symm hj2 hF hM)
            | true =>
              exact fin (jb_s1010_m (by omega) hP hb ⟨by omega, by omega⟩ ⟨by omega, by omega⟩ ⟨by omega, by omega⟩ ⟨by omega, by omega⟩ ⟨by omega, by omega⟩ ⟨by omega, by omega⟩ ⟨by omega, by omega⟩ ⟨by omega, by omega⟩ ⟨by omega, by omega⟩ ⟨by omega, by omega⟩ ⟨by omega, by omega⟩ hi hj hx hy hli hlj (by omega) (by omega) (by omega) hu hj2 hF hM)
        · cases hx : xq n fa i with
          | false =>
            cases hy : xq n fa j with
            | false =>
              exact fin (jb_s0100_m (by omega) hP hb ⟨by omega, by omega⟩ ⟨by omega, by omega⟩ ⟨by omega, by omega⟩ ⟨by omega, by omega⟩ ⟨by omega, by omega⟩ ⟨by omega, by omega⟩ ⟨by omega, by omega⟩ ⟨by omega, by omega⟩ ⟨by omega, by omega⟩ ⟨by omega, by omega⟩ ⟨by omega, by omega⟩ hi hj hx hy hli hlj (by omega) (by omega) (by omega) hu (okq_t hok1 hy).symm hj2 hF hM)
            | true =>
              exact fin (jb_s0110_m (by omega) hP hb ⟨by omega, by omega⟩ ⟨by omega, by omega⟩ ⟨by omega, by omega⟩ ⟨by omega, by omega⟩ ⟨by omega, by omega⟩ ⟨by omega, by omega⟩ ⟨by omega, by omega⟩ ⟨by omega, by omega⟩ ⟨by omega, by omega⟩ ⟨by omega, by omega⟩ ⟨by omega, by omega⟩ hi hj hx hy hli hlj (by omega) (by omega) (by omega) hu hj2 hF hM)
          | true =>
            cases hy : xq n fa j with
            | false =>
              exact fin (jb_s1100_m (by omega) hP hb ⟨by omega, by omega⟩ ⟨by omega, by omega⟩ ⟨by omega, by omega⟩ ⟨by omega, by omega⟩ ⟨by omega, by omega⟩ ⟨by omega, by omega⟩ ⟨by omega, by omega⟩ ⟨by omega, by omega⟩ ⟨by omega, by omega⟩ ⟨by omega, by omega⟩ ⟨by omega, by omega⟩ hi hj hx hy hli hlj (by omega) (by omega) (by omega) hu (okq_t hok1 hy).symm hj2 hF hM)
            | true =>
              exact fin (jb_s1110_m (by omega) hP hb ⟨by omega, by omega⟩ ⟨by omega, by omega⟩ ⟨by omega, by omega⟩ ⟨by omega, by omega⟩ ⟨by omega, by omega⟩ ⟨by omega, by omega⟩ ⟨by omega, by omega⟩ ⟨by omega, by omega⟩ ⟨by omega, by omega⟩ ⟨by omega, by omega⟩ ⟨by omega, by omega⟩ hi hj hx hy hli hlj (by omega) (by omega) (by omega) hu hj2 hF hM)
      · have hj2' := hj4
        rcases hz with rfl | ⟨i2, rfl, hi2⟩
        · cases hx : xq n fa i with
          | false =>
            cases hy : xq n fa j with
            | false =>
              exact fin (jb_s0001_m (by omega) hP hb ⟨by omega, by omega⟩ ⟨by omega, by omega⟩ ⟨by omega, by omega⟩ ⟨by omega, by omega⟩ ⟨by omega, by omega⟩ ⟨by omega, by omega⟩ ⟨by omega, by omega⟩ ⟨by omega, by omega⟩ ⟨by omega, by omega⟩ ⟨by omega, by omega⟩ ⟨by omega, by omega⟩ hi hj hj4 hx hy hli hlj (by omega) (by omega) (by omega) hu (okq_t hok1 hy).symm hj2 hF hM)
            | true =>
              exact fin (jb_s0011_m (by omega) hP hb ⟨by omega, by omega⟩ ⟨by omega, by omega⟩ ⟨by omega, by omega⟩ ⟨by omega, by omega⟩ ⟨by omega, by omega⟩ ⟨by omega, by omega⟩ ⟨by omega, by omega⟩ ⟨by omega, by omega⟩ ⟨by omega, by omega⟩ ⟨by omega, by omega⟩ ⟨by omega, by omega⟩ hi hj hj4 hx hy hli hlj (by omega) (by omega) (by omega) hu hj2 hF hM)
          | true =>
            cases hy : xq n fa j with
            | false =>
              exact fin (jb_s1001_m (by omega) hP hb ⟨by omega, by omega⟩ ⟨by omega, by omega⟩ ⟨by omega, by omega⟩ ⟨by omega, by omega⟩ ⟨by omega, by omega⟩ ⟨by omega, by omega⟩ ⟨by omega, by omega⟩ ⟨by omega, by omega⟩ ⟨by omega, by omega⟩ ⟨by omega, by omega⟩ ⟨by omega, by omega⟩ hi hj hj4 hx hy hli hlj (by omega) (by omega) (by omega) hu (okq_t hok1 hy).symm hj2 hF hM)
            | true =>
              exact fin (jb_s1011_m (by omega) hP hb ⟨by omega, by omega⟩ ⟨by omega, by omega⟩ ⟨by omega, by omega⟩ ⟨by omega, by omega⟩ ⟨by omega, by omega⟩ ⟨by omega, by omega⟩ ⟨by omega, by omega⟩ ⟨by omega, by omega⟩ ⟨by omega, by omega⟩ ⟨by omega, by omega⟩ ⟨by omega, by omega⟩ hi hj hj4 hx hy hli hlj (by omega) (by omega) (by omega) hu hj2 hF hM)
        · cases hx : xq n fa i with
          | false =>
            cases hy : xq n fa j with
            | false =>
              exact fin (jb_s0101_m (by omega) hP hb ⟨by omega, by omega⟩ ⟨by omega, by omega⟩ ⟨by omega, by omega⟩ ⟨by omega, by omega⟩ ⟨by omega, by omega⟩ ⟨by omega, by omega⟩ ⟨by omega, by omega⟩ ⟨by omega, by omega⟩ ⟨by omega, by omega⟩ ⟨by omega, by omega⟩ ⟨by omega, by omega⟩ hi hj hj4 hx hy hli hlj (by omega) (by omega) (by omega) hu (okq_t hok1 hy).symm hj2 hF hM)
            | true =>
              exact fin (jb_s0111_m (by omega) hP hb ⟨by omega, by omega⟩ ⟨by omega, by omega⟩ ⟨by omega, by omega⟩ ⟨by omega, by omega⟩ ⟨by omega, by omega⟩ ⟨by omega, by omega⟩ ⟨by omega, by omega⟩ ⟨by omega, by omega⟩ ⟨by omega, by omega⟩ ⟨by omega, by omega⟩ ⟨by omega, by omega⟩ hi hj hj4 hx hy hli hlj (by omega) (by omega) (by omega) hu hj2 hF hM)
          | true =>
            cases hy : xq n fa j with
            | false =>
              exact fin (jb_s1101_m (by omega) hP hb ⟨by omega, by omega⟩ ⟨by omega, by omega⟩ ⟨by omega, by omega⟩ ⟨by omega, by omega⟩ ⟨by omega, by omega⟩ ⟨by omega, by omega⟩ ⟨by omega, by omega⟩ ⟨by omega, by omega⟩ ⟨by omega, by omega⟩ ⟨by omega, by omega⟩ ⟨by omega, by omega⟩ hi hj hj4 hx hy hli hlj (by omega) (by omega) (by omega) hu (okq_t hok1 hy).symm hj2 hF hM)
            | true =>
              exact fin (jb_s1111_m (by omega) hP hb ⟨by omega, by omega⟩ ⟨by omega, by omega⟩ ⟨by omega, by omega⟩ ⟨by omega, by omega⟩ ⟨by omega, by omega⟩ ⟨by omega, by omega⟩ ⟨by omega, by omega⟩ ⟨by omega, by omega⟩ ⟨by omega, by omega⟩ ⟨by omega, by omega⟩ ⟨by omega, by omega⟩ hi hj hj4 hx hy hli hlj (by omega) (by omega) (by omega) hu hj2 hF hM)
    | false =>
      rw [Bool.false_or]
      rcases hw with hj2 | ⟨j2, hj2, hj3, hj4, hj5⟩
      · have fin : (∃ c', rch c c' ∧ PG jb_Q R b lk ch M0 L xs n fa c' ∧ (jb_FUN n k mo be (ct + 1) f rest c'.1) ∧ jb_kH n fa s t i i2 lk nx cu a0 a1 a2 b ch f c'.2) → ∃ c', rch c c' ∧ PG jb_Q R b lk ch M0 L xs n fa c' ∧ (((ek n fa 112 (jb_k n fa i) (j + 1)) = true ∧ ∃ j : Nat, jb_F40 k mo be rest c'.1 ∧ jb_kW n fa s t i j lk nx cu a0 a1 a2 b ch f c'.2) ∨ ((ek n fa 112 (jb_k n fa i) (j + 1)) = false ∧ ∃ ct : Int, (0 ≤ ct ∧ ct ≤ 12) ∧ jb_FUN n k mo be ct f rest c'.1 ∧ jb_kH n fa s t i i2 lk nx cu a0 a1 a2 b ch f c'.2)) := fun ⟨c1, r1, p1, f1, m1⟩ => ⟨c1, r1, p1, Or.inr ⟨ek_none hj2, ct + 1, by omega, f1, m1⟩⟩
        rcases hz with rfl | ⟨i2, rfl, hi2⟩
        · by_cases hu : uq n fa j = 98
          · have hok1 : okq n fa j i = false := by
              unfold jb_k at hok
              rw [decide_eq_true hu] at hok
              exact hok
            obtain ⟨hy, hne⟩ := okq_f hok1
            cases hx : xq n fa i with
            | false =>
              rcases Int.lt_or_gt_of_ne hne.symm with h9 | h9
              · exact fin (jb_f000v_m (by omega) hP hb ⟨by omega, by omega⟩ ⟨by omega, by omega⟩ ⟨by omega, by omega⟩ ⟨by omega, by omega⟩ ⟨by omega, by omega⟩ ⟨by omega, by omega⟩ ⟨by omega, by omega⟩ ⟨by omega, by omega⟩ ⟨by omega, by omega⟩ ⟨by omega, by omega⟩ ⟨by omega, by omega⟩ hi hj hx hy hli hlj (by omega) (by omega) (by omega) h9 hu hj2 hF hM)
              · exact fin (jb_f000w_m (by omega) hP hb ⟨by omega, by omega⟩ ⟨by omega, by omega⟩ ⟨by omega, by omega⟩ ⟨by omega, by omega⟩ ⟨by omega, by omega⟩ ⟨by omega, by omega⟩ ⟨by omega, by omega⟩ ⟨by omega, by omega⟩ ⟨by omega, by omega⟩ ⟨by omega, by omega⟩ ⟨by omega, by omega⟩ hi hj hx hy hli hlj (by omega) (by omega) (by omega) h9 hu hj2 hF hM)
            | true =>
              rcases Int.lt_or_gt_of_ne hne.symm with h9 | h9
              · exact fin (jb_f100v_m (by omega) hP hb ⟨by omega, by omega⟩ ⟨by omega, by omega⟩ ⟨by omega, by omega⟩ ⟨by omega, by omega⟩ ⟨by omega, by omega⟩ ⟨by omega, by omega⟩ ⟨by omega, by omega⟩ ⟨by omega, by omega⟩ ⟨by omega, by omega⟩ ⟨by omega, by omega⟩ ⟨by omega, by omega⟩ hi hj hx hy hli hlj (by omega) (by omega) (by omega) h9 hu hj2 hF hM)
              · exact fin (jb_f100w_m (by omega) hP hb ⟨by omega, by omega⟩ ⟨by omega, by omega⟩ ⟨by omega, by omega⟩ ⟨by omega, by omega⟩ ⟨by omega, by omega⟩ ⟨by omega, by omega⟩ ⟨by omega, by omega⟩ ⟨by omega, by omega⟩ ⟨by omega, by omega⟩ ⟨by omega, by omega⟩ ⟨by omega, by omega⟩ hi hj hx hy hli hlj (by omega) (by omega) (by omega) h9 hu hj2 hF hM)
          · have hub := hP.1.u j
            cases hx : xq n fa i with
            | false =>
              rcases Int.lt_or_gt_of_ne hu with h9 | h9
              · exact fin (jb_f000l_m (by omega) hP hb ⟨by omega, by omega⟩ ⟨by omega, by omega⟩ ⟨by omega, by omega⟩ ⟨by omega, by omega⟩ ⟨by omega, by omega⟩ ⟨by omega, by omega⟩ ⟨by omega, by omega⟩ ⟨by omega, by omega⟩ ⟨by omega, by omega⟩ ⟨by omega, by omega⟩ ⟨by omega, by omega⟩ hi hj hx hli hlj ⟨by omega, by omega⟩ (by omega) (by omega) (by omega) hj2 hF hM)
              · exact fin (jb_f000g_m (by omega) hP hb ⟨by omega, by omega⟩ ⟨by omega, by omega⟩ ⟨by omega, by omega⟩ ⟨by omega, by omega⟩ ⟨by omega, by omega⟩ ⟨by omega, by omega⟩ ⟨by omega, by omega⟩ ⟨by omega, by omega⟩ ⟨by omega, by omega⟩ ⟨by omega, by omega⟩ ⟨by omega, by omega⟩ hi hj hx hli hlj ⟨by omega, by omega⟩ (by omega) (by omega) (by omega) hj2 hF hM)
            | true =>
              rcases Int.lt_or_gt_of_ne hu with h9 | h9
              · exact fin (jb_f100l_m (by omega) hP hb ⟨by omega, by omega⟩ ⟨by omega, by omega⟩ ⟨by omega, by omega⟩ ⟨by omega, by omega⟩ ⟨by omega, by omega⟩ ⟨by omega, by omega⟩ ⟨by omega, by omega⟩ ⟨by omega, by omega⟩ ⟨by omega, by omega⟩ ⟨by omega, by omega⟩ ⟨by omega, by omega⟩ hi hj hx hli hlj ⟨by omega, by omega⟩ (by omega) (by omega) (by omega) hj2 hF hM)
              · exact fin (jb_f100g_m (by omega) hP hb ⟨by omega, by omega⟩ ⟨by omega, by omega⟩ ⟨by omega, by omega⟩ ⟨by omega, by omega⟩ ⟨by omega, by omega⟩ ⟨by omega, by omega⟩ ⟨by omega, by omega⟩ ⟨by omega, by omega⟩ ⟨by omega, by omega⟩ ⟨by omega, by omega⟩ ⟨by omega, by omega⟩ hi hj hx hli hlj ⟨by omega, by omega⟩ (by omega) (by omega) (by omega) hj2 hF hM)
        · by_cases hu : uq n fa j = 98
          · have hok1 : okq n fa j i = false := by
              unfold jb_k at hok
              rw [decide_eq_true hu] at hok
              exact hok
            obtain ⟨hy, hne⟩ := okq_f hok1
            cases hx : xq n fa i with
            | false =>
              rcases Int.lt_or_gt_of_ne hne.symm with h9 | h9
              · exact fin (jb_f010v_m (by omega) hP hb ⟨by omega, by omega⟩ ⟨by omega, by omega⟩ ⟨by omega, by omega⟩ ⟨by omega, by omega⟩ ⟨by omega, by omega⟩ ⟨by omega, by omega⟩ ⟨by omega, by omega⟩ ⟨by omega, by omega⟩ ⟨by omega, by omega⟩ ⟨by omega, by omega⟩ ⟨by omega, by omega⟩ hi hj hx hy hli hlj (by omega) (by omega) (by omega) h9 hu hj2 hF hM)
              · exact fin (jb_f010w_m (by omega) hP hb ⟨by omega, by omega⟩ ⟨by omega, by omega⟩ ⟨by omega, by omega⟩ ⟨by omega, by omega⟩ ⟨by omega, by omega⟩ ⟨by omega, by omega⟩ ⟨by omega, by omega⟩ ⟨by omega, by omega⟩ ⟨by omega, by omega⟩ ⟨by omega, by omega⟩ ⟨by omega, by omega⟩ hi hj hx hy hli hlj (by omega) (by omega) (by omega) h9 hu hj2 hF hM)
            | true =>
              rcases Int.lt_or_gt_of_ne hne.symm with h9 | h9
              · exact fin (jb_f110v_m (by omega) hP hb ⟨by omega, by omega⟩ ⟨by omega, by omega⟩ ⟨by omega, by omega⟩ ⟨by omega, by omega⟩ ⟨by omega, by omega⟩ ⟨by omega, by omega⟩ ⟨by omega, by omega⟩ ⟨by omega, by omega⟩ ⟨by omega, by omega⟩ ⟨by omega, by omega⟩ ⟨by omega, by omega⟩ hi hj hx hy hli hlj (by omega) (by omega) (by omega) h9 hu hj2 hF hM)
              · exact fin (jb_f110w_m (by omega) hP hb ⟨by omega, by omega⟩ ⟨by omega, by omega⟩ ⟨by omega, by omega⟩ ⟨by omega, by omega⟩ ⟨by omega, by omega⟩ ⟨by omega, by omega⟩ ⟨by omega, by omega⟩ ⟨by omega, by omega⟩ ⟨by omega, by omega⟩ ⟨by omega, by omega⟩ ⟨by omega, by omega⟩ hi hj hx hy hli hlj (by omega) (by omega) (by omega) h9 hu hj2 hF hM)
          · have hub := hP.1.u j
            cases hx : xq n fa i with
            | false =>
              rcases Int.lt_or_gt_of_ne hu with h9 | h9
              · exact fin (jb_f010l_m (by omega) hP hb ⟨by omega, by omega⟩ ⟨by omega, by omega⟩ ⟨by omega, by omega⟩ ⟨by omega, by omega⟩ ⟨by omega, by omega⟩ ⟨by omega, by omega⟩ ⟨by omega, by omega⟩ ⟨by omega, by omega⟩ ⟨by omega, by omega⟩ ⟨by omega, by omega⟩ ⟨by omega, by omega⟩ hi hj hx hli hlj ⟨by omega, by omega⟩ (by omega) (by omega) (by omega) hj2 hF hM)
              · exact fin (jb_f010g_m (by omega) hP hb ⟨by omega, by omega⟩ ⟨by omega, by omega⟩ ⟨by omega, by omega⟩ ⟨by omega, by omega⟩ ⟨by omega, by omega⟩ ⟨by omega, by omega⟩ ⟨by omega, by omega⟩ ⟨by omega, by omega⟩ ⟨by omega, by omega⟩ ⟨by omega, by omega⟩ ⟨by omega, by omega⟩ hi hj hx hli hlj ⟨by omega, by omega⟩ (by omega) (by omega) (by omega) hj2 hF hM)
            | true =>
              rcases Int.lt_or_gt_of_ne hu with h9 | h9
              · exact fin (jb_f110l_m (by omega) hP hb ⟨by omega, by omega⟩ ⟨by omega, by omega⟩ ⟨by omega, by omega⟩ ⟨by omega, by omega⟩ ⟨by omega, by omega⟩ ⟨by omega, by omega⟩ ⟨by omega, by omega⟩ ⟨by omega, by omega⟩ ⟨by omega, by omega⟩ ⟨by omega, by omega⟩ ⟨by omega, by omega⟩ hi hj hx hli hlj ⟨by omega, by omega⟩ (by omega) (by omega) (by omega) hj2 hF hM)
              · exact fin (jb_f110g_m (by omega) hP hb ⟨by omega, by omega⟩ ⟨by omega, by omega⟩ ⟨by omega, by omega⟩ ⟨by omega, by omega⟩ ⟨by omega, by omega⟩ ⟨by omega, by omega⟩ ⟨by omega, by omega⟩ ⟨by omega, by omega⟩ ⟨by omega, by omega⟩ ⟨by omega, by omega⟩ ⟨by omega, by omega⟩ hi hj hx hli hlj ⟨by omega, by omega⟩ (by omega) (by omega) (by omega) hj2 hF hM)
      · have hgap := pq_gap (n := n) (fa := fa) (hlj.trans hj5.symm) (by omega) hj4
        have fin : (∃ c', rch c c' ∧ PG jb_Q R b lk ch M0 L xs n fa c' ∧ (jb_FU n k mo be j2 (ct + 1) f rest c'.1) ∧ jb_kH n fa s t i i2 lk nx cu a0 a1 a2 b ch f c'.2) → ∃ c', rch c c' ∧ PG jb_Q R b lk ch M0 L xs n fa c' ∧ (((ek n fa 112 (jb_k n fa i) (j + 1)) = true ∧ ∃ j : Nat, jb_F40 k mo be rest c'.1 ∧ jb_kW n fa s t i j lk nx cu a0 a1 a2 b ch f c'.2) ∨ ((ek n fa 112 (jb_k n fa i) (j + 1)) = false ∧ ∃ ct : Int, (0 ≤ ct ∧ ct ≤ 12) ∧ jb_FUN n k mo be ct f rest c'.1 ∧ jb_kH n fa s t i i2 lk nx cu a0 a1 a2 b ch f c'.2)) := fun ⟨c1, r1, p1, f1, m1⟩ => by
          obtain ⟨c3, r3, p3, b3⟩ := ih j2 c1 (ct + 1) (by omega) p1 f1 m1 ⟨hj4, hj5⟩ (by omega)
          rw [ek_at (by omega) hj2]
          exact ⟨c3, r1.tr r3, p3, b3⟩
        have hj2' := hj4
        rcases hz with rfl | ⟨i2, rfl, hi2⟩
        · by_cases hu : uq n fa j = 98
          · have hok1 : okq n fa j i = false := by
              unfold jb_k at hok
              rw [decide_eq_true hu] at hok
              exact hok
            obtain ⟨hy, hne⟩ := okq_f hok1
            cases hx : xq n fa i with
            | false =>
              rcases Int.lt_or_gt_of_ne hne.symm with h9 | h9
              · exact fin (jb_f001v_m (by omega) hP hb ⟨by omega, by omega⟩ ⟨by omega, by omega⟩ ⟨by omega, by omega⟩ ⟨by omega, by omega⟩ ⟨by omega, by omega⟩ ⟨by omega, by omega⟩ ⟨by omega, by omega⟩ ⟨by omega, by omega⟩ ⟨by omega, by omega⟩ ⟨by omega, by omega⟩ ⟨by omega, by omega⟩ hi hj hj4 hx hy hli hlj (by omega) (by omega) (by omega) h9 hu hj2 hF hM)
              · exact fin (jb_f001w_m (by omega) hP hb ⟨by omega, by omega⟩ ⟨by omega, by omega⟩ ⟨by omega, by omega⟩ ⟨by omega, by omega⟩ ⟨by omega, by omega⟩ ⟨by omega, by omega⟩ ⟨by omega, by omega⟩ ⟨by omega, by omega⟩ ⟨by omega, by omega⟩ ⟨by omega, by omega⟩ ⟨by omega, by omega⟩ hi hj hj4 hx hy hli hlj (by omega) (by omega) (by omega) h9 hu hj2 hF hM)
            | true =>
              rcases Int.lt_or_gt_of_ne hne.symm with h9 | h9
              · exact fin (jb_f101v_m (by omega) hP hb ⟨by omega, by omega⟩ ⟨by omega, by omega⟩ ⟨by omega, by omega⟩ ⟨by omega, by omega⟩ ⟨by omega, by omega⟩ ⟨by omega, by omega⟩ ⟨by omega, by omega⟩ ⟨by omega, by omega⟩ ⟨by omega, by omega⟩ ⟨by omega, by omega⟩ ⟨by omega, by omega⟩ hi hj hj4 hx hy hli hlj (by omega) (by omega) (by omega) h9 hu hj2 hF hM)
              · exact fin (jb_f101w_m (by omega) hP hb ⟨by omega, by omega⟩ ⟨by omega, by omega⟩ ⟨by omega, by omega⟩ ⟨by omega, by omega⟩ ⟨by omega, by omega⟩ ⟨by omega, by omega⟩ ⟨by omega, by omega⟩ ⟨by omega, by omega⟩ ⟨by omega, by omega⟩ ⟨by omega, by omega⟩ ⟨by omega, by omega⟩ hi hj hj4 hx hy hli hlj (by omega) (by omega) (by omega) h9 hu hj2 hF hM)
          · have hub := hP.1.u j
            cases hx : xq n fa i with
            | false =>
              rcases Int.lt_or_gt_of_ne hu with h9 | h9
              · exact fin (jb_f001l_m (by omega) hP hb ⟨by omega, by omega⟩ ⟨by omega, by omega⟩ ⟨by omega, by omega⟩ ⟨by omega, by omega⟩ ⟨by omega, by omega⟩ ⟨by omega, by omega⟩ ⟨by omega, by omega⟩ ⟨by omega, by omega⟩ ⟨by omega, by omega⟩ ⟨by omega, by omega⟩ ⟨by omega, by omega⟩ hi hj hj4 hx hli hlj ⟨by omega, by omega⟩ (by omega) (by omega) (by omega) hj2 hF hM)
              · exact fin (jb_f001g_m (by omega) hP hb ⟨by omega, by omega⟩ ⟨by omega, by omega⟩ ⟨by omega, by omega⟩ ⟨by omega, by omega⟩ ⟨by omega, by omega⟩ ⟨by omega, by omega⟩ ⟨by omega, by omega⟩ ⟨by omega, by omega⟩ ⟨by omega, by omega⟩ ⟨by omega, by omega⟩ ⟨by omega, by omega⟩ hi hj hj4 hx hli hlj ⟨by omega, by omega⟩ (by omega) (by omega) (by omega) hj2 hF hM)
            | true =>
              rcases Int.lt_or_gt_of_ne hu with h9 | h9
              · exact fin (jb_f101l_m (by omega) hP hb ⟨by omega, by omega⟩ ⟨by omega, by omega⟩ ⟨by omega, by omega⟩ ⟨by omega, by omega⟩ ⟨by omega, by omega⟩ ⟨by omega, by omega⟩ ⟨by omega, by omega⟩ ⟨by omega, by omega⟩ ⟨by omega, by omega⟩ ⟨by omega, by omega⟩ ⟨by omega, by omega⟩ hi hj hj4 hx hli hlj ⟨by omega, by omega⟩ (by omega) (by omega) (by omega) hj2 hF hM)
              · exact fin (jb_f101g_m (by omega) hP hb ⟨by omega, by omega⟩ ⟨by omega, by omega⟩ ⟨by omega, by omega⟩ ⟨by omega, by omega⟩ ⟨by omega, by omega⟩ ⟨by omega, by omega⟩ ⟨by omega, by omega⟩ ⟨by omega, by omega⟩ ⟨by omega, by omega⟩ ⟨by omega, by omega⟩ ⟨by omega, by omega⟩ hi hj hj4 hx hli hlj ⟨by omega, by omega⟩ (by omega) (by omega) (by omega) hj2 hF hM)
        · by_cases hu : uq n fa j = 98
          · have hok1 : okq n fa j i = false := by
              unfold jb_k at hok
              rw [decide_eq_true hu] at hok
              exact hok
            obtain ⟨hy, hne⟩ := okq_f hok1
            cases hx : xq n fa i with
            | false =>
              rcases Int.lt_or_gt_of_ne hne.symm with h9 | h9
              · exact fin (jb_f011v_m (by omega) hP hb ⟨by omega, by omega⟩ ⟨by omega, by omega⟩ ⟨by omega, by omega⟩ ⟨by omega, by omega⟩ ⟨by omega, by omega⟩ ⟨by omega, by omega⟩ ⟨by omega, by omega⟩ ⟨by omega, by omega⟩ ⟨by omega, by omega⟩ ⟨by omega, by omega⟩ ⟨by omega, by omega⟩ hi hj hj4 hx hy hli hlj (by omega) (by omega) (by omega) h9 hu hj2 hF hM)
              · exact fin (jb_f011w_m (by omega) hP hb ⟨by omega, by omega⟩ ⟨by omega, by omega⟩ ⟨by omega, by omega⟩ ⟨by omega, by omega⟩ ⟨by omega, by omega⟩ ⟨by omega, by omega⟩ ⟨by omega, by omega⟩ ⟨by omega, by omega⟩ ⟨by omega, by omega⟩ ⟨by omega, by omega⟩ ⟨by omega, by omega⟩ hi hj hj4 hx hy hli hlj (by omega) (by omega) (by omega) h9 hu hj2 hF hM)
            | true =>
              rcases Int.lt_or_gt_of_ne hne.symm with h9 | h9
              · exact fin (jb_f111v_m (by omega) hP hb ⟨by omega, by omega⟩ ⟨by omega, by omega⟩ ⟨by omega, by omega⟩ ⟨by omega, by omega⟩ ⟨by omega, by omega⟩ ⟨by omega, by omega⟩ ⟨by omega, by omega⟩ ⟨by omega, by omega⟩ ⟨by omega, by omega⟩ ⟨by omega, by omega⟩ ⟨by omega, by omega⟩ hi hj hj4 hx hy hli hlj (by omega) (by omega) (by omega) h9 hu hj2 hF hM)
              · exact fin (jb_f111w_m (by omega) hP hb ⟨by omega, by omega⟩ ⟨by omega, by omega⟩ ⟨by omega, by omega⟩ ⟨by omega, by omega⟩ ⟨by omega, by omega⟩ ⟨by omega, by omega⟩ ⟨by omega, by omega⟩ ⟨by omega, by omega⟩ ⟨by omega, by omega⟩ ⟨by omega, by omega⟩ ⟨by omega, by omega⟩ hi hj hj4 hx hy hli hlj (by omega) (by omega) (by omega) h9 hu hj2 hF hM)
          · have hub := hP.1.u j
            cases hx : xq n fa i with
            | false =>
              rcases Int.lt_or_gt_of_ne hu with h9 | h9
              · exact fin (jb_f011l_m (by omega) hP hb ⟨by omega, by omega⟩ ⟨by omega, by omega⟩ ⟨by omega, by omega⟩ ⟨by omega, by omega⟩ ⟨by omega, by omega⟩ ⟨by omega, by omega⟩ ⟨by omega, by omega⟩ ⟨by omega, by omega⟩ ⟨by omega, by omega⟩ ⟨by omega, by omega⟩ ⟨by omega, by omega⟩ hi hj hj4 hx hli hlj ⟨by omega, by omega⟩ (by omega) (by omega) (by omega) hj2 hF hM)
              · exact fin (jb_f011g_m (by omega) hP hb ⟨by omega, by omega⟩ ⟨by omega, by omega⟩ ⟨by omega, by omega⟩ ⟨by omega, by omega⟩ ⟨by omega, by omega⟩ ⟨by omega, by omega⟩ ⟨by omega, by omega⟩ ⟨by omega, by omega⟩ ⟨by omega, by omega⟩ ⟨by omega, by omega⟩ ⟨by omega, by omega⟩ hi hj hj4 hx hli hlj ⟨by omega, by omega⟩ (by omega) (by omega) (by omega) hj2 hF hM)
            | true =>
              rcases Int.lt_or_gt_of_ne hu with h9 | h9
              · exact fin (jb_f111l_m (by omega) hP hb ⟨by omega, by omega⟩ ⟨by omega, by omega⟩ ⟨by omega, by omega⟩ ⟨by omega, by omega⟩ ⟨by omega, by omega⟩ ⟨by omega, by omega⟩ ⟨by omega, by omega⟩ ⟨by omega, by omega⟩ ⟨by omega, by omega⟩ ⟨by omega, by omega⟩ ⟨by omega, by omega⟩ hi hj hj4 hx hli hlj ⟨by omega, by omega⟩ (by omega) (by omega) (by omega) hj2 hF hM)
              · exact fin (jb_f111g_m (by omega) hP hb ⟨by omega, by omega⟩ ⟨by omega, by omega⟩ ⟨by omega, by omega⟩ ⟨by omega, by omega⟩ ⟨by omega, by omega⟩ ⟨by omega, by omega⟩ ⟨by omega, by omega⟩ ⟨by omega, by omega⟩ ⟨by omega, by omega⟩ ⟨by omega, by omega⟩ ⟨by omega, by omega⟩ hi hj hj4 hx hli hlj ⟨by omega, by omega⟩ (by omega) (by omega) (by omega) hj2 hF hM)
theorem jb_AR {R : SyM} {L : Nat} {xs : Nat → Int32} {rest : List MsF} {n : Nat} {fa : Fa} {M0 : Nat → Nat → Value} {k mo be s f lk nx cu a0 a1 a2 b ch : Int} {c : MsC} (hr : rest.length ≤ 15) (hmo : mo = 500) (hb : 0 ≤ b ∧ b ≤ 3) (hlk : 0 ≤ lk ∧ lk ≤ 5) (hnx : -1 ≤ nx ∧ nx ≤ 3) (hcu : 0 ≤ cu ∧ cu ≤ 2) (hch : 0 ≤ ch ∧ ch ≤ 2) (hk : 0 ≤ k ∧ k ≤ 300) (hs : 3 ≤ s ∧ s ≤ 800) (hP : PG jb_Q R b lk ch M0 L xs n fa c) (hF : jb_F15 k mo be rest c.1) (hM : jb_kAR n fa s lk nx cu a0 a1 a2 b ch c.2) : ∃ c', rch c c' ∧ PG jb_Q R b lk ch M0 L xs n fa c' ∧ jb_Z (jb_G n fa) n fa mo be lk nx cu a0 a1 a2 b ch f rest c' := by
  have hn := hP.1.nr
  obtain ⟨c1, r1, p1, f1, m1⟩ := jb_ar_m (by omega) hP hb ⟨by omega, by omega⟩ ⟨by omega, by omega⟩ ⟨by omega, by omega⟩ ⟨by omega, by omega⟩ ⟨by omega, by omega⟩ ⟨by omega, by omega⟩ ⟨by omega, by omega⟩ ⟨by omega, by omega⟩ (by omega) (rule_none (n := n) (fa := fa) 6 115 (by decide)) hF hM
  obtain ⟨i, hi1, hi, hli⟩ := nf_0 (n := n) (fa := fa) (a := 112) (by decide)
  obtain ⟨c2, r2, p2, f2, m2⟩ := jb_t_m (by omega) p1 hb ⟨by omega, by omega⟩ ⟨by omega, by omega⟩ ⟨by omega, by omega⟩ ⟨by omega, by omega⟩ ⟨by omega, by omega⟩ ⟨by omega, by omega⟩ ⟨by omega, by omega⟩ ⟨by omega, by omega⟩ (by omega) hi1 f1 m1
  obtain ⟨c3, r3, p3, b3⟩ := jb_Ul2 (f := f) hr hmo hb hlk hnx hcu hch ⟨by omega, by omega⟩ ⟨by omega, by omega⟩ ⟨by omega, by omega⟩ (n + 2) i c2 0 (by omega) p2 f2 m2 ⟨hi, hli⟩ (by omega)
  unfold jb_G
  rw [ek_at (by omega) hi1]
  exact ⟨c3, r1.tr (r2.tr r3), p3, b3⟩
theorem jb_Ql {R : SyM} {L : Nat} {xs : Nat → Int32} {rest : List MsF} {n : Nat} {fa : Fa} {M0 : Nat → Nat → Value} {mo be f lk nx cu a0 a1 a2 b ch : Int} (hr : rest.length ≤ 15) (hmo : mo = 500) (hb : 0 ≤ b ∧ b ≤ 3) (hlk : 0 ≤ lk ∧ lk ≤ 5) (hnx : -1 ≤ nx ∧ nx ≤ 3) (hcu : 0 ≤ cu ∧ cu ≤ 2) (hch : 0 ≤ ch ∧ ch ≤ 2) (hf : 1 ≤ f ∧ f ≤ 8) : ∀ (d i : Nat) (k s : Int) (i2 : Int) (c : MsC), n + 2 ≤ i + d → (0 ≤ k ∧ k ≤ 2 * (i : Int) + 10) → (f < s ∧ s ≤ 2 * (i : Int) + 20) → PG jb_Q R b lk ch M0 L xs n fa c → jb_F15 k mo be rest c.1 → jb_kQ n fa s i i2 lk nx cu a0 a1 a2 b ch f c.2 → i < n + 2 ∧ lt n fa i = 113 → nf n fa 113 (i + 1) = i2 → ∃ c', rch c c' ∧ PG jb_Q R b lk ch M0 L xs n fa c' ∧ jb_Z ((jb_E n fa i || ek n fa 113 (jb_E n fa) (i + 1)) || jb_G n fa) n fa mo be lk nx cu a0 a1 a2 b ch f rest c' := by
  intro d
  induction d with
  | zero => intro i k s i2 c hd hk hs hP hF hM hj; omega
  | succ d ih =>
    intro i k s i2 c hd hk hs hP hF hM hii hnf
    obtain ⟨hi, hli⟩ := hii
    have hn := hP.1.nr
    have hz := (nf_c (n := n) (fa := fa) (a := 113) (by decide) (i + 1) (by omega))
    rw [hnf] at hz
    obtain ⟨j, hj1, hj, hlj⟩ := nf_0 (n := n) (fa := fa) (a := 112) (by decide)
    have hE : jb_E n fa i = (jb_k n fa i j || ek n fa 112 (jb_k n fa i) (j + 1)) := ek_at (by omega) hj1
    have pop : ∀ (mid : List MsF) (c1 : MsC), rch c c1 → PG jb_Q R b lk ch M0 L xs n fa c1 → jb_F41 k mo be rest mid → jb_FS mid c1.1 → ∃ c3, rch c c3 ∧ PG jb_Q R b lk ch M0 L xs n fa c3 ∧ jb_F15 (k + 1) mo be rest c3.1 ∧ sy_sm c1.2 c3.2 := fun mid c1 r1 p1 f3 f1 => by
      obtain ⟨c2, r2, e1, e2⟩ := se_pop (c := c1) (mid := mid) f1 f3
      have p2 : PG jb_Q R b lk ch M0 L xs n fa c2 := ⟨p1.1.mem e2, fun q j h => by rw [e2]; exact p1.2 q j h⟩
      obtain ⟨c3, r3, f4, s3, e3⟩ := fz_m (c := c2) (rest := rest) (k := k) (mo := mo) (be := be) (by omega) p2.1.E (by omega) (by rw [e1]; exact f3)
      exact ⟨c3, r1.tr (r2.tr r3), ⟨p2.1.sm s3 e3, p2.2.sm p2.1.top s3⟩, f4, by rw [← e2]; exact s3⟩
    have ml : ∀ mid : List MsF, jb_F41 k mo be rest mid → mid.length ≤ 16 := fun mid h => by
      have := sy_Fs.len h
      have : mid.length = 1 + rest.length := this
      omega
    have hk9 := hk
    have hk : 0 ≤ k ∧ k ≤ 400 := by omega
    have fin0 : ∀ c1 : MsC, rch c c1 → PG jb_Q R b lk ch M0 L xs n fa c1 → (jb_E n fa i = true ∧ ∃ j : Nat, jb_F40 k mo be rest c1.1 ∧ jb_kW n fa (s + 1) s i j lk nx cu a0 a1 a2 b ch f c1.2) → ∃ c', rch c c' ∧ PG jb_Q R b lk ch M0 L xs n fa c' ∧ jb_Z ((jb_E n fa i || ek n fa 113 (jb_E n fa) (i + 1)) || jb_G n fa) n fa mo be lk nx cu a0 a1 a2 b ch f rest c' := fun c1 r1 p1 ⟨g1, j, g2, g3⟩ => ⟨c1, r1, p1, Or.inl ⟨by rw [g1]; rfl, k, s + 1, s, i, j, hk, ⟨by omega, by omega⟩, ⟨by omega, by omega⟩, g2, Or.inl ⟨by omega, hi, g3⟩⟩⟩
    rcases hz with rfl | ⟨i2, rfl, hz1, hi2, hz2⟩
    · have fin : ∀ c1 : MsC, rch c c1 → PG jb_Q R b lk ch M0 L xs n fa c1 → ((jb_E n fa i = true ∧ ∃ j : Nat, jb_F40 k mo be rest c1.1 ∧ jb_kW n fa (s + 1) s i j lk nx cu a0 a1 a2 b ch f c1.2) ∨ (jb_E n fa i = false ∧ ∃ c', rch c1 c' ∧ PG jb_Q R b lk ch M0 L xs n fa c' ∧ (∃ mid, jb_F41 k mo be rest mid ∧ jb_FGR n 0 b ch mid c'.1) ∧ jb_kGR n fa (s + 1) lk nx cu a0 a1 a2 b ch c'.2)) → ∃ c', rch c c' ∧ PG jb_Q R b lk ch M0 L xs n fa c' ∧ jb_Z ((jb_E n fa i || ek n fa 113 (jb_E n fa) (i + 1)) || jb_G n fa) n fa mo be lk nx cu a0 a1 a2 b ch f rest c' := fun c1 r1 p1 h => by
        rcases h with h | ⟨g1, c3, r3, p3, ⟨mid, f3, f4⟩, m3⟩
        · exact fin0 c1 r1 p1 h
        · have hml := ml mid f3
          obtain ⟨c4, r4, p4, f5, m4⟩ := jb_gr_m (by omega) p3 hb ⟨by omega, by omega⟩ ⟨by omega, by omega⟩ ⟨by omega, by omega⟩ ⟨by omega, by omega⟩ ⟨by omega, by omega⟩ ⟨by omega, by omega⟩ ⟨by omega, by omega⟩ f4 m3
          obtain ⟨c5, r5, p5, f6, s5⟩ := pop mid c4 (r1.tr (r3.tr r4)) p4 f3 f5
          have m6 : jb_kAR n fa (s + 1 + 1) lk nx cu a0 a1 a2 b ch c5.2 := mm.sm m4 s5
          obtain ⟨c6, r6, p6, b6⟩ := jb_AR (f := f) hr hmo hb hlk hnx hcu hch ⟨by omega, by omega⟩ ⟨by omega, by omega⟩ p5 f6 m6
          rw [g1, ek_none hnf]
          exact ⟨c6, r5.tr r6, p6, b6⟩
      have go : (∃ c', rch c c' ∧ PG jb_Q R b lk ch M0 L xs n fa c' ∧ (jb_FU n k mo be j 0 f rest c'.1) ∧ jb_kH n fa (s + 1) s i (-1) lk nx cu a0 a1 a2 b ch f c'.2) → ∃ c', rch c c' ∧ PG jb_Q R b lk ch M0 L xs n fa c' ∧ jb_Z ((jb_E n fa i || ek n fa 113 (jb_E n fa) (i + 1)) || jb_G n fa) n fa mo be lk nx cu a0 a1 a2 b ch f rest c' := fun ⟨c1, r1, p1, f1, m1⟩ => by
        obtain ⟨c2, r2, p2, b2⟩ := jb_Il hr hmo hb hlk hnx hcu hch hk ⟨by omega, by omega⟩ ⟨by omega, by omega⟩ ⟨by omega, by omega⟩ hi hli (Or.inl rfl) (n + 2) j c1 0 (by omega) p1 f1 m1 ⟨hj, hlj⟩ (by omega)
        refine fin c2 (r1.tr r2) p2 ?_
        rw [hE]
        rcases b2 with ⟨g1, j, g2, g3⟩ | ⟨g1, ct, g2, g3, g4⟩
        · exact Or.inl ⟨g1, j, g2, g3⟩
        · refine Or.inr ⟨g1, ?_⟩
          cases hx : xq n fa i with
          | false => exact jb_e00_m (by omega) p2 hb ⟨by omega, by omega⟩ ⟨by omega, by omega⟩ ⟨by omega, by omega⟩ ⟨by omega, by omega⟩ ⟨by omega, by omega⟩ ⟨by omega, by omega⟩ ⟨by omega, by omega⟩ ⟨by omega, by omega⟩ ⟨by omega, by omega⟩ ⟨by omega, by omega⟩ ⟨by omega, by omega⟩ hi hx hli (by omega) (by omega) (by omega) g3 g4
          | true => exact jb_e10_m (by omega) p2 hb ⟨by omega, by omega⟩ ⟨by omega, by omega⟩ ⟨by omega, by omega⟩ ⟨by omega, by omega⟩ ⟨by omega, by omega⟩ ⟨by omega, by omega⟩ ⟨by omega, by omega⟩ ⟨by omega, by omega⟩ ⟨by omega, by omega⟩ ⟨by omega, by omega⟩ ⟨by omega, by omega⟩ hi hx hli (by omega) (by omega) (by omega) g3 g4
      cases hx : xq n fa i with
      | false => exact go (jb_q00_m (by omega) hP hb ⟨by omega, by omega⟩ ⟨by omega, by omega⟩ ⟨by omega, by omega⟩ ⟨by omega, by omega⟩ ⟨by omega, by omega⟩ ⟨by omega, by omega⟩ ⟨by omega, by omega⟩ ⟨by omega, by omega⟩ ⟨by omega, by omega⟩ hi hx hli (by omega) (by omega) hj1 hF hM)
      | true => exact go (jb_q10_m (by omega) hP hb ⟨by omega, by omega⟩ ⟨by omega, by omega⟩ ⟨by omega, by omega⟩ ⟨by omega, by omega⟩ ⟨by omega, by omega⟩ ⟨by omega, by omega⟩ ⟨by omega, by omega⟩ ⟨by omega, by omega⟩ ⟨by omega, by omega⟩ hi hx hli (by omega) (by omega) hj1 hF hM)
    · have fin : ∀ c1 : MsC, rch c c1 → PG jb_Q R b lk ch M0 L xs n fa c1 → ((jb_E n fa i = true ∧ ∃ j : Nat, jb_F40 k mo be rest c1.1 ∧ jb_kW n fa (s + 1) s i j lk nx cu a0 a1 a2 b ch f c1.2) ∨ (jb_E n fa i = false ∧ ∃ c', rch c1 c' ∧ PG jb_Q R b lk ch M0 L xs n fa c' ∧ (∃ mid, jb_F41 k mo be rest mid ∧ jb_FGP n i2 0 ch f mid c'.1) ∧ jb_kGP n fa (s + 1) lk nx cu a0 a1 a2 b ch f c'.2)) → ∃ c', rch c c' ∧ PG jb_Q R b lk ch M0 L xs n fa c' ∧ jb_Z ((jb_E n fa i || ek n fa 113 (jb_E n fa) (i + 1)) || jb_G n fa) n fa mo be lk nx cu a0 a1 a2 b ch f rest c' := fun c1 r1 p1 h => by
        rcases h with h | ⟨g1, c3, r3, p3, ⟨mid, f3, f4⟩, m3⟩
        · exact fin0 c1 r1 p1 h
        · have hml := ml mid f3
          have gpq : ∃ c', rch c3 c' ∧ PG jb_Q R b lk ch M0 L xs n fa c' ∧ (jb_FS mid c'.1) ∧ jb_kAP n fa (s + 1 + 1) i2 lk nx cu a0 a1 a2 b ch f c'.2 := by
            cases hx9 : xq n fa i2 with
            | false => exact jb_gp0_m (by omega) p3 hb ⟨by omega, by omega⟩ ⟨by omega, by omega⟩ ⟨by omega, by omega⟩ ⟨by omega, by omega⟩ ⟨by omega, by omega⟩ ⟨by omega, by omega⟩ ⟨by omega, by omega⟩ ⟨by omega, by omega⟩ hi2 hx9 hz2 (by omega) f4 m3
            | true => exact jb_gp1_m (by omega) p3 hb ⟨by omega, by omega⟩ ⟨by omega, by omega⟩ ⟨by omega, by omega⟩ ⟨by omega, by omega⟩ ⟨by omega, by omega⟩ ⟨by omega, by omega⟩ ⟨by omega, by omega⟩ ⟨by omega, by omega⟩ hi2 hx9 hz2 (by omega) f4 m3
          obtain ⟨c4, r4, p4, f5, m4⟩ := gpq
          obtain ⟨c5, r5, p5, f6, s5⟩ := pop mid c4 (r1.tr (r3.tr r4)) p4 f3 f5
          have m6 : jb_kAP n fa (s + 1 + 1) i2 lk nx cu a0 a1 a2 b ch f c5.2 := mm.sm m4 s5
          have hz9 := (nf_c (n := n) (fa := fa) (a := 113) (by decide) (i2 + 1) (by omega))
          generalize hnf9 : nf n fa 113 (i2 + 1) = i9 at hz9
          rw [g1, Bool.false_or, ek_at (by omega) hnf]
          have fin9 : (∃ c', rch c5 c' ∧ PG jb_Q R b lk ch M0 L xs n fa c' ∧ (jb_F15 (k + 1 + 1) mo be rest c'.1) ∧ jb_kQ n fa (s + 1 + 1) i2 i9 lk nx cu a0 a1 a2 b ch f c'.2) → ∃ c', rch c c' ∧ PG jb_Q R b lk ch M0 L xs n fa c' ∧ jb_Z ((jb_E n fa i2 || ek n fa 113 (jb_E n fa) (i2 + 1)) || jb_G n fa) n fa mo be lk nx cu a0 a1 a2 b ch f rest c' := fun ⟨c6, r6, p6, f7, m7⟩ => by
            obtain ⟨c7, r7, p7, b7⟩ := ih i2 (k + 1 + 1) (s + 1 + 1) i9 c6 (by omega) ⟨by omega, by omega⟩ ⟨by omega, by omega⟩ p6 f7 m7 ⟨hi2, hz2⟩ hnf9
            exact ⟨c7, r5.tr (r6.tr r7), p7, b7⟩
          rcases hz9 with rfl | ⟨i8, rfl, hz81, hi28, hz82⟩
          · cases hx9 : xq n fa i2 with
            | false => exact fin9 (jb_ap00_m (by omega) p5 hb ⟨by omega, by omega⟩ ⟨by omega, by omega⟩ ⟨by omega, by omega⟩ ⟨by omega, by omega⟩ ⟨by omega, by omega⟩ ⟨by omega, by omega⟩ ⟨by omega, by omega⟩ ⟨by omega, by omega⟩ ⟨by omega, by omega⟩ hi2 hx9 hz2 (by omega) (by omega) hnf9 f6 m6)
            | true => exact fin9 (jb_ap10_m (by omega) p5 hb ⟨by omega, by omega⟩ ⟨by omega, by omega⟩ ⟨by omega, by omega⟩ ⟨by omega, by omega⟩ ⟨by omega, by omega⟩ ⟨by omega, by omega⟩ ⟨by omega, by omega⟩ ⟨by omega, by omega⟩ ⟨by omega, by omega⟩ hi2 hx9 hz2 (by omega) (by omega) hnf9 f6 m6)
          · cases hx9 : xq n fa i2 with
            | false => exact fin9 (jb_ap01_m (by omega) p5 hb ⟨by omega, by omega⟩ ⟨by omega, by omega⟩ ⟨by omega, by omega⟩ ⟨by omega, by omega⟩ ⟨by omega, by omega⟩ ⟨by omega, by omega⟩ ⟨by omega, by omega⟩ ⟨by omega, by omega⟩ ⟨by omega, by omega⟩ hi2 hi28 hx9 hz2 (by omega) (by omega) hnf9 f6 m6)
            | true => exact fin9 (jb_ap11_m (by omega) p5 hb ⟨by omega, by omega⟩ ⟨by omega, by omega⟩ ⟨by omega, by omega⟩ ⟨by omega, by omega⟩ ⟨by omega, by omega⟩ ⟨by omega, by omega⟩ ⟨by omega, by omega⟩ ⟨by omega, by omega⟩ ⟨by omega, by omega⟩ hi2 hi28 hx9 hz2 (by omega) (by omega) hnf9 f6 m6)
      have go : (∃ c', rch c c' ∧ PG jb_Q R b lk ch M0 L xs n fa c' ∧ (jb_FU n k mo be j 0 f rest c'.1) ∧ jb_kH n fa (s + 1) s i (i2 : Int) lk nx cu a0 a1 a2 b ch f c'.2) → ∃ c', rch c c' ∧ PG jb_Q R b lk ch M0 L xs n fa c' ∧ jb_Z ((jb_E n fa i || ek n fa 113 (jb_E n fa) (i + 1)) || jb_G n fa) n fa mo be lk nx cu a0 a1 a2 b ch f rest c' := fun ⟨c1, r1, p1, f1, m1⟩ => by
        obtain ⟨c2, r2, p2, b2⟩ := jb_Il hr hmo hb hlk hnx hcu hch hk ⟨by omega, by omega⟩ ⟨by omega, by omega⟩ ⟨by omega, by omega⟩ hi hli (Or.inr ⟨_, rfl, hi2⟩) (n + 2) j c1 0 (by omega) p1 f1 m1 ⟨hj, hlj⟩ (by omega)
        refine fin c2 (r1.tr r2) p2 ?_
        rw [hE]
        rcases b2 with ⟨g1, j, g2, g3⟩ | ⟨g1, ct, g2, g3, g4⟩
        · exact Or.inl ⟨g1, j, g2, g3⟩
        · refine Or.inr ⟨g1, ?_⟩
          cases hx : xq n fa i with
          | false => exact jb_e01_m (by omega) p2 hb ⟨by omega, by omega⟩ ⟨by omega, by omega⟩ ⟨by omega, by omega⟩ ⟨by omega, by omega⟩ ⟨by omega, by omega⟩ ⟨by omega, by omega⟩ ⟨by omega, by omega⟩ ⟨by omega, by omega⟩ ⟨by omega, by omega⟩ ⟨by omega, by omega⟩ ⟨by omega, by omega⟩ hi hi2 hx hli (by omega) (by omega) (by omega) g3 g4
          | true => exact jb_e11_m (by omega) p2 hb ⟨by omega, by omega⟩ ⟨by omega, by omega⟩ ⟨by omega, by omega⟩ ⟨by omega, by omega⟩ ⟨by omega, by omega⟩ ⟨by omega, by omega⟩ ⟨by omega, by omega⟩ ⟨by omega, by omega⟩ ⟨by omega, by omega⟩ ⟨by omega, by omega⟩ ⟨by omega, by omega⟩ hi hi2 hx hli (by omega) (by omega) (by omega) g3 g4
      cases hx : xq n fa i with
      | false => exact go (jb_q01_m (by omega) hP hb ⟨by omega, by omega⟩ ⟨by omega, by omega⟩ ⟨by omega, by omega⟩ ⟨by omega, by omega⟩ ⟨by omega, by omega⟩ ⟨by omega, by omega⟩ ⟨by omega, by omega⟩ ⟨by omega, by omega⟩ ⟨by omega, by omega⟩ hi hx hli (by omega) (by omega) hj1 hF hM)
      | true => exact go (jb_q11_m (by omega) hP hb ⟨by omega, by omega⟩ ⟨by omega, by omega⟩ ⟨by omega, by omega⟩ ⟨by omega, by omega⟩ ⟨by omega, by omega⟩ ⟨by omega, by omega⟩ ⟨by omega, by omega⟩ ⟨by omega, by omega⟩ ⟨by omega, by omega⟩ hi hx hli (by omega) (by omega) hj1 hF hM)
theorem jb_run {R : SyM} {L : Nat} {xs : Nat → Int32} {rest : List MsF} {n : Nat} {fa : Fa} {M0 : Nat → Nat → Value} {k mo be f lk nx cu a0 a1 a2 b ch : Int} {c : MsC} (hr : rest.length ≤ 15) (hmo : mo = 500) (hb : 0 ≤ b ∧ b ≤ 3) (hlk : 0 ≤ lk ∧ lk ≤ 5) (hnx : -1 ≤ nx ∧ nx ≤ 3) (hcu : 0 ≤ cu ∧ cu ≤ 2) (hch : 0 ≤ ch ∧ ch ≤ 2) (hk : 0 ≤ k ∧ k ≤ 8) (hf : 1 ≤ f ∧ f ≤ 8) (hP : PG jb_Q R b lk ch M0 L xs n fa c) (hF : jb_F15 k mo be rest c.1) (hM : jb_kA0 n fa lk nx cu a0 a1 a2 b ch f c.2) : ∃ c', rch c c' ∧ PG jb_Q R b lk ch M0 L xs n fa c' ∧ jb_Z (ek n fa 113 (jb_E n fa) 0 || jb_G n fa) n fa mo be lk nx cu a0 a1 a2 b ch f rest c' := by
  have hn := hP.1.nr
  obtain ⟨c1, r1, p1, f1, m1⟩ := jb_r1_m (by omega) hP hb ⟨by omega, by omega⟩ ⟨by omega, by omega⟩ ⟨by omega, by omega⟩ ⟨by omega, by omega⟩ ⟨by omega, by omega⟩ ⟨by omega, by omega⟩ ⟨by omega, by omega⟩ ⟨by omega, by omega⟩ (by omega) (rule_first (n := n) (fa := fa) hP.1.f 4 115 (by decide) (by decide) (by decide)) (rule_here (n := n) (fa := fa) 5 115 (by decide) (by decide)) hF hM
  obtain ⟨i, hi1, hi, hli⟩ := nf_0 (n := n) (fa := fa) (a := 113) (by decide)
  have hz9 := (nf_c (n := n) (fa := fa) (a := 113) (by decide) (i + 1) (by omega))
  generalize hnf9 : nf n fa 113 (i + 1) = i9 at hz9
  rw [ek_at (by omega) hi1]
  have fin9 : (∃ c', rch c1 c' ∧ PG jb_Q R b lk ch M0 L xs n fa c' ∧ (jb_F15 (k + 1 + 1) mo be rest c'.1) ∧ jb_kQ n fa (f + 1) i i9 lk nx cu a0 a1 a2 b ch f c'.2) → ∃ c', rch c c' ∧ PG jb_Q R b lk ch M0 L xs n fa c' ∧ jb_Z ((jb_E n fa i || ek n fa 113 (jb_E n fa) (i + 1)) || jb_G n fa) n fa mo be lk nx cu a0 a1 a2 b ch f rest c' := fun ⟨c6, r6, p6, f7, m7⟩ => by
    obtain ⟨c7, r7, p7, b7⟩ := jb_Ql hr hmo hb hlk hnx hcu hch hf (n + 2) i (k + 1 + 1) (f + 1) i9 c6 (by omega) ⟨by omega, by omega⟩ ⟨by omega, by omega⟩ p6 f7 m7 ⟨hi, hli⟩ hnf9
    exact ⟨c7, r1.tr (r6.tr r7), p7, b7⟩
  rcases hz9 with rfl | ⟨i8, rfl, hz81, hi28, hz82⟩
  · cases hx9 : xq n fa i with
    | false => exact fin9 (jb_p00_m (by omega) p1 hb ⟨by omega, by omega⟩ ⟨by omega, by omega⟩ ⟨by omega, by omega⟩ ⟨by omega, by omega⟩ ⟨by omega, by omega⟩ ⟨by omega, by omega⟩ ⟨by omega, by omega⟩ ⟨by omega, by omega⟩ ⟨by omega, by omega⟩ hi hx9 hli (by omega) (by omega) hi1 hnf9 f1 m1)
    | true => exact fin9 (jb_p10_m (by omega) p1 hb ⟨by omega, by omega⟩ ⟨by omega, by omega⟩ ⟨by omega, by omega⟩ ⟨by omega, by omega⟩ ⟨by omega, by omega⟩ ⟨by omega, by omega⟩ ⟨by omega, by omega⟩ ⟨by omega, by omega⟩ ⟨by omega, by omega⟩ hi hx9 hli (by omega) (by omega) hi1 hnf9 f1 m1)
  · cases hx9 : xq n fa i with
    | false => exact fin9 (jb_p01_m (by omega) p1 hb ⟨by omega, by omega⟩ ⟨by omega, by omega⟩ ⟨by omega, by omega⟩ ⟨by omega, by omega⟩ ⟨by omega, by omega⟩ ⟨by omega, by omega⟩ ⟨by omega, by omega⟩ ⟨by omega, by omega⟩ ⟨by omega, by omega⟩ hi hi28 hx9 hli (by omega) (by omega) hi1 hnf9 f1 m1)
    | true => exact fin9 (jb_p11_m (by omega) p1 hb ⟨by omega, by omega⟩ ⟨by omega, by omega⟩ ⟨by omega, by omega⟩ ⟨by omega, by omega⟩ ⟨by omega, by omega⟩ ⟨by omega, by omega⟩ ⟨by omega, by omega⟩ ⟨by omega, by omega⟩ ⟨by omega, by omega⟩ hi hi28 hx9 hli (by omega) (by omega) hi1 hnf9 f1 m1)
