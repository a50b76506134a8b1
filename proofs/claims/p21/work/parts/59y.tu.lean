/-! PHASE F (written by wip/p21/gU.py). -/
def ja_k (n : Nat) (fa : Fa) (i j : Nat) : Bool := okq n fa i j && (xq n fa j || decide (vq n fa j = 97))
def ja_E (n : Nat) (fa : Fa) (i : Nat) : Bool := ek n fa 113 (ja_k n fa i) 0
def ja_2 (n : Nat) (fa : Fa) (i : Nat) : Bool := decide (uq n fa i = 97) && (xq n fa i || decide (vq n fa i = 97))
def ja_G (n : Nat) (fa : Fa) : Bool := ek n fa 112 (ja_2 n fa) 0
def ja_Z (good : Bool) (n : Nat) (fa : Fa) (mo be lk nx cu a0 a1 a2 b ch f : Int) (rest : List MsF) (c : MsC) : Prop := (good = true ∧ ∃ (k s t : Int) (i j : Nat), (0 ≤ k ∧ k ≤ 400) ∧ (3 ≤ s ∧ s ≤ 900) ∧ (1 ≤ t ∧ t < s) ∧ ja_F40 k mo be rest c.1 ∧ ((f < t ∧ i < n + 2 ∧ ja_kW n fa s t i j lk nx cu a0 a1 a2 b ch f c.2) ∨ ja_kW2 n fa s t i lk nx cu a0 a1 a2 b ch c.2)) ∨ (good = false ∧ ∃ (k s t : Int), (0 ≤ k ∧ k ≤ 400) ∧ (3 ≤ s ∧ s ≤ 900) ∧ (1 ≤ t ∧ t < s) ∧ (∃ mid, ja_F41 k mo be rest mid ∧ ja_FX 0 mid c.1) ∧ ja_kFK n fa s t lk nx cu a0 a1 a2 b ch c.2)
theorem ja_Ul2 {R : SyM} {L : Nat} {xs : Nat → Int32} {rest : List MsF} {n : Nat} {fa : Fa} {M0 : Nat → Nat → Value} {k mo be s t f lk nx cu a0 a1 a2 b ch : Int} (hr : rest.length ≤ 15) (hmo : mo = 500) (hb : 0 ≤ b ∧ b ≤ 3) (hlk : 0 ≤ lk ∧ lk ≤ 5) (hnx : -1 ≤ nx ∧ nx ≤ 3) (hcu : 0 ≤ cu ∧ cu ≤ 2) (hch : 0 ≤ ch ∧ ch ≤ 2) (hk : 0 ≤ k ∧ k ≤ 400) (hs : 3 ≤ s ∧ s ≤ 900) (ht : 1 ≤ t ∧ t < s) : ∀ (d i : Nat) (c : MsC) (ct : Int), n + 2 ≤ i + d → PG ja_Q R b lk ch M0 L xs n fa c → ja_FU2 n k mo be t i ct rest c.1 → ja_kH2 n fa s t lk nx cu a0 a1 a2 b ch c.2 → i < n + 2 ∧ lt n fa i = 112 → 0 ≤ ct ∧ ct ≤ i ∧ ct ≤ n → ∃ c', rch c c' ∧ PG ja_Q R b lk ch M0 L xs n fa c' ∧ ja_Z (ja_2 n fa i || ek n fa 112 (ja_2 n fa) (i + 1)) n fa mo be lk nx cu a0 a1 a2 b ch f rest c' := by
  intro d
  induction d with
  | zero => intro i c ct hd hP hF hM hj; omega
  | succ d ih =>
    intro i c ct hd hP hF hM hii hct
    obtain ⟨hi, hli⟩ := hii
    have hn := hP.1.nr
    have hw := (nf_c (n := n) (fa := fa) (a := 112) (by decide) (i + 1) (by omega))
    cases hok : ja_2 n fa i with
    | true =>
      rw [Bool.true_or]
      have hu : uq n fa i = 97 := by
        unfold ja_2 at hok
        exact of_decide_eq_true (Bool.and_eq_true_iff.mp hok).1
      have hv' : xq n fa i = false → vq n fa i = 97 := fun hx => by
        unfold ja_2 at hok
        have := (Bool.and_eq_true_iff.mp hok).2
        rw [hx] at this
        exact of_decide_eq_true this
      suffices fin9 : (∃ c', rch c c' ∧ PG ja_Q R b lk ch M0 L xs n fa c' ∧ (ja_F40 k mo be rest c'.1) ∧ ja_kW2 n fa s t i lk nx cu a0 a1 a2 b ch c'.2) by
        obtain ⟨c', r1, p1, f1, m1⟩ := fin9
        exact ⟨c', r1, p1, Or.inl ⟨rfl, k, s, t, i, 0, hk, hs, ht, f1, Or.inr m1⟩⟩
      have fin : (∃ c', rch c c' ∧ PG ja_Q R b lk ch M0 L xs n fa c' ∧ (ja_F40 k mo be rest c'.1) ∧ ja_kW2 n fa s t i lk nx cu a0 a1 a2 b ch c'.2) → (∃ c', rch c c' ∧ PG ja_Q R b lk ch M0 L xs n fa c' ∧ (ja_F40 k mo be rest c'.1) ∧ ja_kW2 n fa s t i lk nx cu a0 a1 a2 b ch c'.2) := fun h => h
      rcases hw with hj2 | ⟨i2, hj2, hj3, hi2, hj5⟩
      · cases hx : xq n fa i with
        | false =>
          have hv := hv' hx
          exact fin (ja_ts00_m (by omega) hP hb ⟨by omega, by omega⟩ ⟨by omega, by omega⟩ ⟨by omega, by omega⟩ ⟨by omega, by omega⟩ ⟨by omega, by omega⟩ ⟨by omega, by omega⟩ ⟨by omega, by omega⟩ ⟨by omega, by omega⟩ ⟨by omega, by omega⟩ ⟨by omega, by omega⟩ hi hx hli (by omega) hu hv hj2 hF hM)
        | true => exact fin (ja_ts10_m (by omega) hP hb ⟨by omega, by omega⟩ ⟨by omega, by omega⟩ ⟨by omega, by omega⟩ ⟨by omega, by omega⟩ ⟨by omega, by omega⟩ ⟨by omega, by omega⟩ ⟨by omega, by omega⟩ ⟨by omega, by omega⟩ ⟨by omega, by omega⟩ ⟨by omega, by omega⟩ hi hx hli (by omega) hu hj2 hF hM)
      · cases hx : xq n fa i with
        | false =>
          have hv := hv' hx
          exact fin (ja_ts01_m (by omega) hP hb ⟨by omega, by omega⟩ ⟨by omega, by omega⟩ ⟨by omega, by omega⟩ ⟨by omega, by omega⟩ ⟨by omega, by omega⟩ ⟨by omega, by omega⟩ ⟨by omega, by omega⟩ ⟨by omega, by omega⟩ ⟨by omega, by omega⟩ ⟨by omega, by omega⟩ hi hi2 hx hli (by omega) hu hv hj2 hF hM)
        | true => exact fin (ja_ts11_m (by omega) hP hb ⟨by omega, by omega⟩ ⟨by omega, by omega⟩ ⟨by omega, by omega⟩ ⟨by omega, by omega⟩ ⟨by omega, by omega⟩ ⟨by omega, by omega⟩ ⟨by omega, by omega⟩ ⟨by omega, by omega⟩ ⟨by omega, by omega⟩ ⟨by omega, by omega⟩ hi hi2 hx hli (by omega) hu hj2 hF hM)
    | false =>
      rw [Bool.false_or]
      rcases hw with hj2 | ⟨i2, hj2, hj3, hi2, hj5⟩
      · have fin : (∃ c', rch c c' ∧ PG ja_Q R b lk ch M0 L xs n fa c' ∧ (ja_FU2N n k mo be t (ct + 1) rest c'.1) ∧ ja_kH2 n fa s t lk nx cu a0 a1 a2 b ch c'.2) → ∃ c', rch c c' ∧ PG ja_Q R b lk ch M0 L xs n fa c' ∧ ja_Z (ek n fa 112 (ja_2 n fa) (i + 1)) n fa mo be lk nx cu a0 a1 a2 b ch f rest c' := fun ⟨c1, r1, p1, f1, m1⟩ => by
          obtain ⟨c2, r2, p2, f2, m2⟩ := ja_te_m (by omega) p1 hb ⟨by omega, by omega⟩ ⟨by omega, by omega⟩ ⟨by omega, by omega⟩ ⟨by omega, by omega⟩ ⟨by omega, by omega⟩ ⟨by omega, by omega⟩ ⟨by omega, by omega⟩ ⟨by omega, by omega⟩ ⟨by omega, by omega⟩ ⟨by omega, by omega⟩ (by omega) f1 m1
          exact ⟨c2, r1.tr r2, p2, Or.inr ⟨ek_none hj2, k, s, t, hk, hs, ht, f2, m2⟩⟩
        by_cases hu : uq n fa i = 97
        · have hx : xq n fa i = false ∧ vq n fa i ≠ 97 := by
            unfold ja_2 at hok
            rw [decide_eq_true hu] at hok
            rcases hx : xq n fa i with _ | _
            · rw [hx] at hok
              exact ⟨rfl, of_decide_eq_false hok⟩
            · rw [hx] at hok
              cases hok
          obtain ⟨hx, hv⟩ := hx
          have hvb := hP.1.v i hx
          exact fin (ja_tf0w_m (by omega) hP hb ⟨by omega, by omega⟩ ⟨by omega, by omega⟩ ⟨by omega, by omega⟩ ⟨by omega, by omega⟩ ⟨by omega, by omega⟩ ⟨by omega, by omega⟩ ⟨by omega, by omega⟩ ⟨by omega, by omega⟩ ⟨by omega, by omega⟩ ⟨by omega, by omega⟩ hi hx hli ⟨by omega, by omega⟩ (by omega) hu hj2 hF hM)
        · have hub := hP.1.u i
          exact fin (ja_tf0g_m (by omega) hP hb ⟨by omega, by omega⟩ ⟨by omega, by omega⟩ ⟨by omega, by omega⟩ ⟨by omega, by omega⟩ ⟨by omega, by omega⟩ ⟨by omega, by omega⟩ ⟨by omega, by omega⟩ ⟨by omega, by omega⟩ ⟨by omega, by omega⟩ ⟨by omega, by omega⟩ hi hli ⟨by omega, by omega⟩ (by omega) hj2 hF hM)
      · have hgap := pq_gap (n := n) (fa := fa) (hli.trans hj5.symm) (by omega) hi2
        have fin : (∃ c', rch c c' ∧ PG ja_Q R b lk ch M0 L xs n fa c' ∧ (ja_FU2 n k mo be t i2 (ct + 1) rest c'.1) ∧ ja_kH2 n fa s t lk nx cu a0 a1 a2 b ch c'.2) → ∃ c', rch c c' ∧ PG ja_Q R b lk ch M0 L xs n fa c' ∧ ja_Z (ek n fa 112 (ja_2 n fa) (i + 1)) n fa mo be lk nx cu a0 a1 a2 b ch f rest c' := fun ⟨c1, r1, p1, f1, m1⟩ => by
          obtain ⟨c3, r3, p3, b3⟩ := ih i2 c1 (ct + 1) (by omega) p1 f1 m1 ⟨hi2, hj5⟩ (by omega)
          rw [ek_at (by omega) hj2]
          exact ⟨c3, r1.tr r3, p3, b3⟩
        by_cases hu : uq n fa i = 97
        · have hx : xq n fa i = false ∧ vq n fa i ≠ 97 := by
            unfold ja_2 at hok
            rw [decide_eq_true hu] at hok
            rcases hx : xq n fa i with _ | _
            · rw [hx] at hok
              exact ⟨rfl, of_decide_eq_false hok⟩
            · rw [hx] at hok
              cases hok
          obtain ⟨hx, hv⟩ := hx
          have hvb := hP.1.v i hx
          exact fin (ja_tf1w_m (by omega) hP hb ⟨by omega, by omega⟩ ⟨by omega, by omega⟩ ⟨by omega, by omega⟩ ⟨by omega, by omega⟩ ⟨by omega, by omega⟩ ⟨by omega, by omega⟩ ⟨by omega, by omega⟩ ⟨by omega, by omega⟩ ⟨by omega, by omega⟩ ⟨by omega, by omega⟩ hi hi2 hx hli ⟨by omega, by omega⟩ (by omega) hu hj2 hF hM)
        · have hub := hP.1.u i
          exact fin (ja_tf1g_m (by omega) hP hb ⟨by omega, by omega⟩ ⟨by omega, by omega⟩ ⟨by omega, by omega⟩ ⟨by omega, by omega⟩ ⟨by omega, by omega⟩ ⟨by omega, by omega⟩ ⟨by omega, by omega⟩ ⟨by omega, by omega⟩ ⟨by omega, by omega⟩ ⟨by omega, by omega⟩ hi hi2 hli ⟨by omega, by omega⟩ (by omega) hj2 hF hM)
theorem ja_Il {R : SyM} {L : Nat} {xs : Nat → Int32} {rest : List MsF} {n : Nat} {fa : Fa} {M0 : Nat → Nat → Value} {k mo be s t f lk nx cu a0 a1 a2 b ch : Int} {i : Nat} {i2 : Int} (hr : rest.length ≤ 15) (hmo : mo = 500) (hb : 0 ≤ b ∧ b ≤ 3) (hlk : 0 ≤ lk ∧ lk ≤ 5) (hnx : -1 ≤ nx ∧ nx ≤ 3) (hcu : 0 ≤ cu ∧ cu ≤ 2) (hch : 0 ≤ ch ∧ ch ≤ 2) (hk : 0 ≤ k ∧ k ≤ 400) (hs : 3 ≤ s ∧ s ≤ 900) (hf : 1 ≤ f ∧ f < t) (ht : 1 ≤ t ∧ t < s) (hi : i < n + 2) (hli : lt n fa i = 112) (hz : i2 = -1 ∨ ∃ z : Nat, i2 = z ∧ z < n + 2) : ∀ (d j : Nat) (c : MsC) (ct : Int), n + 2 ≤ j + d → PG ja_Q R b lk ch M0 L xs n fa c → ja_FU n k mo be j ct f rest c.1 → ja_kH n fa s t i i2 lk nx cu a0 a1 a2 b ch f c.2 → j < n + 2 ∧ lt n fa j = 113 → 0 ≤ ct ∧ ct ≤ j ∧ ct ≤ n → ∃ c', rch c c' ∧ PG ja_Q R b lk ch M0 L xs n fa c' ∧ (((ja_k n fa i j || ek n fa 113 (ja_k n fa i) (j + 1)) = true ∧ ∃ j : Nat, ja_F40 k mo be rest c'.1 ∧ ja_kW n fa s t i j lk nx cu a0 a1 a2 b ch f c'.2) ∨ ((ja_k n fa i j || ek n fa 113 (ja_k n fa i) (j + 1)) = false ∧ ∃ ct : Int, (0 ≤ ct ∧ ct ≤ 12) ∧ ja_FUN n k mo be ct f rest c'.1 ∧ ja_kH n fa s t i i2 lk nx cu a0 a1 a2 b ch f c'.2)) := by
  intro d
  induction d with
  | zero => intro j c ct hd hP hF hM hj; omega
  | succ d ih =>
    intro j c ct hd hP hF hM hjj hct
    obtain ⟨hj, hlj⟩ := hjj
    have hn := hP.1.nr
    have hw := (nf_c (n := n) (fa := fa) (a := 113) (by decide) (j + 1) (by omega))
    cases hok : ja_k n fa i j with
    | true =>
      rw [Bool.true_or]
      have hok1 : okq n fa i j = true := by
        unfold ja_k at hok
        exact (Bool.and_eq_true_iff.mp hok).1
      have hv' : xq n fa j = false → vq n fa j = 97 := fun hy => by
        unfold ja_k at hok
        have := (Bool.and_eq_true_iff.mp hok).2
        rw [hy] at this
        exact of_decide_eq_true this
      suffices fin9 : (∃ c', rch c c' ∧ PG ja_Q R b lk ch M0 L xs n fa c' ∧ (ja_F40 k mo be rest c'.1) ∧ ja_kW n fa s t i j lk nx cu a0 a1 a2 b ch f c'.2) by
        obtain ⟨c', r1, p1, f1, m1⟩ := fin9
        exact ⟨c', r1, p1, Or.inl ⟨rfl, j, f1, m1⟩⟩
      have fin : (∃ c', rch c c' ∧ PG ja_Q R b lk ch M0 L xs n fa c' ∧ (ja_F40 k mo be rest c'.1) ∧ ja_kW n fa s t i j lk nx cu a0 a1 a2 b ch f c'.2) → (∃ c', rch c c' ∧ PG ja_Q R b lk ch M0 L xs n fa c' ∧ (ja_F40 k mo be rest c'.1) ∧ ja_kW n fa s t i j lk nx cu a0 a1 a2 b ch f c'.2) := fun h => h
      rcases hw with hj2 | ⟨j2, hj2, hj3, hj4, hj5⟩
      · rcases hz with rfl | ⟨i2, rfl, hi2⟩
        · cases hx : xq n fa i with
          | false =>
            cases hy : xq n fa j with
            | false =>
              have hv : vq n fa j = 97 := hv' hy
              exact fin (ja_s0000_m (by omega) hP hb ⟨by omega, by omega⟩ ⟨by omega, by omega⟩ ⟨by omega, by omega⟩ ⟨by omega, by omega⟩ ⟨by omega, by omega⟩ ⟨by omega, by omega⟩ ⟨by omega, by omega⟩ ⟨by omega, by omega⟩ ⟨by omega, by omega⟩ ⟨by omega, by omega⟩ ⟨by omega, by omega⟩ hi hj hx hy hli hlj (by omega) (by omega) (by omega) (okq_t hok1 hx) hv hj2 hF hM)
            | true =>
              exact fin (ja_s0010_m (by omega) hP hb ⟨by omega, by omega⟩ ⟨by omega, by omega⟩ ⟨by omega, by omega⟩ ⟨by omega, by omega⟩ ⟨by omega, by omega⟩ ⟨by omega, by omega⟩ ⟨by omega, by omega⟩ ⟨by omega, by omega⟩ ⟨by omega, by omega⟩ ⟨by omega, by omega⟩ ⟨by omega, by omega⟩ hi hj hx hy hli hlj (by omega) (by omega) (by omega) (okq_t hok1 hx) hj2 hF hM)
          | true =>
            cases hy : xq n fa j with
            | false =>
              have hv : vq n fa j = 97 := hv' hy
              exact fin (ja_s1000_m (by omega) hP hb ⟨by omega, by omega⟩ ⟨by omega, by omega⟩ ⟨by omega, by omega⟩ ⟨by omega, by omega⟩ ⟨by omega, by omega⟩ ⟨by omega, by omega⟩ ⟨by omega, by omega⟩ ⟨by omega, by omega⟩ ⟨by omega, by omega⟩ ⟨by omega, by omega⟩ ⟨by omega, by omega⟩ hi hj hx hy hli hlj (by omega) (by omega) (by omega) hv hj2 hF hM)
            | true =>
              exact fin (ja_s1010_m (by omega) hP hb ⟨by omega, by omega⟩ ⟨by omega, by omega⟩ ⟨by omega, by omega⟩ ⟨by omega, by omega⟩ ⟨by omega, by omega⟩ ⟨by omega, by omega⟩ ⟨by omega, by omega⟩ ⟨by omega, by omega⟩ ⟨by omega, by omega⟩ ⟨by omega, by omega⟩ ⟨by omega, by omega⟩ hi hj hx hy hli hlj (by omega) (by omega) (by omega) hj2 hF hM)
        · cases hx : xq n fa i with
          | false =>
            cases hy : xq n fa j with
            | false =>
              have hv : vq n fa j = 97 := hv' hy
              exact fin (ja_s0100_m (by omega) hP hb ⟨by omega, by omega⟩ ⟨by omega, by omega⟩ ⟨by omega, by omega⟩ ⟨by omega, by omega⟩ ⟨by omega, by omega⟩ ⟨by omega, by omega⟩ ⟨by omega, by omega⟩ ⟨by omega, by omega⟩ ⟨by omega, by omega⟩ ⟨by omega, by omega⟩ ⟨by omega, by omega⟩ hi hj hx hy hli hlj (by omega) (by omega) (by omega) (okq_t hok1 hx) hv hj2 hF hM)
            | true =>
              exact fin (ja_s0110_m (by omega) hP hb ⟨by omega, by omega⟩ ⟨by omega, by omega⟩ ⟨by omega, by omega⟩ ⟨by omega, by omega⟩ ⟨by omega, by omega⟩ ⟨by omega, by omega⟩ ⟨by omega, by omega⟩ ⟨by omega, by omega⟩ ⟨by omega, by omega⟩ ⟨by omega, by omega⟩ ⟨by omega, by omega⟩ hi hj hx hy hli hlj (by omega) (by omega) (by omega) (okq_t hok1 hx) hj2 hF hM)
          | true =>
            cases hy : xq n fa j with
            | false =>
              have hv : vq n fa j = 97 := hv' hy
              exact fin (ja_s1100_m (by omega) hP hb ⟨by omega, by omega⟩ ⟨by omega, by omega⟩ ⟨by omega, by omega⟩ ⟨by omega, by omega⟩ ⟨by omega, by omega⟩ ⟨by omega, by omega⟩ ⟨by omega, by omega⟩ ⟨by omega, by omega⟩ ⟨by omega, by omega⟩ ⟨by omega, by omega⟩ ⟨by omega, by omega⟩ hi hj hx hy hli hlj (by omega) (by omega) (by omega) hv hj2 hF hM)
            | true =>
              exact fin (ja_s1110_m (by omega) hP hb ⟨by omega, by omega⟩ ⟨by omega, by omega⟩ ⟨by omega, by omega⟩ ⟨by omega, by omega⟩ ⟨by omega, by omega⟩ ⟨by omega, by omega⟩ ⟨by omega, by omega⟩ ⟨by omega, by omega⟩ ⟨by omega, by omega⟩ ⟨by omega, by omega⟩ ⟨by omega, by omega⟩ hi hj hx hy hli hlj (by omega) (by omega) (by omega) hj2 hF hM)
      · have hj2' := hj4
        rcases hz with rfl | ⟨i2, rfl, hi2⟩
        · cases hx : xq n fa i with
          | false =>
            cases hy : xq n fa j with
            | false =>
              have hv : vq n fa j = 97 := hv' hy
              exact fin (ja_s0001_m (by omega) hP hb ⟨by omega, by omega⟩ ⟨by omega, by omega⟩ ⟨by omega, by omega⟩ ⟨by omega, by omega⟩ ⟨by omega, by omega⟩ ⟨by omega, by omega⟩ ⟨by omega, by omega⟩ ⟨by omega, by omega⟩ ⟨by omega, by omega⟩ ⟨by omega, by omega⟩ ⟨by omega, by omega⟩ hi hj hj4 hx hy hli hlj (by omega) (by omega) (by omega) (okq_t hok1 hx) hv hj2 hF hM)
            | true =>
              exact fin (ja_s0011_m (by omega) hP hb ⟨by omega, by omega⟩ ⟨by omega, by omega⟩ ⟨by omega, by omega⟩ ⟨by omega, by omega⟩ ⟨by omega, by omega⟩ ⟨by omega, by omega⟩ ⟨by omega, by omega⟩ ⟨by omega, by omega⟩ ⟨by omega, by omega⟩ ⟨by omega, by omega⟩ ⟨by omega, by omega⟩ hi hj hj4 hx hy hli hlj (by omega) (by omega) (by omega) (okq_t hok1 hx) hj2 hF hM)
          | true =>
            cases hy : xq n fa j with
            | false =>
              have hv : vq n fa j = 97 := hv' hy
              exact fin (ja_s1001_m (by omega) hP hb ⟨by omega, by omega⟩ ⟨by omega, by omega⟩ ⟨by omega, by omega⟩ ⟨by omega, by omega⟩ ⟨by omega, by omega⟩ ⟨by omega, by omega⟩ ⟨by omega, by omega⟩ ⟨by omega, by omega⟩ ⟨by omega, by omega⟩ ⟨by omega, by omega⟩ ⟨by omega, by omega⟩ hi hj hj4 hx hy hli hlj (by omega) (by omega) (by omega) hv hj2 hF hM)
            | true =>
              exact fin (ja_s1011_m (by omega) hP hb ⟨by omega, by omega⟩ ⟨by omega, by omega⟩ ⟨by omega, by omega⟩ ⟨by omega, by omega⟩ ⟨by omega, by omega⟩ ⟨by omega, by omega⟩ ⟨by omega, by omega⟩ ⟨by omega, by omega⟩ ⟨by omega, by omega⟩ ⟨by omega, by omega⟩ ⟨by omega, by omega⟩ hi hj hj4 hx hy hli hlj (by omega) (by omega) (by omega) hj2 hF hM)
        · cases hx : xq n fa i with
          | false =>
            cases hy : xq n fa j with
            | false =>
              have hv : vq n fa j = 97 := hv' hy
              exact fin (ja_s0101_m (by omega) hP hb ⟨by omega, by omega⟩ ⟨by omega, by omega⟩ ⟨by omega, by omega⟩ ⟨by omega, by omega⟩ ⟨by omega, by omega⟩ ⟨by omega, by omega⟩ ⟨by omega, by omega⟩ ⟨by omega, by omega⟩ ⟨by omega, by omega⟩ ⟨by omega, by omega⟩ ⟨by omega, by omega⟩ hi hj hj4 hx hy hli hlj (by omega) (by omega) (by omega) (okq_t hok1 hx) hv hj2 hF hM)
            | true =>
              exact fin (ja_s0111_m (by omega) hP hb ⟨by omega, by omega⟩ ⟨by omega, by omega⟩ ⟨by omega, by omega⟩ ⟨by omega, by omega⟩ ⟨by omega, by omega⟩ ⟨by omega, by omega⟩ ⟨by omega, by omega⟩ ⟨by omega, by omega⟩ ⟨by omega, by omega⟩ ⟨by omega, by omega⟩ ⟨by omega, by omega⟩ hi hj hj4 hx hy hli hlj (by omega) (by omega) (by omega) (okq_t hok1 hx) hj2 hF hM)
          | true =>
            cases hy : xq n fa j with
            | false =>
              have hv : vq n fa j = 97 := hv' hy
              exact fin (ja_s1101_m (by omega) hP hb ⟨by omega, by omega⟩ ⟨by omega, by omega⟩ ⟨by omega, by omega⟩ ⟨by omega, by omega⟩ ⟨by omega, by omega⟩ ⟨by omega, by omega⟩ ⟨by omega, by omega⟩ ⟨by omega, by omega⟩ ⟨by omega, by omega⟩ ⟨by omega, by omega⟩ ⟨by omega, by omega⟩ hi hj hj4 hx hy hli hlj (by omega) (by omega) (by omega) hv hj2 hF hM)
            | true =>
              exact fin (ja_s1111_m (by omega) hP hb ⟨by omega, by omega⟩ ⟨by omega, by omega⟩ ⟨by omega, by omega⟩ ⟨by omega, by omega⟩ ⟨by omega, by omega⟩ ⟨by omega, by omega⟩ ⟨by omega, by omega⟩ ⟨by omega, by omega⟩ ⟨by omega, by omega⟩ ⟨by omega, by omega⟩ ⟨by omega, by omega⟩ hi hj hj4 hx hy hli hlj (by omega) (by omega) (by omega) hj2 hF hM)
    | false =>
      rw [Bool.false_or]
      rcases hw with hj2 | ⟨j2, hj2, hj3, hj4, hj5⟩
      · have fin : (∃ c', rch c c' ∧ PG ja_Q R b lk ch M0 L xs n fa c' ∧ (ja_FUN n k mo be (ct + 1) f rest c'.1) ∧ ja_kH n fa s t i i2 lk nx cu a0 a1 a2 b ch f c'.2) → ∃ c', rch c c' ∧ PG ja_Q R b lk ch M0 L xs n fa c' ∧ (((ek n fa 113 (ja_k n fa i) (j + 1)) = true ∧ ∃ j : Nat, ja_F40 k mo be rest c'.1 ∧ ja_kW n fa s t i j lk nx cu a0 a1 a2 b ch f c'.2) ∨ ((ek n fa 113 (ja_k n fa i) (j + 1)) = false ∧ ∃ ct : Int, (0 ≤ ct ∧ ct ≤ 12) ∧ ja_FUN n k mo be ct f rest c'.1 ∧ ja_kH n fa s t i i2 lk nx cu a0 a1 a2 b ch f c'.2)) := fun ⟨c1, r1, p1, f1, m1⟩ => ⟨c1, r1, p1, Or.inr ⟨ek_none hj2, ct + 1, by omega, f1, m1⟩⟩
        rcases hz with rfl | ⟨i2, rfl, hi2⟩
        · cases hok1 : okq n fa i j with
          | false =>
            obtain ⟨hx, hne⟩ := okq_f hok1
            rcases Int.lt_or_gt_of_ne hne with h9 | h9
            · exact fin (ja_f00l_m (by omega) hP hb ⟨by omega, by omega⟩ ⟨by omega, by omega⟩ ⟨by omega, by omega⟩ ⟨by omega, by omega⟩ ⟨by omega, by omega⟩ ⟨by omega, by omega⟩ ⟨by omega, by omega⟩ ⟨by omega, by omega⟩ ⟨by omega, by omega⟩ ⟨by omega, by omega⟩ ⟨by omega, by omega⟩ hi hj hx hli hlj (by omega) (by omega) (by omega) h9 hj2 hF hM)
            · exact fin (ja_f00g_m (by omega) hP hb ⟨by omega, by omega⟩ ⟨by omega, by omega⟩ ⟨by omega, by omega⟩ ⟨by omega, by omega⟩ ⟨by omega, by omega⟩ ⟨by omega, by omega⟩ ⟨by omega, by omega⟩ ⟨by omega, by omega⟩ ⟨by omega, by omega⟩ ⟨by omega, by omega⟩ ⟨by omega, by omega⟩ hi hj hx hli hlj (by omega) (by omega) (by omega) h9 hj2 hF hM)
          | true =>
            have hy : xq n fa j = false ∧ vq n fa j ≠ 97 := by
              unfold ja_k at hok
              rw [hok1] at hok
              rcases hy : xq n fa j with _ | _
              · rw [hy] at hok
                exact ⟨rfl, of_decide_eq_false hok⟩
              · rw [hy] at hok
                cases hok
            obtain ⟨hy, hv⟩ := hy
            have hvb := hP.1.v j hy
            cases hx : xq n fa i with
            | false =>
              exact fin (ja_f000c_m (by omega) hP hb ⟨by omega, by omega⟩ ⟨by omega, by omega⟩ ⟨by omega, by omega⟩ ⟨by omega, by omega⟩ ⟨by omega, by omega⟩ ⟨by omega, by omega⟩ ⟨by omega, by omega⟩ ⟨by omega, by omega⟩ ⟨by omega, by omega⟩ ⟨by omega, by omega⟩ ⟨by omega, by omega⟩ hi hj hx hy hli hlj ⟨by omega, by omega⟩ (by omega) (by omega) (by omega) (okq_t hok1 hx) hj2 hF hM)
            | true =>
              exact fin (ja_f100c_m (by omega) hP hb ⟨by omega, by omega⟩ ⟨by omega, by omega⟩ ⟨by omega, by omega⟩ ⟨by omega, by omega⟩ ⟨by omega, by omega⟩ ⟨by omega, by omega⟩ ⟨by omega, by omega⟩ ⟨by omega, by omega⟩ ⟨by omega, by omega⟩ ⟨by omega, by omega⟩ ⟨by omega, by omega⟩ hi hj hx hy hli hlj ⟨by omega, by omega⟩ (by omega) (by omega) (by omega) hj2 hF hM)
        · cases hok1 : okq n fa i j with
          | false =>
            obtain ⟨hx, hne⟩ := okq_f hok1
            rcases Int.lt_or_gt_of_ne hne with h9 | h9
            · exact fin (ja_f10l_m (by omega) hP hb ⟨by omega, by omega⟩ ⟨by omega, by omega⟩ ⟨by omega, by omega⟩ ⟨by omega, by omega⟩ ⟨by omega, by omega⟩ ⟨by omega, by omega⟩ ⟨by omega, by omega⟩ ⟨by omega, by omega⟩ ⟨by omega, by omega⟩ ⟨by omega, by omega⟩ ⟨by omega, by omega⟩ hi hj hx hli hlj (by omega) (by omega) (by omega) h9 hj2 hF hM)
            · exact fin (ja_f10g_m (by omega) hP hb ⟨by omega, by omega⟩ ⟨by omega, by omega⟩ ⟨by omega, by omega⟩ ⟨by omega, by omega⟩ ⟨by omega, by omega⟩ ⟨by omega, by omega⟩ ⟨by omega, by omega⟩ ⟨by omega, by omega⟩ ⟨by omega, by omega⟩ ⟨by omega, by omega⟩ ⟨by omega, by omega⟩ hi hj hx hli hlj (by omega) (by omega) (by omega) h9 hj2 hF hM)
          | true =>
            have hy : xq n fa j = false ∧ vq n fa j ≠ 97 := by
              unfold ja_k at hok
              rw [hok1] at hok
              rcases hy : xq n fa j with _ | _
              · rw [hy] at hok
                exact ⟨rfl, of_decide_eq_false hok⟩
              · rw [hy] at hok
                cases hok
            obtain ⟨hy, hv⟩ := hy
            have hvb := hP.1.v j hy
            cases hx : xq n fa i with
            | false =>
              exact fin (ja_f010c_m (by omega) hP hb ⟨by omega, by omega⟩ ⟨by omega, by omega⟩ ⟨by omega, by omega⟩ ⟨by omega, by omega⟩ ⟨by omega, by omega⟩ ⟨by omega, by omega⟩ ⟨by omega, by omega⟩ ⟨by omega, by omega⟩ ⟨by omega, by omega⟩ ⟨by omega, by omega⟩ ⟨by omega, by omega⟩ hi hj hx hy hli hlj ⟨by omega, by omega⟩ (by omega) (by omega) (by omega) (okq_t hok1 hx) hj2 hF hM)
            | true =>
              exact fin (ja_f110c_m (by omega) hP hb ⟨by omega, by omega⟩ ⟨by omega, by omega⟩ ⟨by omega, by omega⟩ ⟨by omega, by omega⟩ ⟨by omega, by omega⟩ ⟨by omega, by omega⟩ ⟨by omega, by omega⟩ ⟨by omega, by omega⟩ ⟨by omega, by omega⟩ ⟨by omega, by omega⟩ ⟨by omega, by omega⟩ hi hj hx hy hli hlj ⟨by omega, by omega⟩ (by omega) (by omega) (by omega) hj2 hF hM)
      · have hgap := pq_gap (n := n) (fa := fa) (hlj.trans hj5.symm) (by omega) hj4
        have fin : (∃ c', rch c c' ∧ PG ja_Q R b lk ch M0 L xs n fa c' ∧ (ja_FU n k mo be j2 (ct + 1) f rest c'.1) ∧ ja_kH n fa s t i i2 lk nx cu a0 a1 a2 b ch f c'.2) → ∃ c', rch c c' ∧ PG ja_Q R b lk ch M0 L xs n fa c' ∧ (((ek n fa 113 (ja_k n fa i) (j + 1)) = true ∧ ∃ j : Nat, ja_F40 k mo be rest c'.1 ∧ ja_kW n fa s t i j lk nx cu a0 a1 a2 b ch f c'.2) ∨ ((ek n fa 113 (ja_k n fa i) (j + 1)) = false ∧ ∃ ct : Int, (0 ≤ ct ∧ ct ≤ 12) ∧ ja_FUN n k mo be ct f rest c'.1 ∧ ja_kH n fa s t i i2 lk nx cu a0 a1 a2 b ch f c'.2)) := fun ⟨c1, r1, p1, f1, m1⟩ => by
          obtain ⟨c3, r3, p3, b3⟩ := ih j2 c1 (ct + 1) (by omega) p1 f1 m1 ⟨hj4, hj5⟩ (by omega)
          rw [ek_at (by omega) hj2]
          exact ⟨c3, r1.tr r3, p3, b3⟩
        have hj2' := hj4
        rcases hz with rfl | ⟨i2, rfl, hi2⟩
        · cases hok1 : okq n fa i j with
          | false =>
            obtain ⟨hx, hne⟩ := okq_f hok1
            rcases Int.lt_or_gt_of_ne hne with h9 | h9
            · exact fin (ja_f01l_m (by omega) hP hb ⟨by omega, by omega⟩ ⟨by omega, by omega⟩ ⟨by omega, by omega⟩ ⟨by omega, by omega⟩ ⟨by omega, by omega⟩ ⟨by omega, by omega⟩ ⟨by omega, by omega⟩ ⟨by omega, by omega⟩ ⟨by omega, by omega⟩ ⟨by omega, by omega⟩ ⟨by omega, by omega⟩ hi hj hj4 hx hli hlj (by omega) (by omega) (by omega) h9 hj2 hF hM)
            · exact fin (ja_f01g_m (by omega) hP hb ⟨by omega, by omega⟩ ⟨by omega, by omega⟩ ⟨by omega, by omega⟩ ⟨by omega, by omega⟩ ⟨by omega, by omega⟩ ⟨by omega, by omega⟩ ⟨by omega, by omega⟩ ⟨by omega, by omega⟩ ⟨by omega, by omega⟩ ⟨by omega, by omega⟩ ⟨by omega, by omega⟩ hi hj hj4 hx hli hlj (by omega) (by omega) (by omega) h9 hj2 hF hM)
          | true =>
            have hy : xq n fa j = false ∧ vq n fa j ≠ 97 := by
              unfold ja_k at hok
              rw [hok1] at hok
              rcases hy : xq n fa j with _ | _
              · rw [hy] at hok
                exact ⟨rfl, of_decide_eq_false hok⟩
              · rw [hy] at hok
                cases hok
            obtain ⟨hy, hv⟩ := hy
            have hvb := hP.1.v j hy
            cases hx : xq n fa i with
            | false =>
              exact fin (ja_f001c_m (by omega) hP hb ⟨by omega, by omega⟩ ⟨by omega, by omega⟩ ⟨by omega, by omega⟩ ⟨by omega, by omega⟩ ⟨by omega, by omega⟩ ⟨by omega, by omega⟩ ⟨by omega, by omega⟩ ⟨by omega, by omega⟩ ⟨by omega, by omega⟩ ⟨by omega, by omega⟩ ⟨by omega, by omega⟩ hi hj hj4 hx hy hli hlj ⟨by omega, by omega⟩ (by omega) (by omega) (by omega) (okq_t hok1 hx) hj2 hF hM)
            | true =>
              exact fin (ja_f101c_m (by omega) hP hb ⟨by omega, by omega⟩ ⟨by omega, by omega⟩ ⟨by omega, by omega⟩ ⟨by omega, by omega⟩ ⟨by omega, by omega⟩ ⟨by omega, by omega⟩ ⟨by omega, by omega⟩ ⟨by omega, by omega⟩ ⟨by omega, by omega⟩ ⟨by omega, by omega⟩ ⟨by omega, by omega⟩ hi hj hj4 hx hy hli hlj ⟨by omega, by omega⟩ (by omega) (by omega) (by omega) hj2 hF hM)
        · cases hok1 : okq n fa i j with
          | false =>
            obtain ⟨hx, hne⟩ := okq_f hok1
            rcases Int.lt_or_gt_of_ne hne with h9 | h9
            · exact fin (ja_f11l_m (by omega) hP hb ⟨by omega, by omega⟩ ⟨by omega, by omega⟩ ⟨by omega, by omega⟩ ⟨by omega, by omega⟩ ⟨by omega, by omega⟩ ⟨by omega, by omega⟩ ⟨by omega, by omega⟩ ⟨by omega, by omega⟩ ⟨by omega, by omega⟩ ⟨by omega, by omega⟩ ⟨by omega, by omega⟩ hi hj hj4 hx hli hlj (by omega) (by omega) (by omega) h9 hj2 hF hM)
            · exact fin (ja_f11g_m (by omega) hP hb ⟨by omega, by omega⟩ ⟨by omega, by omega⟩ ⟨by omega, by omega⟩ ⟨by omega, by omega⟩ ⟨by omega, by omega⟩ ⟨by omega, by omega⟩ ⟨by omega, by omega⟩ ⟨by omega, by omega⟩ ⟨by omega, by omega⟩ ⟨by omega, by omega⟩ ⟨by omega, by omega⟩ hi hj hj4 hx hli hlj (by omega) (by omega) (by omega) h9 hj2 hF hM)
          | true =>
            have hy : xq n fa j = false ∧ vq n fa j ≠ 97 := by
              unfold ja_k at hok
              rw [hok1] at hok
              rcases hy : xq n fa j with _ | _
              · rw [hy] at hok
                exact ⟨rfl, of_decide_eq_false hok⟩
              · rw [hy] at hok
                cases hok
            obtain ⟨hy, hv⟩ := hy
            have hvb := hP.1.v j hy
            cases hx : xq n fa i with
            | false =>
              exact fin (ja_f011c_m (by omega) hP hb ⟨by omega, by omega⟩ ⟨by omega, by omega⟩ ⟨by omega, by omega⟩ ⟨by omega, by omega⟩ ⟨by omega, by omega⟩ ⟨by omega, by omega⟩ ⟨by omega, by omega⟩ ⟨by omega, by omega⟩ ⟨by omega, by omega⟩ ⟨by omega, by omega⟩ ⟨by omega, by omega⟩ hi hj hj4 hx hy hli hlj ⟨by omega, by omega⟩ (by omega) (by omega) (by omega) (okq_t hok1 hx) hj2 hF hM)
            | true =>
              exact fin (ja_f111c_m (by omega) hP hb ⟨by omega, by omega⟩ ⟨by omega, by omega⟩ ⟨by omega, by omega⟩ ⟨by omega, by omega⟩ ⟨by omega, by omega⟩ ⟨by omega, by omega⟩ ⟨by omega, by omega⟩ ⟨by omega, by omega⟩ ⟨by omega, by omega⟩ ⟨by omega, by omega⟩ ⟨by omega, by omega⟩ hi hj hj4 hx hy hli hlj ⟨by omega, by omega⟩ (by omega) (by omega) (by omega) hj2 hF hM)
theorem ja_AR {R : SyM} {L : Nat} {xs : Nat → Int32} {rest : List MsF} {n : Nat} {fa : Fa} {M0 : Nat → Nat → Value} {k mo be s f lk nx cu a0 a1 a2 b ch : Int} {c : MsC} (hr : rest.length ≤ 15) (hmo : mo = 500) (hb : 0 ≤ b ∧ b ≤ 3) (hlk : 0 ≤ lk ∧ lk ≤ 5) (hnx : -1 ≤ nx ∧ nx ≤ 3) (hcu : 0 ≤ cu ∧ cu ≤ 2) (hch : 0 ≤ ch ∧ ch ≤ 2) (hk : 0 ≤ k ∧ k ≤ 300) (hs : 3 ≤ s ∧ s ≤ 800) (hP : PG ja_Q R b lk ch M0 L xs n fa c) (hF : ja_F15 k mo be rest c.1) (hM : ja_kAR n fa s lk nx cu a0 a1 a2 b ch c.2) : ∃ c', rch c c' ∧ PG ja_Q R b lk ch M0 L xs n fa c' ∧ ja_Z (ja_G n fa) n fa mo be lk nx cu a0 a1 a2 b ch f rest c' := by
  have hn := hP.1.nr
  obtain ⟨c1, r1, p1, f1, m1⟩ := ja_ar_m (by omega) hP hb ⟨by omega, by omega⟩ ⟨by omega, by omega⟩ ⟨by omega, by omega⟩ ⟨by omega, by omega⟩ ⟨by omega, by omega⟩ ⟨by omega, by omega⟩ ⟨by omega, by omega⟩ ⟨by omega, by omega⟩ (by omega) (rule_none (n := n) (fa := fa) 4 114 (by decide)) hF hM
  obtain ⟨i, hi1, hi, hli⟩ := nf_0 (n := n) (fa := fa) (a := 112) (by decide)
  obtain ⟨c2, r2, p2, f2, m2⟩ := ja_t_m (by omega) p1 hb ⟨by omega, by omega⟩ ⟨by omega, by omega⟩ ⟨by omega, by omega⟩ ⟨by omega, by omega⟩ ⟨by omega, by omega⟩ ⟨by omega, by omega⟩ ⟨by omega, by omega⟩ ⟨by omega, by omega⟩ (by omega) hi1 f1 m1
  obtain ⟨c3, r3, p3, b3⟩ := ja_Ul2 (f := f) hr hmo hb hlk hnx hcu hch ⟨by omega, by omega⟩ ⟨by omega, by omega⟩ ⟨by omega, by omega⟩ (n + 2) i c2 0 (by omega) p2 f2 m2 ⟨hi, hli⟩ (by omega)
  unfold ja_G
  rw [ek_at (by omega) hi1]
  exact ⟨c3, r1.tr (r2.tr r3), p3, b3⟩
theorem ja_Ql {R : SyM} {L : Nat} {xs : Nat → Int32} {rest : List MsF} {n : Nat} {fa : Fa} {M0 : Nat → Nat → Value} {mo be f lk nx cu a0 a1 a2 b ch : Int} (hr : rest.length ≤ 15) (hmo : mo = 500) (hb : 0 ≤ b ∧ b ≤ 3) (hlk : 0 ≤ lk ∧ lk ≤ 5) (hnx : -1 ≤ nx ∧ nx ≤ 3) (hcu : 0 ≤ cu ∧ cu ≤ 2) (hch : 0 ≤ ch ∧ ch ≤ 2) (hf : 1 ≤ f ∧ f ≤ 8) : ∀ (d i : Nat) (k s : Int) (i2 : Int) (c : MsC), n + 2 ≤ i + d → (0 ≤ k ∧ k ≤ 2 * (i : Int) + 10) → (f < s ∧ s ≤ 2 * (i : Int) + 20) → PG ja_Q R b lk ch M0 L xs n fa c → ja_F15 k mo be rest c.1 → ja_kQ n fa s i i2 lk nx cu a0 a1 a2 b ch f c.2 → i < n + 2 ∧ lt n fa i = 112 → nf n fa 112 (i + 1) = i2 → ∃ c', rch c c' ∧ PG ja_Q R b lk ch M0 L xs n fa c' ∧ ja_Z ((ja_E n fa i || ek n fa 112 (ja_E n fa) (i + 1)) || ja_G n fa) n fa mo be lk nx cu a0 a1 a2 b ch f rest c' := by
  intro d
  induction d with
  | zero => intro i k s i2 c hd hk hs hP hF hM hj; omega
  | succ d ih =>
    intro i k s i2 c hd hk hs hP hF hM hii hnf
    obtain ⟨hi, hli⟩ := hii
    have hn := hP.1.nr
    have hz := (nf_c (n := n) (fa := fa) (a := 112) (by decide) (i + 1) (by omega))
    rw [hnf] at hz
    obtain ⟨j, hj1, hj, hlj⟩ := nf_0 (n := n) (fa := fa) (a := 113) (by decide)
    have hE : ja_E n fa i = (ja_k n fa i j || ek n fa 113 (ja_k n fa i) (j + 1)) := ek_at (by omega) hj1
    have pop : ∀ (mid : List MsF) (c1 : MsC), rch c c1 → PG ja_Q R b lk ch M0 L xs n fa c1 → ja_F41 k mo be rest mid → ja_FS mid c1.1 → ∃ c3, rch c c3 ∧ PG ja_Q R b lk ch M0 L xs n fa c3 ∧ ja_F15 (k + 1) mo be rest c3.1 ∧ sy_sm c1.2 c3.2 := fun mid c1 r1 p1 f3 f1 => by
      obtain ⟨c2, r2, e1, e2⟩ := se_pop (c := c1) (mid := mid) f1 f3
      have p2 : PG ja_Q R b lk ch M0 L xs n fa c2 := ⟨p1.1.mem e2, fun q j h => by rw [e2]; exact p1.2 q j h⟩
      obtain ⟨c3, r3, f4, s3, e3⟩ := fz_m (c := c2) (rest := rest) (k := k) (mo := mo) (be := be) (by omega) p2.1.E (by omega) (by rw [e1]; exact f3)
      exact ⟨c3, r1.tr (r2.tr r3), ⟨p2.1.sm s3 e3, p2.2.sm p2.1.top s3⟩, f4, by rw [← e2]; exact s3⟩
    have ml : ∀ mid : List MsF, ja_F41 k mo be rest mid → mid.length ≤ 16 := fun mid h => by
      have := sy_Fs.len h
      have : mid.length = 1 + rest.length := this
      omega
    have hk9 := hk
    have hk : 0 ≤ k ∧ k ≤ 400 := by omega
    have fin0 : ∀ c1 : MsC, rch c c1 → PG ja_Q R b lk ch M0 L xs n fa c1 → (ja_E n fa i = true ∧ ∃ j : Nat, ja_F40 k mo be rest c1.1 ∧ ja_kW n fa (s + 1) s i j lk nx cu a0 a1 a2 b ch f c1.2) → ∃ c', rch c c' ∧ PG ja_Q R b lk ch M0 L xs n fa c' ∧ ja_Z ((ja_E n fa i || ek n fa 112 (ja_E n fa) (i + 1)) || ja_G n fa) n fa mo be lk nx cu a0 a1 a2 b ch f rest c' := fun c1 r1 p1 ⟨g1, j, g2, g3⟩ => ⟨c1, r1, p1, Or.inl ⟨by rw [g1]; rfl, k, s + 1, s, i, j, hk, ⟨by omega, by omega⟩, ⟨by omega, by omega⟩, g2, Or.inl ⟨by omega, hi, g3⟩⟩⟩
    rcases hz with rfl | ⟨i2, rfl, hz1, hi2, hz2⟩
    · have fin : ∀ c1 : MsC, rch c c1 → PG ja_Q R b lk ch M0 L xs n fa c1 → ((ja_E n fa i = true ∧ ∃ j : Nat, ja_F40 k mo be rest c1.1 ∧ ja_kW n fa (s + 1) s i j lk nx cu a0 a1 a2 b ch f c1.2) ∨ (ja_E n fa i = false ∧ ∃ c', rch c1 c' ∧ PG ja_Q R b lk ch M0 L xs n fa c' ∧ (∃ mid, ja_F41 k mo be rest mid ∧ ja_FGR n 0 b ch mid c'.1) ∧ ja_kGR n fa (s + 1) lk nx cu a0 a1 a2 b ch c'.2)) → ∃ c', rch c c' ∧ PG ja_Q R b lk ch M0 L xs n fa c' ∧ ja_Z ((ja_E n fa i || ek n fa 112 (ja_E n fa) (i + 1)) || ja_G n fa) n fa mo be lk nx cu a0 a1 a2 b ch f rest c' := fun c1 r1 p1 h => by
        rcases h with h | ⟨g1, c3, r3, p3, ⟨mid, f3, f4⟩, m3⟩
        · exact fin0 c1 r1 p1 h
        · have hml := ml mid f3
          obtain ⟨c4, r4, p4, f5, m4⟩ := ja_gr_m (by omega) p3 hb ⟨by omega, by omega⟩ ⟨by omega, by omega⟩ ⟨by omega, by omega⟩ ⟨by omega, by omega⟩ ⟨by omega, by omega⟩ ⟨by omega, by omega⟩ ⟨by omega, by omega⟩ f4 m3
          obtain ⟨c5, r5, p5, f6, s5⟩ := pop mid c4 (r1.tr (r3.tr r4)) p4 f3 f5
          have m6 : ja_kAR n fa (s + 1 + 1) lk nx cu a0 a1 a2 b ch c5.2 := mm.sm m4 s5
          obtain ⟨c6, r6, p6, b6⟩ := ja_AR (f := f) hr hmo hb hlk hnx hcu hch ⟨by omega, by omega⟩ ⟨by omega, by omega⟩ p5 f6 m6
          rw [g1, ek_none hnf]
          exact ⟨c6, r5.tr r6, p6, b6⟩
      have go : (∃ c', rch c c' ∧ PG ja_Q R b lk ch M0 L xs n fa c' ∧ (ja_FU n k mo be j 0 f rest c'.1) ∧ ja_kH n fa (s + 1) s i (-1) lk nx cu a0 a1 a2 b ch f c'.2) → ∃ c', rch c c' ∧ PG ja_Q R b lk ch M0 L xs n fa c' ∧ ja_Z ((ja_E n fa i || ek n fa 112 (ja_E n fa) (i + 1)) || ja_G n fa) n fa mo be lk nx cu a0 a1 a2 b ch f rest c' := fun ⟨c1, r1, p1, f1, m1⟩ => by
        obtain ⟨c2, r2, p2, b2⟩ := ja_Il hr hmo hb hlk hnx hcu hch hk ⟨by omega, by omega⟩ ⟨by omega, by omega⟩ ⟨by omega, by omega⟩ hi hli (Or.inl rfl) (n + 2) j c1 0 (by omega) p1 f1 m1 ⟨hj, hlj⟩ (by omega)
        refine fin c2 (r1.tr r2) p2 ?_
        rw [hE]
        rcases b2 with ⟨g1, j, g2, g3⟩ | ⟨g1, ct, g2, g3, g4⟩
        · exact Or.inl ⟨g1, j, g2, g3⟩
        · refine Or.inr ⟨g1, ?_⟩
          cases hx : xq n fa i with
          | false => exact ja_e00_m (by omega) p2 hb ⟨by omega, by omega⟩ ⟨by omega, by omega⟩ ⟨by omega, by omega⟩ ⟨by omega, by omega⟩ ⟨by omega, by omega⟩ ⟨by omega, by omega⟩ ⟨by omega, by omega⟩ ⟨by omega, by omega⟩ ⟨by omega, by omega⟩ ⟨by omega, by omega⟩ ⟨by omega, by omega⟩ hi hx hli (by omega) (by omega) (by omega) g3 g4
          | true => exact ja_e10_m (by omega) p2 hb ⟨by omega, by omega⟩ ⟨by omega, by omega⟩ ⟨by omega, by omega⟩ ⟨by omega, by omega⟩ ⟨by omega, by omega⟩ ⟨by omega, by omega⟩ ⟨by omega, by omega⟩ ⟨by omega, by omega⟩ ⟨by omega, by omega⟩ ⟨by omega, by omega⟩ ⟨by omega, by omega⟩ hi hx hli (by omega) (by omega) (by omega) g3 g4
      cases hx : xq n fa i with
      | false => exact go (ja_q00_m (by omega) hP hb ⟨by omega, by omega⟩ ⟨by omega, by omega⟩ ⟨by omega, by omega⟩ ⟨by omega, by omega⟩ ⟨by omega, by omega⟩ ⟨by omega, by omega⟩ ⟨by omega, by omega⟩ ⟨by omega, by omega⟩ ⟨by omega, by omega⟩ hi hx hli (by omega) (by omega) hj1 hF hM)
      | true => exact go (ja_q10_m (by omega) hP hb ⟨by omega, by omega⟩ ⟨by omega, by omega⟩ ⟨by omega, by omega⟩ ⟨by omega, by omega⟩ ⟨by omega, by omega⟩ ⟨by omega, by omega⟩ ⟨by omega, by omega⟩ ⟨by omega, by omega⟩ ⟨by omega, by omega⟩ hi hx hli (by omega) (by omega) hj1 hF hM)
    · have fin : ∀ c1 : MsC, rch c c1 → PG ja_Q R b lk ch M0 L xs n fa c1 → ((ja_E n fa i = true ∧ ∃ j : Nat, ja_F40 k mo be rest c1.1 ∧ ja_kW n fa (s + 1) s i j lk nx cu a0 a1 a2 b ch f c1.2) ∨ (ja_E n fa i = false ∧ ∃ c', rch c1 c' ∧ PG ja_Q R b lk ch M0 L xs n fa c' ∧ (∃ mid, ja_F41 k mo be rest mid ∧ ja_FGP n i2 0 ch f mid c'.1) ∧ ja_kGP n fa (s + 1) lk nx cu a0 a1 a2 b ch f c'.2)) → ∃ c', rch c c' ∧ PG ja_Q R b lk ch M0 L xs n fa c' ∧ ja_Z ((ja_E n fa i || ek n fa 112 (ja_E n fa) (i + 1)) || ja_G n fa) n fa mo be lk nx cu a0 a1 a2 b ch f rest c' := fun c1 r1 p1 h => by
        rcases h with h | ⟨g1, c3, r3, p3, ⟨mid, f3, f4⟩, m3⟩
        · exact fin0 c1 r1 p1 h
        · have hml := ml mid f3
          have gpq : ∃ c', rch c3 c' ∧ PG ja_Q R b lk ch M0 L xs n fa c' ∧ (ja_FS mid c'.1) ∧ ja_kAP n fa (s + 1 + 1) i2 lk nx cu a0 a1 a2 b ch f c'.2 := by
            cases hx9 : xq n fa i2 with
            | false => exact ja_gp0_m (by omega) p3 hb ⟨by omega, by omega⟩ ⟨by omega, by omega⟩ ⟨by omega, by omega⟩ ⟨by omega, by omega⟩ ⟨by omega, by omega⟩ ⟨by omega, by omega⟩ ⟨by omega, by omega⟩ ⟨by omega, by omega⟩ hi2 hx9 hz2 (by omega) f4 m3
            | true => exact ja_gp1_m (by omega) p3 hb ⟨by omega, by omega⟩ ⟨by omega, by omega⟩ ⟨by omega, by omega⟩ ⟨by omega, by omega⟩ ⟨by omega, by omega⟩ ⟨by omega, by omega⟩ ⟨by omega, by omega⟩ ⟨by omega, by omega⟩ hi2 hx9 hz2 (by omega) f4 m3
          obtain ⟨c4, r4, p4, f5, m4⟩ := gpq
          obtain ⟨c5, r5, p5, f6, s5⟩ := pop mid c4 (r1.tr (r3.tr r4)) p4 f3 f5
          have m6 : ja_kAP n fa (s + 1 + 1) i2 lk nx cu a0 a1 a2 b ch f c5.2 := mm.sm m4 s5
          have hz9 := (nf_c (n := n) (fa := fa) (a := 112) (by decide) (i2 + 1) (by omega))
          generalize hnf9 : nf n fa 112 (i2 + 1) = i9 at hz9
          rw [g1, Bool.false_or, ek_at (by omega) hnf]
          have fin9 : (∃ c', rch c5 c' ∧ PG ja_Q R b lk ch M0 L xs n fa c' ∧ (ja_F15 (k + 1 + 1) mo be rest c'.1) ∧ ja_kQ n fa (s + 1 + 1) i2 i9 lk nx cu a0 a1 a2 b ch f c'.2) → ∃ c', rch c c' ∧ PG ja_Q R b lk ch M0 L xs n fa c' ∧ ja_Z ((ja_E n fa i2 || ek n fa 112 (ja_E n fa) (i2 + 1)) || ja_G n fa) n fa mo be lk nx cu a0 a1 a2 b ch f rest c' := fun ⟨c6, r6, p6, f7, m7⟩ => by
            obtain ⟨c7, r7, p7, b7⟩ := ih i2 (k + 1 + 1) (s + 1 + 1) i9 c6 (by omega) ⟨by omega, by omega⟩ ⟨by omega, by omega⟩ p6 f7 m7 ⟨hi2, hz2⟩ hnf9
            exact ⟨c7, r5.tr (r6.tr r7), p7, b7⟩
          rcases hz9 with rfl | ⟨i8, rfl, hz81, hi28, hz82⟩
          · cases hx9 : xq n fa i2 with
            | false => exact fin9 (ja_ap00_m (by omega) p5 hb ⟨by omega, by omega⟩ ⟨by omega, by omega⟩ ⟨by omega, by omega⟩ ⟨by omega, by omega⟩ ⟨by omega, by omega⟩ ⟨by omega, by omega⟩ ⟨by omega, by omega⟩ ⟨by omega, by omega⟩ ⟨by omega, by omega⟩ hi2 hx9 hz2 (by omega) (by omega) hnf9 f6 m6)
            | true => exact fin9 (ja_ap10_m (by omega) p5 hb ⟨by omega, by omega⟩ ⟨by omega, by omega⟩ ⟨by omega, by omega⟩ ⟨by omega, by omega⟩ ⟨by omega, by omega⟩ ⟨by omega, by omega⟩ ⟨by omega, by omega⟩ ⟨by omega, by omega⟩ ⟨by omega, by omega⟩ hi2 hx9 hz2 (by omega) (by omega) hnf9 f6 m6)
          · cases hx9 : xq n fa i2 with
            | false => exact fin9 (ja_ap01_m (by omega) p5 hb ⟨by omega, by omega⟩ ⟨by omega, by omega⟩ ⟨by omega, by omega⟩ ⟨by omega, by omega⟩ ⟨by omega, by omega⟩ ⟨by omega, by omega⟩ ⟨by omega, by omega⟩ ⟨by omega, by omega⟩ ⟨by omega, by omega⟩ hi2 hi28 hx9 hz2 (by omega) (by omega) hnf9 f6 m6)
            | true => exact fin9 (ja_ap11_m (by omega) p5 hb ⟨by omega, by omega⟩ ⟨by omega, by omega⟩ ⟨by omega, by omega⟩ ⟨by omega, by omega⟩ ⟨by omega, by omega⟩ ⟨by omega, by omega⟩ ⟨by omega, by omega⟩ ⟨by omega, by omega⟩ ⟨by omega, by omega⟩ hi2 hi28 hx9 hz2 (by omega) (by omega) hnf9 f6 m6)
      have go : (∃ c', rch c c' ∧ PG ja_Q R b lk ch M0 L xs n fa c' ∧ (ja_FU n k mo be j 0 f rest c'.1) ∧ ja_kH n fa (s + 1) s i (i2 : Int) lk nx cu a0 a1 a2 b ch f c'.2) → ∃ c', rch c c' ∧ PG ja_Q R b lk ch M0 L xs n fa c' ∧ ja_Z ((ja_E n fa i || ek n fa 112 (ja_E n fa) (i + 1)) || ja_G n fa) n fa mo be lk nx cu a0 a1 a2 b ch f rest c' := fun ⟨c1, r1, p1, f1, m1⟩ => by
        obtain ⟨c2, r2, p2, b2⟩ := ja_Il hr hmo hb hlk hnx hcu hch hk ⟨by omega, by omega⟩ ⟨by omega, by omega⟩ ⟨by omega, by omega⟩ hi hli (Or.inr ⟨_, rfl, hi2⟩) (n + 2) j c1 0 (by omega) p1 f1 m1 ⟨hj, hlj⟩ (by omega)
        refine fin c2 (r1.tr r2) p2 ?_
        rw [hE]
        rcases b2 with ⟨g1, j, g2, g3⟩ | ⟨g1, ct, g2, g3, g4⟩
        · exact Or.inl ⟨g1, j, g2, g3⟩
        · refine Or.inr ⟨g1, ?_⟩
          cases hx : xq n fa i with
          | false => exact ja_e01_m (by omega) p2 hb ⟨by omega, by omega⟩ ⟨by omega, by omega⟩ ⟨by omega, by omega⟩ ⟨by omega, by omega⟩ ⟨by omega, by omega⟩ ⟨by omega, by omega⟩ ⟨by omega, by omega⟩ ⟨by omega, by omega⟩ ⟨by omega, by omega⟩ ⟨by omega, by omega⟩ ⟨by omega, by omega⟩ hi hi2 hx hli (by omega) (by omega) (by omega) g3 g4
          | true => exact ja_e11_m (by omega) p2 hb ⟨by omega, by omega⟩ ⟨by omega, by omega⟩ ⟨by omega, by omega⟩ ⟨by omega, by omega⟩ ⟨by omega, by omega⟩ ⟨by omega, by omega⟩ ⟨by omega, by omega⟩ ⟨by omega, by omega⟩ ⟨by omega, by omega⟩ ⟨by omega, by omega⟩ ⟨by omega, by omega⟩ hi hi2 hx hli (by omega) (by omega) (by omega) g3 g4
      cases hx : xq n fa i with
      | false => exact go (ja_q01_m (by omega) hP hb ⟨by omega, by omega⟩ ⟨by omega, by omega⟩ ⟨by omega, by omega⟩ ⟨by omega, by omega⟩ ⟨by omega, by omega⟩ ⟨by omega, by omega⟩ ⟨by omega, by omega⟩ ⟨by omega, by omega⟩ ⟨by omega, by omega⟩ hi hx hli (by omega) (by omega) hj1 hF hM)
      | true => exact go (ja_q11_m (by omega) hP hb ⟨by omega, by omega⟩ ⟨by omega, by omega⟩ ⟨by omega, by omega⟩ ⟨by omega, by omega⟩ ⟨by omega, by omega⟩ ⟨by omega, by omega⟩ ⟨by omega, by omega⟩ ⟨by omega, by omega⟩ ⟨by omega, by omega⟩ hi hx hli (by omega) (by omega) hj1 hF hM)
theorem ja_run {R : SyM} {L : Nat} {xs : Nat → Int32} {rest : List MsF} {n : Nat} {fa : Fa} {M0 : Nat → Nat → Value} {k mo be f lk nx cu a0 a1 a2 b ch : Int} {c : MsC} (hr : rest.length ≤ 15) (hmo : mo = 500) (hb : 0 ≤ b ∧ b ≤ 3) (hlk : 0 ≤ lk ∧ lk ≤ 5) (hnx : -1 ≤ nx ∧ nx ≤ 3) (hcu : 0 ≤ cu ∧ cu ≤ 2) (hch : 0 ≤ ch ∧ ch ≤ 2) (hk : 0 ≤ k ∧ k ≤ 8) (hf : 1 ≤ f ∧ f ≤ 8) (hP : PG ja_Q R b lk ch M0 L xs n fa c) (hF : ja_F15 k mo be rest c.1) (hM : ja_kA0 n fa lk nx cu a0 a1 a2 b ch f c.2) : ∃ c', rch c c' ∧ PG ja_Q R b lk ch M0 L xs n fa c' ∧ ja_Z (ek n fa 112 (ja_E n fa) 0 || ja_G n fa) n fa mo be lk nx cu a0 a1 a2 b ch f rest c' := by
  have hn := hP.1.nr
  obtain ⟨c1, r1, p1, f1, m1⟩ := ja_r1_m (by omega) hP hb ⟨by omega, by omega⟩ ⟨by omega, by omega⟩ ⟨by omega, by omega⟩ ⟨by omega, by omega⟩ ⟨by omega, by omega⟩ ⟨by omega, by omega⟩ ⟨by omega, by omega⟩ ⟨by omega, by omega⟩ (by omega) (rule_first (n := n) (fa := fa) hP.1.f 2 114 (by decide) (by decide) (by decide)) (rule_here (n := n) (fa := fa) 3 114 (by decide) (by decide)) hF hM
  obtain ⟨i, hi1, hi, hli⟩ := nf_0 (n := n) (fa := fa) (a := 112) (by decide)
  have hz9 := (nf_c (n := n) (fa := fa) (a := 112) (by decide) (i + 1) (by omega))
  generalize hnf9 : nf n fa 112 (i + 1) = i9 at hz9
  rw [ek_at (by omega) hi1]
  have fin9 : (∃ c', rch c1 c' ∧ PG ja_Q R b lk ch M0 L xs n fa c' ∧ (ja_F15 (k + 1 + 1) mo be rest c'.1) ∧ ja_kQ n fa (f + 1) i i9 lk nx cu a0 a1 a2 b ch f c'.2) → ∃ c', rch c c' ∧ PG ja_Q R b lk ch M0 L xs n fa c' ∧ ja_Z ((ja_E n fa i || ek n fa 112 (ja_E n fa) (i + 1)) || ja_G n fa) n fa mo be lk nx cu a0 a1 a2 b ch f rest c' := fun ⟨c6, r6, p6, f7, m7⟩ => by
    obtain ⟨c7, r7, p7, b7⟩ := ja_Ql hr hmo hb hlk hnx hcu hch hf (n + 2) i (k + 1 + 1) (f + 1) i9 c6 (by omega) ⟨by omega, by omega⟩ ⟨by omega, by omega⟩ p6 f7 m7 ⟨hi, hli⟩ hnf9
    exact ⟨c7, r1.tr (r6.tr r7), p7, b7⟩
  rcases hz9 with rfl | ⟨i8, rfl, hz81, hi28, hz82⟩
  · cases hx9 : xq n fa i with
    | false => exact fin9 (ja_p00_m (by omega) p1 hb ⟨by omega, by omega⟩ ⟨by omega, by omega⟩ ⟨by omega, by omega⟩ ⟨by omega, by omega⟩ ⟨by omega, by omega⟩ ⟨by omega, by omega⟩ ⟨by omega, by omega⟩ ⟨by omega, by omega⟩ ⟨by omega, by omega⟩ hi hx9 hli (by omega) (by omega) hi1 hnf9 f1 m1)
    | true => exact fin9 (ja_p10_m (by omega) p1 hb ⟨by omega, by omega⟩ ⟨by omega, by omega⟩ ⟨by omega, by omega⟩ ⟨by omega, by omega⟩ ⟨by omega, by omega⟩ ⟨by omega, by omega⟩ ⟨by omega, by omega⟩ ⟨by omega, by omega⟩ ⟨by omega, by omega⟩ hi hx9 hli (by omega) (by omega) hi1 hnf9 f1 m1)
  · cases hx9 : xq n fa i with
    | false => exact fin9 (ja_p01_m (by omega) p1 hb ⟨by omega, by omega⟩ ⟨by omega, by omega⟩ ⟨by omega, by omega⟩ ⟨by omega, by omega⟩ ⟨by omega, by omega⟩ ⟨by omega, by omega⟩ ⟨by omega, by omega⟩ ⟨by omega, by omega⟩ ⟨by omega, by omega⟩ hi hi28 hx9 hli (by omega) (by omega) hi1 hnf9 f1 m1)
    | true => exact fin9 (ja_p11_m (by omega) p1 hb ⟨by omega, by omega⟩ ⟨by omega, by omega⟩ ⟨by omega, by omega⟩ ⟨by omega, by omega⟩ ⟨by omega, by omega⟩ ⟨by omega, by omega⟩ ⟨by omega, by omega⟩ ⟨by omega, by omega⟩ ⟨by omega, by omega⟩ hi hi28 hx9 hli (by omega) (by omega) hi1 hnf9 f1 m1)
