/-! PHASE F (written by wip/p21/gU.py): what the goals' searches come to. -/
/-- is there a clause of a letter for which something holds? -/
def ex (l : Nat → Int) (a : Int) (P : Nat → Bool) : Nat → Nat → Bool
  | 0, _ => false
  | d + 1, m => (decide (l m = a) && P m) || ex l a P d (m + 1)
section ExS
variable {l : Nat → Int} {a : Int} {P : Nat → Bool}
theorem ex_s (d m : Nat) : ex l a P (d + 1) m = ((decide (l m = a) && P m) || ex l a P d (m + 1)) := rfl
theorem ex_none : ∀ {d m : Nat}, cfor l a d m = -1 → ex l a P d m = false := by
  intro d
  induction d with
  | zero => intro m _; rfl
  | succ d ih =>
    intro m h
    unfold cfor at h
    rw [ex_s]
    by_cases hl : l m = a
    · rw [if_pos hl] at h
      omega
    · rw [if_neg hl] at h
      rw [decide_eq_false hl, ih h]
      rfl
theorem ex_at : ∀ {d m i : Nat}, cfor l a d m = i → ex l a P d m = (P i || ex l a P (m + d - (i + 1)) (i + 1)) := by
  intro d
  induction d with
  | zero => intro m i h; have h : (-1 : Int) = i := h; omega
  | succ d ih =>
    intro m i h
    unfold cfor at h
    rw [ex_s]
    by_cases hl : l m = a
    · rw [if_pos hl] at h
      have e : m = i := by omega
      rw [e] at hl ⊢
      rw [decide_eq_true hl, show i + (d + 1) - (i + 1) = d by omega]
      rfl
    · rw [if_neg hl] at h
      rw [decide_eq_false hl, ih h, show m + 1 + d - (i + 1) = m + (d + 1) - (i + 1) by omega]
      rfl
end ExS
def ek (n : Nat) (fa : Fa) (a : Int) (P : Nat → Bool) (m : Nat) : Bool := ex (lt n fa) a P (n + 6 - m) m
section EkS
variable {n : Nat} {fa : Fa} {a : Int} {P : Nat → Bool} {m i : Nat}
theorem ek_none (h : nf n fa a m = -1) : ek n fa a P m = false := ex_none h
theorem ek_at (hm : m ≤ n + 6) (h : nf n fa a m = i) : ek n fa a P m = (P i || ek n fa a P (i + 1)) := by
  unfold ek
  rw [ex_at h, show m + (n + 6 - m) - (i + 1) = n + 6 - (i + 1) by omega]
end EkS
def jp_ok (n : Nat) (fa : Fa) (i : Nat) : Bool := decide (uq n fa i = 97) && (xq n fa i || decide (vq n fa i = 98))
def jp_Z (good : Bool) (n : Nat) (fa : Fa) (k mo be s lk nx cu a0 a1 a2 b ch : Int) (rest : List MsF) (c : MsC) : Prop := (good = true ∧ jp_F40 k mo be rest c.1 ∧ ∃ i : Nat, jp_kW n fa s i lk nx cu a0 a1 a2 b ch c.2) ∨ (good = false ∧ (∃ mid, jp_F41 k mo be rest mid ∧ jp_FX 0 mid c.1) ∧ jp_kFK n fa s lk nx cu a0 a1 a2 b ch c.2)
theorem jp_Ul {R : SyM} {L : Nat} {xs : Nat → Int32} {rest : List MsF} {n : Nat} {fa : Fa} {M0 : Nat → Nat → Value} {k mo be s lk nx cu a0 a1 a2 b ch : Int} (hr : rest.length ≤ 15) (hmo : mo = 500) (hb : 0 ≤ b ∧ b ≤ 3) (hlk : 0 ≤ lk ∧ lk ≤ 5) (hnx : -1 ≤ nx ∧ nx ≤ 3) (hcu : 0 ≤ cu ∧ cu ≤ 2) (hch : 0 ≤ ch ∧ ch ≤ 2) (hk : 0 ≤ k ∧ k ≤ 400) (hs : 1 ≤ s ∧ s ≤ 900) : ∀ (d i : Nat) (c : MsC) (ct : Int), n + 2 ≤ i + d → PG jp_Q R b lk ch M0 L xs n fa c → jp_FU k mo be i ct b rest c.1 → jp_kH n fa s lk nx cu a0 a1 a2 b ch c.2 → i < n + 2 ∧ lt n fa i = 112 → 0 ≤ ct ∧ ct ≤ i ∧ ct ≤ n → ∃ c', rch c c' ∧ PG jp_Q R b lk ch M0 L xs n fa c' ∧ jp_Z (jp_ok n fa i || ek n fa 112 (jp_ok n fa) (i + 1)) n fa k mo be s lk nx cu a0 a1 a2 b ch rest c' := by
  intro d
  induction d with
  | zero => intro i c ct hd hP hF hM hj; omega
  | succ d ih =>
    intro i c ct hd hP hF hM hii hct
    obtain ⟨hi, hli⟩ := hii
    have hn := hP.1.nr
    have hw := (nf_c (n := n) (fa := fa) (a := 112) (by decide) (i + 1) (by omega))
    cases hok : jp_ok n fa i with
    | true =>
      rw [Bool.true_or]
      have hu : uq n fa i = 97 := by
        unfold jp_ok at hok
        exact of_decide_eq_true (Bool.and_eq_true_iff.mp hok).1
      have hv' : xq n fa i = false → vq n fa i = 98 := fun hx => by
        unfold jp_ok at hok
        have := (Bool.and_eq_true_iff.mp hok).2
        rw [hx] at this
        exact of_decide_eq_true this
      have fin : (∃ c', rch c c' ∧ PG jp_Q R b lk ch M0 L xs n fa c' ∧ (jp_F40 k mo be rest c'.1) ∧ jp_kW n fa s i lk nx cu a0 a1 a2 b ch c'.2) → ∃ c', rch c c' ∧ PG jp_Q R b lk ch M0 L xs n fa c' ∧ jp_Z true n fa k mo be s lk nx cu a0 a1 a2 b ch rest c' := fun ⟨c', r1, p1, f1, m1⟩ => ⟨c', r1, p1, Or.inl ⟨rfl, f1, i, m1⟩⟩
      rcases hw with hj2 | ⟨i2, hj2, hj3, hi2, hj5⟩
      · cases hx : xq n fa i with
        | false =>
          have hv := hv' hx
          exact fin (jp_ts00_m (by omega) hP hb ⟨by omega, by omega⟩ ⟨by omega, by omega⟩ ⟨by omega, by omega⟩ ⟨by omega, by omega⟩ ⟨by omega, by omega⟩ ⟨by omega, by omega⟩ ⟨by omega, by omega⟩ ⟨by omega, by omega⟩ ⟨by omega, by omega⟩ hi hx hli hu hv hj2 hF hM)
        | true => exact fin (jp_ts10_m (by omega) hP hb ⟨by omega, by omega⟩ ⟨by omega, by omega⟩ ⟨by omega, by omega⟩ ⟨by omega, by omega⟩ ⟨by omega, by omega⟩ ⟨by omega, by omega⟩ ⟨by omega, by omega⟩ ⟨by omega, by omega⟩ ⟨by omega, by omega⟩ hi hx hli hu hj2 hF hM)
      · cases hx : xq n fa i with
        | false =>
          have hv := hv' hx
          exact fin (jp_ts01_m (by omega) hP hb ⟨by omega, by omega⟩ ⟨by omega, by omega⟩ ⟨by omega, by omega⟩ ⟨by omega, by omega⟩ ⟨by omega, by omega⟩ ⟨by omega, by omega⟩ ⟨by omega, by omega⟩ ⟨by omega, by omega⟩ ⟨by omega, by omega⟩ hi hi2 hx hli hu hv hj2 hF hM)
        | true => exact fin (jp_ts11_m (by omega) hP hb ⟨by omega, by omega⟩ ⟨by omega, by omega⟩ ⟨by omega, by omega⟩ ⟨by omega, by omega⟩ ⟨by omega, by omega⟩ ⟨by omega, by omega⟩ ⟨by omega, by omega⟩ ⟨by omega, by omega⟩ ⟨by omega, by omega⟩ hi hi2 hx hli hu hj2 hF hM)
    | false =>
      rw [Bool.false_or]
      rcases hw with hj2 | ⟨i2, hj2, hj3, hi2, hj5⟩
      · have fin : (∃ c', rch c c' ∧ PG jp_Q R b lk ch M0 L xs n fa c' ∧ (jp_FUN k mo be (ct + 1) b rest c'.1) ∧ jp_kH n fa s lk nx cu a0 a1 a2 b ch c'.2) → ∃ c', rch c c' ∧ PG jp_Q R b lk ch M0 L xs n fa c' ∧ jp_Z (ek n fa 112 (jp_ok n fa) (i + 1)) n fa k mo be s lk nx cu a0 a1 a2 b ch rest c' := fun ⟨c1, r1, p1, f1, m1⟩ => by
          obtain ⟨c2, r2, p2, f2, m2⟩ := jp_te_m (by omega) p1 hb ⟨by omega, by omega⟩ ⟨by omega, by omega⟩ ⟨by omega, by omega⟩ ⟨by omega, by omega⟩ ⟨by omega, by omega⟩ ⟨by omega, by omega⟩ ⟨by omega, by omega⟩ ⟨by omega, by omega⟩ ⟨by omega, by omega⟩ f1 m1
          exact ⟨c2, r1.tr r2, p2, Or.inr ⟨ek_none hj2, f2, m2⟩⟩
        by_cases hu : uq n fa i = 97
        · have hx : xq n fa i = false ∧ vq n fa i ≠ 98 := by
            unfold jp_ok at hok
            rw [decide_eq_true hu] at hok
            rcases hx : xq n fa i with _ | _
            · rw [hx] at hok
              exact ⟨rfl, of_decide_eq_false hok⟩
            · rw [hx] at hok
              cases hok
          obtain ⟨hx, hv⟩ := hx
          have hvb := hP.1.v i hx
          rcases Int.lt_or_gt_of_ne hv with h9 | h9
          · exact fin (jp_tf0v_m (by omega) hP hb ⟨by omega, by omega⟩ ⟨by omega, by omega⟩ ⟨by omega, by omega⟩ ⟨by omega, by omega⟩ ⟨by omega, by omega⟩ ⟨by omega, by omega⟩ ⟨by omega, by omega⟩ ⟨by omega, by omega⟩ ⟨by omega, by omega⟩ hi hx hli ⟨by omega, by omega⟩ hu hj2 hF hM)
          · exact fin (jp_tf0w_m (by omega) hP hb ⟨by omega, by omega⟩ ⟨by omega, by omega⟩ ⟨by omega, by omega⟩ ⟨by omega, by omega⟩ ⟨by omega, by omega⟩ ⟨by omega, by omega⟩ ⟨by omega, by omega⟩ ⟨by omega, by omega⟩ ⟨by omega, by omega⟩ hi hx hli ⟨by omega, by omega⟩ hu hj2 hF hM)
        · have hub := hP.1.u i
          exact fin (jp_tf0g_m (by omega) hP hb ⟨by omega, by omega⟩ ⟨by omega, by omega⟩ ⟨by omega, by omega⟩ ⟨by omega, by omega⟩ ⟨by omega, by omega⟩ ⟨by omega, by omega⟩ ⟨by omega, by omega⟩ ⟨by omega, by omega⟩ ⟨by omega, by omega⟩ hi hli ⟨by omega, by omega⟩ hj2 hF hM)
      · have hgap := pq_gap (n := n) (fa := fa) (hli.trans hj5.symm) (by omega) hi2
        have fin : (∃ c', rch c c' ∧ PG jp_Q R b lk ch M0 L xs n fa c' ∧ (jp_FU k mo be i2 (ct + 1) b rest c'.1) ∧ jp_kH n fa s lk nx cu a0 a1 a2 b ch c'.2) → ∃ c', rch c c' ∧ PG jp_Q R b lk ch M0 L xs n fa c' ∧ jp_Z (ek n fa 112 (jp_ok n fa) (i + 1)) n fa k mo be s lk nx cu a0 a1 a2 b ch rest c' := fun ⟨c1, r1, p1, f1, m1⟩ => by
          obtain ⟨c3, r3, p3, b3⟩ := ih i2 c1 (ct + 1) (by omega) p1 f1 m1 ⟨hi2, hj5⟩ (by omega)
          rw [ek_at (by omega) hj2]
          exact ⟨c3, r1.tr r3, p3, b3⟩
        by_cases hu : uq n fa i = 97
        · have hx : xq n fa i = false ∧ vq n fa i ≠ 98 := by
            unfold jp_ok at hok
            rw [decide_eq_true hu] at hok
            rcases hx : xq n fa i with _ | _
            · rw [hx] at hok
              exact ⟨rfl, of_decide_eq_false hok⟩
            · rw [hx] at hok
              cases hok
          obtain ⟨hx, hv⟩ := hx
          have hvb := hP.1.v i hx
          rcases Int.lt_or_gt_of_ne hv with h9 | h9
          · exact fin (jp_tf1v_m (by omega) hP hb ⟨by omega, by omega⟩ ⟨by omega, by omega⟩ ⟨by omega, by omega⟩ ⟨by omega, by omega⟩ ⟨by omega, by omega⟩ ⟨by omega, by omega⟩ ⟨by omega, by omega⟩ ⟨by omega, by omega⟩ ⟨by omega, by omega⟩ hi hi2 hx hli ⟨by omega, by omega⟩ hu hj2 hF hM)
          · exact fin (jp_tf1w_m (by omega) hP hb ⟨by omega, by omega⟩ ⟨by omega, by omega⟩ ⟨by omega, by omega⟩ ⟨by omega, by omega⟩ ⟨by omega, by omega⟩ ⟨by omega, by omega⟩ ⟨by omega, by omega⟩ ⟨by omega, by omega⟩ ⟨by omega, by omega⟩ hi hi2 hx hli ⟨by omega, by omega⟩ hu hj2 hF hM)
        · have hub := hP.1.u i
          exact fin (jp_tf1g_m (by omega) hP hb ⟨by omega, by omega⟩ ⟨by omega, by omega⟩ ⟨by omega, by omega⟩ ⟨by omega, by omega⟩ ⟨by omega, by omega⟩ ⟨by omega, by omega⟩ ⟨by omega, by omega⟩ ⟨by omega, by omega⟩ ⟨by omega, by omega⟩ hi hi2 hli ⟨by omega, by omega⟩ hj2 hF hM)
theorem jp_run {R : SyM} {L : Nat} {xs : Nat → Int32} {rest : List MsF} {n : Nat} {fa : Fa} {M0 : Nat → Nat → Value} {k mo be s lk nx cu a0 a1 a2 b ch : Int} {c : MsC} (hr : rest.length ≤ 15) (hmo : mo = 500) (hb : 0 ≤ b ∧ b ≤ 3) (hlk : 0 ≤ lk ∧ lk ≤ 5) (hnx : -1 ≤ nx ∧ nx ≤ 3) (hcu : 0 ≤ cu ∧ cu ≤ 2) (hch : 0 ≤ ch ∧ ch ≤ 2) (hk : 0 ≤ k ∧ k ≤ 400) (hs : 1 ≤ s ∧ s ≤ 900) (hP : PG jp_Q R b lk ch M0 L xs n fa c) (hF : jp_F15 k mo be rest c.1) (hM : jp_kA0 n fa s lk nx cu a0 a1 a2 b ch c.2) : ∃ c', rch c c' ∧ PG jp_Q R b lk ch M0 L xs n fa c' ∧ jp_Z (ek n fa 112 (jp_ok n fa) 0) n fa k mo be s lk nx cu a0 a1 a2 b ch rest c' := by
  have hn := hP.1.nr
  obtain ⟨i, hi1, hi, hli⟩ := nf_0 (n := n) (fa := fa) (a := 112) (by decide)
  obtain ⟨c1, r1, p1, f1, m1⟩ := jp_t_m (by omega) hP hb ⟨by omega, by omega⟩ ⟨by omega, by omega⟩ ⟨by omega, by omega⟩ ⟨by omega, by omega⟩ ⟨by omega, by omega⟩ ⟨by omega, by omega⟩ ⟨by omega, by omega⟩ ⟨by omega, by omega⟩ (by omega) hi1 hF hM
  obtain ⟨c3, r3, p3, b3⟩ := jp_Ul hr hmo hb hlk hnx hcu hch hk hs (n + 2) i c1 0 (by omega) p1 f1 m1 ⟨hi, hli⟩ (by omega)
  rw [ek_at (by omega) hi1]
  exact ⟨c3, r1.tr r3, p3, b3⟩
