/-! SUMS, PRODUCTS .. with unknowns. -/
section SyB
variable {pv : Nat → Int} {G : SyG} {a b x y z : SyV} {u v w : Value}
theorem sy_bm {z : Int} (h1 : -2147483648 ≤ z) (h2 : z ≤ 2147483647) : z.bmod 4294967296 = z := by
  rw [Int.bmod_def]
  split <;> omega
theorem sy_and255 (p : Int32) (h0 : 0 ≤ p.toInt) (h1 : p.toInt ≤ 255) : p &&& 255 = p := by
  apply Int32.toBitVec_inj.mp
  have hb : (p &&& 255).toBitVec = p.toBitVec &&& 255#32 := rfl
  rw [hb]
  apply BitVec.eq_of_toNat_eq
  rw [BitVec.toNat_and]
  have e : p.toInt = p.toBitVec.toInt := rfl
  have hl := p.toBitVec.isLt
  rw [e, BitVec.toInt_eq_toNat_cond] at h0 h1
  have h8 : (255#32).toNat = 2 ^ 8 - 1 := rfl
  rw [h8]
  apply Nat.and_two_pow_sub_one_of_lt_two_pow
  split at h0
  · rename_i hc
    rw [if_pos hc] at h1
    omega
  · omega
theorem sy_i2c (p : Int32) (h0 : 0 ≤ p.toInt) (h1 : p.toInt ≤ 65535) : (p.toUInt32 % 65536).toInt32 = p := by
  apply Int32.toBitVec_inj.mp
  have hb : (p.toUInt32 % 65536).toInt32.toBitVec = p.toBitVec % 65536#32 := rfl
  rw [hb]
  apply BitVec.eq_of_toNat_eq
  rw [BitVec.toNat_umod]
  have e : p.toInt = p.toBitVec.toInt := rfl
  have hl := p.toBitVec.isLt
  rw [e, BitVec.toInt_eq_toNat_cond] at h0 h1
  have h8 : (65536#32).toNat = 65536 := rfl
  rw [h8]
  apply Nat.mod_eq_of_lt
  split at h0
  · rename_i hc
    rw [if_pos hc] at h1
    omega
  · omega
theorem sy_i2b (p : Int32) (h0 : -128 ≤ p.toInt) (h1 : p.toInt ≤ 127) : p.toInt8.toInt32 = p := by
  apply Int32.toInt_inj.mp
  rw [Int8.toInt_toInt32, Int32.toInt_toInt8, Int.bmod_def]
  split <;> omega
theorem sy_mod (p q : Int32) (hp0 : 0 ≤ p.toInt) (hq0 : 0 < q.toInt) : (p - p / q * q).toInt = p.toInt % q.toInt ∧ 0 ≤ (p - p / q * q).toInt ∧ (p - p / q * q).toInt < q.toInt := by
  have hp1 := Int32.toInt_lt p
  have hq1 := Int32.toInt_lt q
  have d1 : 0 ≤ p.toInt / q.toInt := Int.ediv_nonneg hp0 (by omega)
  have d2 : p.toInt / q.toInt ≤ p.toInt := Int.ediv_le_self _ hp0
  have d3 : p.toInt / q.toInt * q.toInt ≤ p.toInt := Int.ediv_mul_le _ (by omega)
  have d4 : 0 ≤ p.toInt / q.toInt * q.toInt := Int.mul_nonneg d1 (by omega)
  have d5 := Int.emod_add_mul_ediv p.toInt q.toInt
  have e1 : (p / q).toInt = p.toInt / q.toInt := by
    rw [Int32.toInt_div, Int.tdiv_eq_ediv_of_nonneg hp0]
    exact sy_bm (by omega) (by omega)
  have e2 : (p / q * q).toInt = p.toInt / q.toInt * q.toInt := by
    rw [Int32.toInt_mul, e1]
    exact sy_bm (by omega) (by omega)
  have d6 : p.toInt - p.toInt / q.toInt * q.toInt = p.toInt % q.toInt := by
    rw [Int.mul_comm] ; omega
  have d7 := Int.emod_nonneg p.toInt (show q.toInt ≠ 0 by omega)
  have d8 := Int.emod_lt_of_pos p.toInt hq0
  have e3 : (p - p / q * q).toInt = p.toInt % q.toInt := by
    rw [Int32.toInt_sub, e2, d6]
    exact sy_bm (by omega) (by omega)
  exact ⟨e3, by omega, by omega⟩
theorem sy_andn (p q : Int32) (h0 : 0 ≤ q.toInt) : 0 ≤ (p &&& q).toInt ∧ (p &&& q).toInt ≤ q.toInt := by
  have hb : (p &&& q).toBitVec = p.toBitVec &&& q.toBitVec := rfl
  have e : (p &&& q).toInt = (p.toBitVec &&& q.toBitVec).toInt := rfl
  have e2 : q.toInt = q.toBitVec.toInt := rfl
  have hl := q.toBitVec.isLt
  have h9 : (p.toBitVec &&& q.toBitVec).toNat ≤ q.toBitVec.toNat := by rw [BitVec.toNat_and]; exact Nat.and_le_right
  rw [e, e2]
  rw [e2] at h0
  rw [BitVec.toInt_eq_toNat_cond] at h0 ⊢
  rw [BitVec.toInt_eq_toNat_cond]
  split at h0
  · rename_i hc
    rw [if_pos hc, if_pos (by omega)]
    omega
  · omega
theorem sy_of (x : Int32) : Int32.ofInt x.toInt = x := Int32.ofInt_toInt x
theorem sy_ok_v (hg : sy_g pv G) {w : Int32} (h0 : a.1 = 0) (h : -2147483648 ≤ sy_n pv a → sy_n pv a ≤ 2147483647 → w.toInt = sy_n pv a) : sy_v pv (sy_ok G a) (.int w) := by
  unfold sy_ok
  cases hb : sy_rg G a (-2147483648) 2147483647 with
  | false => exact sy_v_any w
  | true =>
    obtain ⟨k1, k2⟩ := sy_rg_ok hg hb
    simp only [cond_true]
    unfold sy_v
    rw [h0]
    exact ⟨w, rfl, h k1 k2⟩
theorem sy_nf_n (c : Int) (p f : Nat) : sy_n pv (sy_nf c p f) = c + f * pv p ∧ (sy_nf c p f).1 = 0 := by
  unfold sy_nf
  cases hb : Nat.beq f 0 with
  | true =>
    rw [am_beq hb]
    exact ⟨by simp [sy_n], rfl⟩
  | false => exact ⟨rfl, rfl⟩
theorem sy_ib_ok (hg : sy_g pv G) {k : Nat} (h : sy_ib G k x y = some z) (hx : sy_v pv x u) (hy : sy_v pv y v) : ∃ p q w : Int32, u = .int p ∧ v = .int q ∧ am_ib k p q = some w ∧ sy_v pv z (.int w) := by
  unfold sy_ib at h
  cases hb : (Nat.beq x.1 0 && Nat.beq y.1 0) with
  | true =>
    rw [hb] at h
    simp only [cond_true] at h
    obtain ⟨h3, h4⟩ := Bool.and_eq_true_iff.mp hb
    obtain ⟨p, rfl, ep⟩ := hx.int (am_beq h3)
    obtain ⟨q, rfl, eq⟩ := hy.int (am_beq h4)
    refine ⟨p, q, ?_⟩
    cases hc : (Nat.beq x.2.2.2 0 && Nat.beq y.2.2.2 0) with
    | true =>
      rw [hc] at h
      simp only [cond_true] at h
      obtain ⟨h5, h6⟩ := Bool.and_eq_true_iff.mp hc
      rw [sy_n0 (am_beq h5)] at ep
      rw [sy_n0 (am_beq h6)] at eq
      rw [← ep, ← eq, sy_of, sy_of] at h
      split at h
      · rename_i w hw
        cases h
        exact ⟨w, rfl, rfl, hw, sy_v_i w⟩
      · cases h
    | false =>
      rw [hc] at h
      simp only [cond_false] at h
      split at h
      · have h := Option.some.inj h
        refine ⟨p + q, rfl, rfl, rfl, ?_⟩
        rw [← h]
        have key : ∀ c : SyV, c.1 = 0 → sy_n pv c = p.toInt + q.toInt → sy_v pv (sy_ok G c) (.int (p + q)) := fun c h0 hn => sy_ok_v hg h0 fun e1 e2 => by
          rw [Int32.toInt_add, hn]
          rw [hn] at e1 e2
          exact sy_bm e1 e2
        cases h5 : Nat.beq y.2.2.2 0 with
        | true =>
          refine key _ rfl ?_
          rw [ep, eq, sy_n0 (am_beq h5)]
          unfold sy_n
          dsimp only
          omega
        | false =>
          cases h6 : Nat.beq x.2.2.2 0 with
          | true =>
            refine key _ rfl ?_
            rw [ep, eq, sy_n0 (am_beq h6)]
            unfold sy_n
            dsimp only
            omega
          | false => exact sy_v_any _
      · have h := Option.some.inj h
        refine ⟨p - q, rfl, rfl, rfl, ?_⟩
        rw [← h]
        have key : ∀ c : SyV, c.1 = 0 → sy_n pv c = p.toInt - q.toInt → sy_v pv (sy_ok G c) (.int (p - q)) := fun c h0 hn => sy_ok_v hg h0 fun e1 e2 => by
          rw [Int32.toInt_sub, hn]
          rw [hn] at e1 e2
          exact sy_bm e1 e2
        cases h5 : Nat.beq y.2.2.2 0 with
        | true =>
          refine key _ rfl ?_
          rw [ep, eq, sy_n0 (am_beq h5)]
          unfold sy_n
          dsimp only
          omega
        | false =>
          cases h6 : (Nat.beq x.2.2.2 y.2.2.2 && Nat.beq x.2.2.1 y.2.2.1) with
          | true =>
            refine key _ rfl ?_
            obtain ⟨k1, k2⟩ := Bool.and_eq_true_iff.mp h6
            rw [ep, eq, sy_n_i]
            unfold sy_n
            rw [am_beq k1, am_beq k2]
            omega
          | false => exact sy_v_any _
      · have h := Option.some.inj h
        refine ⟨p * q, rfl, rfl, rfl, ?_⟩
        rw [← h]
        cases h5 : (Nat.beq y.2.2.2 0 && sy_le 0 y.2.1) with
        | true =>
          obtain ⟨k1, k2⟩ := Bool.and_eq_true_iff.mp h5
          have k2 := sy_le_t k2
          obtain ⟨n1, n2⟩ := sy_nf_n (pv := pv) (x.2.1 * y.2.1) x.2.2.1 (x.2.2.2 * y.2.1.toNat)
          have e : sy_n pv (sy_nf (x.2.1 * y.2.1) x.2.2.1 (x.2.2.2 * y.2.1.toNat)) = p.toInt * q.toInt := by
            rw [n1, ep, eq, sy_n0 (am_beq k1)]
            unfold sy_n
            rw [Int.natCast_mul, Int.toNat_of_nonneg k2, Int.add_mul, Int.mul_assoc, Int.mul_assoc, Int.mul_comm y.2.1]
          refine sy_ok_v hg n2 fun e1 e2 => ?_
          rw [Int32.toInt_mul, e]
          rw [e] at e1 e2
          exact sy_bm e1 e2
        | false => exact sy_v_any _
      · obtain ⟨h5, h6⟩ := am_cnd h
        obtain ⟨k1, k2⟩ := Bool.and_eq_true_iff.mp h5
        have k2 := sy_lt_t k2
        rw [sy_n0 (am_beq k1)] at eq
        have q0 : ¬ q = 0 := fun e => by rw [e] at eq; have : (0 : Int32).toInt = 0 := rfl; omega
        refine ⟨p / q, rfl, rfl, by unfold am_ib; rw [decide_eq_false q0]; rfl, ?_⟩
        have h6 := Option.some.inj h6
        rw [← h6]
        cases h7 : (sy_rg G x 0 2147483647 && (sy_le 0 x.2.1 && Nat.beq (x.2.2.2 % y.2.1.toNat) 0)) with
        | true =>
          obtain ⟨g1, g2⟩ := Bool.and_eq_true_iff.mp h7
          obtain ⟨g2, g3⟩ := Bool.and_eq_true_iff.mp g2
          have hlo := sy_rg_ok hg g1
          obtain ⟨n1, n2⟩ := sy_nf_n (pv := pv) (x.2.1 / y.2.1) x.2.2.1 (x.2.2.2 / y.2.1.toNat)
          have hd : x.2.2.2 = y.2.1.toNat * (x.2.2.2 / y.2.1.toNat) := by
            have := Nat.div_add_mod x.2.2.2 y.2.1.toNat
            rw [am_beq g3] at this
            omega
          have e : sy_n pv (sy_nf (x.2.1 / y.2.1) x.2.2.1 (x.2.2.2 / y.2.1.toNat)) = p.toInt / q.toInt := by
            rw [n1, ep, eq]
            unfold sy_n
            rw [show ((x.2.2.2 : Nat) : Int) = y.2.1 * ((x.2.2.2 / y.2.1.toNat : Nat) : Int) by
              conv => lhs; rw [hd]
              rw [Int.natCast_mul, Int.toNat_of_nonneg (by omega)]]
            rw [Int.mul_assoc, Int.add_mul_ediv_left _ _ (by omega)]
          refine sy_ok_v hg n2 fun e1 e2 => ?_
          rw [Int32.toInt_div, e]
          rw [e] at e1 e2
          rw [Int.tdiv_eq_ediv_of_nonneg (by omega)]
          exact sy_bm e1 e2
        | false => exact sy_v_any _
      · obtain ⟨h5, h6⟩ := am_cnd h
        obtain ⟨k1, k2⟩ := Bool.and_eq_true_iff.mp h5
        have k2 := sy_lt_t k2
        rw [sy_n0 (am_beq k1)] at eq
        have q0 : ¬ q = 0 := fun e => by rw [e] at eq; have : (0 : Int32).toInt = 0 := rfl; omega
        refine ⟨p - p / q * q, rfl, rfl, by unfold am_ib; rw [decide_eq_false q0]; rfl, ?_⟩
        have h6 := Option.some.inj h6
        rw [← h6]
        cases h7 : (sy_rg G x 0 2147483647 && (sy_le 0 x.2.1 && Nat.beq (x.2.2.2 % y.2.1.toNat) 0)) with
        | true =>
          obtain ⟨g1, g2⟩ := Bool.and_eq_true_iff.mp h7
          obtain ⟨g2, g3⟩ := Bool.and_eq_true_iff.mp g2
          have hlo := sy_rg_ok hg g1
          have hd : x.2.2.2 = y.2.1.toNat * (x.2.2.2 / y.2.1.toNat) := by
            have := Nat.div_add_mod x.2.2.2 y.2.1.toNat
            rw [am_beq g3] at this
            omega
          have e : p.toInt % q.toInt = x.2.1 % y.2.1 := by
            rw [ep, eq]
            unfold sy_n
            rw [show ((x.2.2.2 : Nat) : Int) = y.2.1 * ((x.2.2.2 / y.2.1.toNat : Nat) : Int) by
              conv => lhs; rw [hd]
              rw [Int.natCast_mul, Int.toNat_of_nonneg (by omega)]]
            rw [Int.mul_assoc, Int.add_mul_emod_self_left]
          have hp0 : 0 ≤ p.toInt := by omega
          have hq0 : 0 < q.toInt := by omega
          have hp1 := Int32.toInt_lt p
          have hq1 := Int32.toInt_lt q
          have d1 : 0 ≤ p.toInt / q.toInt := Int.ediv_nonneg hp0 (by omega)
          have d2 : p.toInt / q.toInt ≤ p.toInt := Int.ediv_le_self _ hp0
          have d3 : p.toInt / q.toInt * q.toInt ≤ p.toInt := Int.ediv_mul_le _ (by omega)
          have d4 : 0 ≤ p.toInt / q.toInt * q.toInt := Int.mul_nonneg d1 (by omega)
          have d5 := Int.emod_add_mul_ediv p.toInt q.toInt
          have e1 : (p / q).toInt = p.toInt / q.toInt := by
            rw [Int32.toInt_div, Int.tdiv_eq_ediv_of_nonneg hp0]
            exact sy_bm (by omega) (by omega)
          have e2 : (p / q * q).toInt = p.toInt / q.toInt * q.toInt := by
            rw [Int32.toInt_mul, e1]
            exact sy_bm (by omega) (by omega)
          simp only [cond_true]
          refine ⟨_, rfl, ?_⟩
          rw [Int32.toInt_sub, e2, sy_n_i, ← e]
          have d6 : p.toInt - p.toInt / q.toInt * q.toInt = p.toInt % q.toInt := by
            rw [Int.mul_comm] ; omega
          rw [d6]
          exact sy_bm (by have := Int.emod_nonneg p.toInt (show q.toInt ≠ 0 by omega); omega) (by have := Int.emod_lt_of_pos p.toInt hq0; omega)
        | false =>
          simp only [cond_false]
          cases h8 : sy_rg G x 0 2147483647 with
          | false => exact sy_v_any _
          | true =>
            have hlo := sy_rg_ok hg h8
            obtain ⟨m1, m2, m3⟩ := sy_mod p q (by omega) (by omega)
            refine ⟨_, rfl, m2, ?_⟩
            rw [sy_n0 rfl]
            show _ ≤ y.2.1 - 1
            omega
      · have h6 := Option.some.inj h
        rw [← h6]
        refine ⟨p &&& q, rfl, rfl, rfl, ?_⟩
        cases h7 : (Nat.beq y.2.2.2 0 && (sy_eq y.2.1 255 && sy_rg G x 0 255)) with
        | true =>
          obtain ⟨g1, g2⟩ := Bool.and_eq_true_iff.mp h7
          obtain ⟨g2, g3⟩ := Bool.and_eq_true_iff.mp g2
          obtain ⟨l1, l2⟩ := sy_rg_ok hg g3
          rw [sy_n0 (am_beq g1), sy_eq_t g2] at eq
          have eq2 : q = 255 := Int32.toInt_inj.mp eq
          simp only [cond_true]
          rw [eq2, sy_and255 p (by omega) (by omega)]
          exact hx
        | false => exact sy_v_any _
      · cases h; exact ⟨_, rfl, rfl, rfl, sy_v_any _⟩
      · cases h; exact ⟨_, rfl, rfl, rfl, sy_v_any _⟩
      · cases h; exact ⟨_, rfl, rfl, rfl, sy_v_any _⟩
      · cases h; exact ⟨_, rfl, rfl, rfl, sy_v_any _⟩
      · cases h
  | false =>
    rw [hb] at h
    simp only [cond_false] at h
    obtain ⟨h1, h2⟩ := am_cnd h
    cases h2
    obtain ⟨h1, h3⟩ := Bool.and_eq_true_iff.mp h1
    obtain ⟨h4, h5⟩ := Bool.and_eq_true_iff.mp h1
    obtain ⟨h6, h7⟩ := Bool.and_eq_true_iff.mp h3
    have isint : ∀ {c : SyV} {t : Value}, (Nat.beq c.1 0 || (Nat.beq c.1 2 || Nat.beq c.1 8)) = true → sy_v pv c t → ∃ p : Int32, t = .int p := fun {c t} hc ht => by
      rcases Bool.or_eq_true_iff.mp hc with e | e
      · obtain ⟨p, rfl, -⟩ := ht.int (am_beq e); exact ⟨p, rfl⟩
      · refine ht.anyi ?_
        unfold sy_kd
        rcases Bool.or_eq_true_iff.mp e with e | e <;> rw [am_beq e] <;> rfl
    obtain ⟨p, rfl⟩ := isint h4 hx
    obtain ⟨q, rfl⟩ := isint h5 hy
    refine ⟨p, q, ?_⟩
    have hq : (Nat.beq k 3 || Nat.beq k 4) = true → ¬ q = 0 := fun e e0 => by
      rw [e] at h7
      obtain ⟨k1, k2⟩ := Bool.and_eq_true_iff.mp (show (Nat.beq y.1 0 && (Nat.beq y.2.2.2 0 && !(sy_eq y.2.1 0))) = true from h7)
      obtain ⟨k2, k3⟩ := Bool.and_eq_true_iff.mp k2
      obtain ⟨q', hq', eq'⟩ := hy.int (am_beq k1)
      cases hq'
      rw [sy_n0 (am_beq k2), e0] at eq'
      rw [show y.2.1 = 0 from eq'.symm] at k3
      cases k3
    have hk := am_blt h6
    unfold am_ib
    match k, hk, hq with
    | 0, _, _ => exact ⟨_, rfl, rfl, rfl, sy_v_any _⟩
    | 1, _, _ => exact ⟨_, rfl, rfl, rfl, sy_v_any _⟩
    | 2, _, _ => exact ⟨_, rfl, rfl, rfl, sy_v_any _⟩
    | 3, _, hq => exact ⟨_, rfl, rfl, by rw [decide_eq_false (hq rfl)]; rfl, sy_v_any _⟩
    | 4, _, hq => exact ⟨_, rfl, rfl, by rw [decide_eq_false (hq rfl)]; rfl, sy_v_any _⟩
    | 5, _, _ => exact ⟨_, rfl, rfl, rfl, sy_v_any _⟩
    | 6, _, _ => exact ⟨_, rfl, rfl, rfl, sy_v_any _⟩
    | 7, _, _ => exact ⟨_, rfl, rfl, rfl, sy_v_any _⟩
    | 8, _, _ => exact ⟨_, rfl, rfl, rfl, sy_v_any _⟩
    | 9, _, _ => exact ⟨_, rfl, rfl, rfl, sy_v_any _⟩
theorem sy_ibf_ok {k : Nat} (h : sy_ibf k x y = some z) (hx : sy_v pv x u) (hy : sy_v pv y v) : ∃ p q w : Int32, u = .int p ∧ v = .int q ∧ am_ib k p q = some w ∧ sy_v pv z (.int w) := by
  unfold sy_ibf at h
  obtain ⟨h1, h⟩ := am_cnd h
  obtain ⟨a1, h1⟩ := Bool.and_eq_true_iff.mp h1
  obtain ⟨a2, h1⟩ := Bool.and_eq_true_iff.mp h1
  obtain ⟨a3, h1⟩ := Bool.and_eq_true_iff.mp h1
  obtain ⟨a4, h1⟩ := Bool.and_eq_true_iff.mp h1
  obtain ⟨b1, h1⟩ := Bool.and_eq_true_iff.mp h1
  obtain ⟨b2, h1⟩ := Bool.and_eq_true_iff.mp h1
  obtain ⟨b3, b4⟩ := Bool.and_eq_true_iff.mp h1
  have b1 := sy_le_t b1
  have b2 := sy_le_t b2
  have b3 := sy_le_t b3
  have b4 := sy_le_t b4
  obtain ⟨p, rfl, ep⟩ := hx.int (am_beq a1)
  obtain ⟨q, rfl, eq⟩ := hy.int (am_beq a2)
  rw [sy_n0 (am_beq a3)] at ep
  rw [sy_n0 (am_beq a4)] at eq
  refine ⟨p, q, ?_⟩
  split at h
  · cases h
    refine ⟨p + q, rfl, rfl, rfl, _, rfl, ?_⟩
    rw [sy_n0 rfl, Int32.toInt_add, ep, eq]
    exact sy_bm (by omega) (by omega)
  · cases h
    refine ⟨p - q, rfl, rfl, rfl, _, rfl, ?_⟩
    rw [sy_n0 rfl, Int32.toInt_sub, ep, eq]
    exact sy_bm (by omega) (by omega)
  · cases h
theorem sy_ib8_ok {k : Nat} (h : sy_ib8 k x y = some z) (hx : sy_v pv x u) (hy : sy_v pv y v) : ∃ p q w : Int32, u = .int p ∧ v = .int q ∧ am_ib k p q = some w ∧ sy_v pv z (.int w) := by
  unfold sy_ib8 at h
  have h8 : ∀ {a : SyV} {t : Value}, sy_v pv a t → Nat.beq a.1 8 = true → ∃ x : Int32, t = .int x ∧ 0 ≤ x.toInt ∧ x.toInt ≤ sy_n pv a := fun {a t} ha hk => by
    unfold sy_v at ha
    rw [am_beq hk] at ha
    exact ha
  cases hc : (Nat.beq y.1 0 && (Nat.beq y.2.2.2 0 && (sy_le 0 y.2.1 && sy_le y.2.1 2147483647))) with
  | true =>
    rw [hc] at h
    simp only [cond_true] at h
    obtain ⟨a1, a2⟩ := Bool.and_eq_true_iff.mp hc
    obtain ⟨a2, a3⟩ := Bool.and_eq_true_iff.mp a2
    obtain ⟨a3, a4⟩ := Bool.and_eq_true_iff.mp a3
    have a3 := sy_le_t a3
    obtain ⟨q, rfl, eq⟩ := hy.int (am_beq a1)
    rw [sy_n0 (am_beq a2)] at eq
    split at h
    · obtain ⟨b1, b2⟩ := am_cnd h
      cases b2
      obtain ⟨p, rfl⟩ := hx.anyi (am_beq b1)
      obtain ⟨c1, c2⟩ := sy_andn p q (by omega)
      refine ⟨p, q, p &&& q, rfl, rfl, rfl, _, rfl, c1, ?_⟩
      rw [sy_n0 rfl]
      show _ ≤ y.2.1
      omega
    · obtain ⟨b1, b2⟩ := am_cnd h
      cases b2
      obtain ⟨b1, b3⟩ := Bool.and_eq_true_iff.mp b1
      have b3 := sy_lt_t b3
      obtain ⟨p, rfl, p1, p2⟩ := h8 hx b1
      obtain ⟨m1, m2, m3⟩ := sy_mod p q p1 (by omega)
      have q0 : ¬ q = 0 := fun e => by rw [e] at eq; have : (0 : Int32).toInt = 0 := rfl; omega
      refine ⟨p, q, p - p / q * q, rfl, rfl, by unfold am_ib; rw [decide_eq_false q0]; rfl, _, rfl, m2, ?_⟩
      rw [sy_n0 rfl]
      show _ ≤ y.2.1 - 1
      omega
    · cases h
  | false =>
    rw [hc] at h
    simp only [cond_false] at h
    obtain ⟨b1, b2⟩ := am_cnd h
    cases b2
    obtain ⟨c1, b1⟩ := Bool.and_eq_true_iff.mp b1
    obtain ⟨c2, b1⟩ := Bool.and_eq_true_iff.mp b1
    obtain ⟨c3, b1⟩ := Bool.and_eq_true_iff.mp b1
    obtain ⟨c4, b1⟩ := Bool.and_eq_true_iff.mp b1
    obtain ⟨c5, b1⟩ := Bool.and_eq_true_iff.mp b1
    obtain ⟨c6, b1⟩ := Bool.and_eq_true_iff.mp b1
    obtain ⟨c7, c8⟩ := Bool.and_eq_true_iff.mp b1
    have c4 := sy_le_t c4
    have c5 := sy_le_t c5
    have c8 := sy_le_t c8
    obtain ⟨p, rfl, ep⟩ := hx.int (am_beq c2)
    rw [sy_n0 (am_beq c3)] at ep
    obtain ⟨q, rfl, q1, q2⟩ := h8 hy c6
    rw [sy_n0 (am_beq c7)] at q2
    have e9 : (p + q).toInt = p.toInt + q.toInt := by
      rw [Int32.toInt_add]
      exact sy_bm (by omega) (by omega)
    rw [am_beq c1]
    refine ⟨p, q, p + q, rfl, rfl, rfl, _, rfl, by omega, ?_⟩
    rw [sy_n0 rfl]
    show _ ≤ x.2.1 + y.2.1
    omega
theorem sy_pos {x : Int32} (h : 0 ≤ x.toInt) : (x.toBitVec.toNat : Int) = x.toInt := by
  have e : x.toInt = x.toBitVec.toInt := rfl
  have hl := x.toBitVec.isLt
  rw [e] at h ⊢
  rw [BitVec.toInt_eq_toNat_cond] at h ⊢
  split at h
  · rename_i hc
    rw [if_pos hc]
  · omega
theorem sy_ofn {x : Int32} {m : Nat} (h : x.toBitVec.toNat = m) (hm : m < 2147483648) : x.toInt = m := by
  have e : x.toInt = x.toBitVec.toInt := rfl
  rw [e, BitVec.toInt_eq_toNat_cond, h, if_pos (by omega)]
theorem sy_shl8 (x : Int32) (h0 : 0 ≤ x.toInt) (h1 : x.toInt < 8388608) : (x <<< ((8 : Int32) &&& 31)).toInt = x.toInt * 256 := by
  have hp := sy_pos h0
  have e : (x <<< ((8 : Int32) &&& 31)).toBitVec = x.toBitVec <<< 8 := by
    show x.toBitVec <<< (((8 : Int32) &&& 31).toBitVec.smod 32) = _
    rfl
  have hn : (x <<< ((8 : Int32) &&& 31)).toBitVec.toNat = x.toBitVec.toNat * 256 := by
    rw [e, BitVec.toNat_shiftLeft, Nat.shiftLeft_eq, Nat.mod_eq_of_lt (by omega)]
  have := sy_ofn hn (by omega)
  omega
theorem sy_orb (x y : Int32) (m : Nat) (hx : x.toInt = (m : Int) * 256) (hm : m < 8388608) (h0 : 0 ≤ y.toInt) (h1 : y.toInt ≤ 127) : (x ||| y).toInt = x.toInt + y.toInt := by
  have hpx := sy_pos (x := x) (by omega)
  have hpy := sy_pos h0
  have hn : (x ||| y).toBitVec.toNat = x.toBitVec.toNat + y.toBitVec.toNat := by
    show (x.toBitVec ||| y.toBitVec).toNat = _
    rw [BitVec.toNat_or]
    have e1 : x.toBitVec.toNat = 2 ^ 8 * m := by omega
    rw [e1]
    exact (Nat.two_pow_add_eq_or_of_lt (i := 8) (show y.toBitVec.toNat < 2 ^ 8 by omega) m).symm
  have := sy_ofn hn (by omega)
  omega
theorem sy_shr (x : Int32) (k : Nat) (s : Int32) (hs : (s &&& 31).toBitVec.smod 32 = BitVec.ofNat 32 k) (hk : k < 32) (d : Int) (hd : ((2 ^ k : Nat) : Int) = d) : (x >>> (s &&& 31)).toInt = x.toInt / d := by
  show (BitVec.sshiftRight' x.toBitVec ((s &&& 31).toBitVec.smod 32)).toInt = _
  rw [hs, BitVec.sshiftRight_eq', BitVec.toInt_sshiftRight, Int.shiftRight_eq_div_pow, BitVec.toNat_ofNat, Nat.mod_eq_of_lt (by omega), hd]
  rfl
theorem sy_low (z : Int32) (m b : Int) (h : z.toInt = m * 256 + b) (h0 : 0 ≤ b) (h1 : b ≤ 127) : z.toInt8.toInt32.toInt = b := by
  rw [Int8.toInt_toInt32, Int32.toInt_toInt8, h, Int.bmod_def]
  omega
theorem sy_pk_b {pv : Nat → Int} {p : Nat} : ∀ {q : Nat}, (∀ i, i < q → 0 ≤ pv (p + i) ∧ pv (p + i) ≤ 127) → q ≤ 3 → 0 ≤ sy_pk pv p q ∧ sy_pk pv p q < 8388608 := by
  intro q h hq
  have h0 := fun (k : 0 < q) => h 0 k
  have h1 := fun (k : 1 < q) => h 1 k
  have h2 := fun (k : 2 < q) => h 2 k
  match q, hq with
  | 0, _ => exact ⟨Int.le_refl _, show (0 : Int) < 8388608 by decide⟩
  | 1, _ =>
    have := h0 (by omega)
    show 0 ≤ 0 * 256 + pv (p + 0) ∧ 0 * 256 + pv (p + 0) < 8388608
    omega
  | 2, _ =>
    have := h0 (by omega)
    have := h1 (by omega)
    show 0 ≤ (0 * 256 + pv (p + 0)) * 256 + pv (p + 1) ∧ (0 * 256 + pv (p + 0)) * 256 + pv (p + 1) < 8388608
    omega
  | 3, _ =>
    have := h0 (by omega)
    have := h1 (by omega)
    have := h2 (by omega)
    show 0 ≤ ((0 * 256 + pv (p + 0)) * 256 + pv (p + 1)) * 256 + pv (p + 2) ∧ ((0 * 256 + pv (p + 0)) * 256 + pv (p + 1)) * 256 + pv (p + 2) < 8388608
    omega
theorem sy_bp_ok (hg : sy_g pv G) (h : sy_bp G x = true) (hx : sy_v pv x u) : ∃ p : Int32, u = .int p ∧ p.toInt = pv x.2.2.1 ∧ 0 ≤ pv x.2.2.1 ∧ pv x.2.2.1 ≤ 127 := by
  unfold sy_bp at h
  obtain ⟨h1, h⟩ := Bool.and_eq_true_iff.mp h
  obtain ⟨h2, h⟩ := Bool.and_eq_true_iff.mp h
  obtain ⟨h3, h4⟩ := Bool.and_eq_true_iff.mp h
  obtain ⟨l1, l2⟩ := sy_rg_ok hg h4
  obtain ⟨p, rfl, e⟩ := hx.int (am_beq h1)
  have en : sy_n pv x = pv x.2.2.1 := by
    unfold sy_n
    rw [sy_eq_t h3, am_beq h2]
    simp
  exact ⟨p, rfl, by omega, by omega, by omega⟩
theorem sy_ib9_ok (hg : sy_g pv G) {k : Nat} (h : sy_ib9 G k x y = some z) (hx : sy_v pv x u) (hy : sy_v pv y v) : ∃ p q w : Int32, u = .int p ∧ v = .int q ∧ am_ib k p q = some w ∧ sy_v pv z (.int w) := by
  have hcy : ∀ {c : Int}, Nat.beq y.1 0 = true → Nat.beq y.2.2.2 0 = true → sy_eq y.2.1 c = true → -2147483648 ≤ c → c ≤ 2147483647 → v = .int (Int32.ofInt c) := fun {c} h1 h2 h3 l1 l2 => by
    obtain ⟨q, rfl, e⟩ := hy.int (am_beq h1)
    rw [sy_n0 (am_beq h2), sy_eq_t h3] at e
    rw [← e, sy_of]
  have h9 : Nat.beq x.1 9 = true → ∃ p : Int32, u = .int p ∧ (∃ q : Nat, x.2.1 = q ∧ q ≤ 4 ∧ p.toInt = sy_pk pv x.2.2.1 q ∧ ∀ i, i < q → 0 ≤ pv (x.2.2.1 + i) ∧ pv (x.2.2.1 + i) ≤ 127) := fun hk => by
    unfold sy_v at hx
    rw [am_beq hk] at hx
    exact hx
  unfold sy_ib9 at h
  split at h
  · obtain ⟨a1, h⟩ := am_cnd h
    obtain ⟨a1, a2⟩ := Bool.and_eq_true_iff.mp a1
    obtain ⟨a2, a3⟩ := Bool.and_eq_true_iff.mp a2
    have hv := hcy a1 a2 a3 (by decide) (by decide)
    subst hv
    cases hb : sy_bp G x with
    | true =>
      rw [hb] at h
      cases h
      obtain ⟨p, rfl, e, l1, l2⟩ := sy_bp_ok hg hb hx
      refine ⟨p, _, p <<< ((8 : Int32) &&& 31), rfl, rfl, rfl, _, rfl, 1, rfl, by omega, ?_, fun i hi => ?_⟩
      · rw [sy_shl8 p (by omega) (by omega), e]
        show _ = (0 * 256 + pv (x.2.2.1 + 0)) * 256
        rw [Nat.add_zero]
        omega
      · have : i = 0 := by omega
        subst this
        exact ⟨l1, l2⟩
    | false =>
      rw [hb] at h
      simp only [cond_false] at h
      obtain ⟨b1, h⟩ := am_cnd h
      cases h
      obtain ⟨b1, b2⟩ := Bool.and_eq_true_iff.mp b1
      obtain ⟨b2, b3⟩ := Bool.and_eq_true_iff.mp b2
      have b3 := sy_le_t b3
      obtain ⟨p, rfl, q, q1, q2, q3, q4⟩ := h9 b1
      obtain ⟨l1, l2⟩ := sy_pk_b q4 (by omega)
      exact ⟨p, _, p <<< ((8 : Int32) &&& 31), rfl, rfl, rfl, _, rfl, q, q1, by omega, by rw [sy_shl8 p (by omega) (by omega), q3], q4⟩
  · cases hb : (Nat.beq x.1 0 && (Nat.beq x.2.2.2 0 && (sy_eq x.2.1 0 && Nat.beq y.1 0))) with
    | true =>
      rw [hb] at h
      cases h
      obtain ⟨a1, a2⟩ := Bool.and_eq_true_iff.mp hb
      obtain ⟨a2, a3⟩ := Bool.and_eq_true_iff.mp a2
      obtain ⟨a3, a4⟩ := Bool.and_eq_true_iff.mp a3
      obtain ⟨p, rfl, e⟩ := hx.int (am_beq a1)
      rw [sy_n0 (am_beq a2), sy_eq_t a3] at e
      have e0 : p = 0 := Int32.toInt_inj.mp e
      obtain ⟨q, rfl, e2⟩ := hy.int (am_beq a4)
      refine ⟨p, q, q, rfl, rfl, ?_, hy⟩
      rw [e0]
      show some (0 ||| q) = some q
      rw [show (0 : Int32) ||| q = q from Int32.zero_or]
    | false =>
      rw [hb] at h
      simp only [cond_false] at h
      obtain ⟨b1, h⟩ := am_cnd h
      cases h
      obtain ⟨b1, b2⟩ := Bool.and_eq_true_iff.mp b1
      obtain ⟨b2, b3⟩ := Bool.and_eq_true_iff.mp b2
      have b3 := sy_eq_t b3
      obtain ⟨y0, rfl, e, l1, l2⟩ := sy_bp_ok hg b2 hy
      have hx9 := hx
      unfold sy_v at hx9
      rw [am_beq b1] at hx9
      obtain ⟨p, rfl, q, q1, q2, q3, q4⟩ := hx9
      obtain ⟨m1, m2⟩ := sy_pk_b q4 q2
      have hm : ((sy_pk pv x.2.2.1 q).toNat : Int) = sy_pk pv x.2.2.1 q := Int.toNat_of_nonneg m1
      have ey : y.2.2.1 = x.2.2.1 + q := by omega
      refine ⟨p, y0, p ||| y0, rfl, rfl, rfl, _, rfl, q + 1, by show x.2.1 + 1 = _; omega, by omega, ?_, fun i hi => ?_⟩
      · rw [sy_orb p y0 (sy_pk pv x.2.2.1 q).toNat (by rw [q3, hm]) (by omega) (by omega) (by omega), q3, e, ey]
        rfl
      · by_cases hi2 : i < q
        · exact q4 i hi2
        · have : i = q := by omega
          subst this
          show 0 ≤ pv (x.2.2.1 + i) ∧ pv (x.2.2.1 + i) ≤ 127
          rw [← ey]
          exact ⟨l1, l2⟩
  · obtain ⟨a1, h⟩ := am_cnd h
    obtain ⟨a1, a2⟩ := Bool.and_eq_true_iff.mp a1
    obtain ⟨a2, a3⟩ := Bool.and_eq_true_iff.mp a2
    obtain ⟨a3, a4⟩ := Bool.and_eq_true_iff.mp a3
    obtain ⟨p, rfl, q, q1, q2, q3, q4⟩ := h9 a1
    have q5 : q = 4 := by have := sy_eq_t a2; omega
    subst q5
    have p0 := q4 0 (by omega)
    have p1 := q4 1 (by omega)
    have p2 := q4 2 (by omega)
    have p3 := q4 3 (by omega)
    have e : p.toInt = ((pv (x.2.2.1 + 0) * 256 + pv (x.2.2.1 + 1)) * 256 + pv (x.2.2.1 + 2)) * 256 + pv (x.2.2.1 + 3) := by
      rw [q3]
      show (((0 * 256 + pv (x.2.2.1 + 0)) * 256 + pv (x.2.2.1 + 1)) * 256 + pv (x.2.2.1 + 2)) * 256 + pv (x.2.2.1 + 3) = _
      omega
    have fin : ∀ (s : Int32) (k : Nat) (d m b : Int) (j : Nat), v = .int s → (s &&& 31).toBitVec.smod 32 = BitVec.ofNat 32 k → k < 32 → ((2 ^ k : Nat) : Int) = d → p.toInt / d = m * 256 + b → 0 ≤ b → b ≤ 127 → b = pv j → ∃ p9 q w : Int32, Value.int p = .int p9 ∧ v = .int q ∧ am_ib 8 p9 q = some w ∧ sy_v pv (11, 0, j, 1) (.int w) := fun s k d m b j hv h1 h2 h3 h4 h5 h6 h7 =>
      ⟨p, s, p >>> (s &&& 31), rfl, hv, rfl, _, rfl, by rw [sy_low _ m b (by rw [sy_shr p k s h1 h2 d h3]; exact h4) h5 h6, h7]⟩
    cases c1 : sy_eq y.2.1 24 with
    | true =>
      rw [c1] at h
      cases h
      exact fin _ 24 16777216 0 (pv (x.2.2.1 + 0)) _ (hcy a3 a4 c1 (by decide) (by decide)) (by decide +kernel) (by omega) (by decide +kernel) (by omega) p0.1 p0.2 rfl
    | false =>
      rw [c1] at h
      simp only [cond_false] at h
      cases c2 : sy_eq y.2.1 16 with
      | true =>
        rw [c2] at h
        cases h
        exact fin _ 16 65536 (pv (x.2.2.1 + 0)) (pv (x.2.2.1 + 1)) _ (hcy a3 a4 c2 (by decide) (by decide)) (by decide +kernel) (by omega) (by decide +kernel) (by omega) p1.1 p1.2 rfl
      | false =>
        rw [c2] at h
        simp only [cond_false] at h
        cases c3 : sy_eq y.2.1 8 with
        | true =>
          rw [c3] at h
          cases h
          exact fin _ 8 256 (pv (x.2.2.1 + 0) * 256 + pv (x.2.2.1 + 1)) (pv (x.2.2.1 + 2)) _ (hcy a3 a4 c3 (by decide) (by decide)) (by decide +kernel) (by omega) (by decide +kernel) (by omega) p2.1 p2.2 rfl
        | false =>
          rw [c3] at h
          simp only [cond_false] at h
          obtain ⟨c4, h⟩ := am_cnd h
          cases h
          exact fin _ 0 1 ((pv (x.2.2.1 + 0) * 256 + pv (x.2.2.1 + 1)) * 256 + pv (x.2.2.1 + 2)) (pv (x.2.2.1 + 3)) _ (hcy a3 a4 c4 (by decide) (by decide)) (by decide +kernel) (by omega) (by decide +kernel) (by omega) p3.1 p3.2 rfl
  · cases h
theorem sy_ib7_ok (hg : sy_g pv G) {k : Nat} (h : sy_ib7 G k x y = some z) (hx : sy_v pv x u) (hy : sy_v pv y v) : ∃ p q w : Int32, u = .int p ∧ v = .int q ∧ am_ib k p q = some w ∧ sy_v pv z (.int w) := by
  unfold sy_ib7 at h
  obtain ⟨a1, h⟩ := am_cnd h
  obtain ⟨a1, a2⟩ := Bool.and_eq_true_iff.mp a1
  obtain ⟨a2, a3⟩ := Bool.and_eq_true_iff.mp a2
  obtain ⟨a3, a4⟩ := Bool.and_eq_true_iff.mp a3
  obtain ⟨a4, a5⟩ := Bool.and_eq_true_iff.mp a4
  obtain ⟨-, a6⟩ := Bool.and_eq_true_iff.mp a5
  have a4 := sy_lt_t a4
  obtain ⟨r1, r2⟩ := sy_rg_ok hg a6
  obtain ⟨p, rfl, ep⟩ := hx.int (am_beq a1)
  obtain ⟨q, rfl, eq⟩ := hy.int (am_beq a2)
  rw [sy_n0 (am_beq a3)] at eq
  have q0 : ¬ q = 0 := fun e => by rw [e] at eq; have : (0 : Int32).toInt = 0 := rfl; omega
  have hd : p.toInt / q.toInt = 0 := Int.ediv_eq_zero_of_lt (by omega) (by omega)
  have e1 : (p / q).toInt = 0 := by
    rw [Int32.toInt_div, Int.tdiv_eq_ediv_of_nonneg (by omega), hd]
    rfl
  split at h
  · cases h
    refine ⟨p, q, p / q, rfl, rfl, by unfold am_ib; rw [decide_eq_false q0]; rfl, _, rfl, ?_⟩
    exact e1.trans (sy_n0 (pv := pv) (a := (0, 0, 0, 0)) rfl).symm
  · cases h
    obtain ⟨m1, m2, m3⟩ := sy_mod p q (by omega) (by omega)
    refine ⟨p, q, p - p / q * q, rfl, rfl, by unfold am_ib; rw [decide_eq_false q0]; rfl, ?_⟩
    unfold sy_v
    rw [am_beq a1]
    refine ⟨_, rfl, ?_⟩
    rw [m1, Int.emod_eq_of_lt (by omega) (by omega)]
    exact ep
  · cases h
theorem sy_ib2_ok (hg : sy_g pv G) {k : Nat} (h : sy_ib2 G k x y = some z) (hx : sy_v pv x u) (hy : sy_v pv y v) : ∃ p q w : Int32, u = .int p ∧ v = .int q ∧ am_ib k p q = some w ∧ sy_v pv z (.int w) := by
  unfold sy_ib2 at h
  split at h
  · rename_i z9 hz
    cases h
    exact sy_ibf_ok hz hx hy
  · split at h
    · rename_i z9 hz
      cases h
      exact sy_ib9_ok hg hz hx hy
    split at h
    · rename_i z9 hz
      cases h
      exact sy_ib7_ok hg hz hx hy
    cases hc : (Nat.beq x.1 0 && Nat.beq y.1 0) with
    | true => rw [hc] at h; exact sy_ib_ok hg h hx hy
    | false =>
      rw [hc] at h
      simp only [cond_false] at h
      split at h
      · rename_i z9 hz
        cases h
        exact sy_ib8_ok hz hx hy
      · exact sy_ib_ok hg h hx hy
theorem sy_v_k (c : Int) : sy_v pv (sy_k c) (.int (Int32.ofInt c)) := by
  unfold sy_k
  cases hb : (sy_le (-1000000) c && sy_le c 1000000) with
  | true =>
    obtain ⟨h1, h2⟩ := Bool.and_eq_true_iff.mp hb
    have h1 := sy_le_t h1
    have h2 := sy_le_t h2
    refine ⟨_, rfl, ?_⟩
    rw [sy_n0 rfl, Int32.toInt_ofInt]
    exact sy_bm (by omega) (by omega)
  | false => exact ⟨_, rfl, by rw [sy_n0 rfl]; rfl⟩
end SyB
