/-! THE START: what the Statement gives of it is what the small machine has at its start. -/
def am_sp : List Nat := [11, 46, 81, 105, 125, 159, 164, 169, 174, 180, 186, 192, 197, 204, 323, 335, 347, 358, 369, 380, 400, 411, 419, 430, 435, 443, 449, 470]
def am_swp : List Nat := [787, 878, 895, 1206, 1215, 1221, 1222, 1223, 1224, 1225, 1226, 1227, 1228, 1229, 1230, 1232, 1233, 1234, 1235, 1236, 1237, 1238, 1239, 1240, 1241, 1242, 1243, 1244]
def am_zws : List (Nat × Cond) := [(1156, .laysStatic "java/lang/String" "COMPACT_STRINGS" "Z"), (64, .initialized "java/lang/String"), (1220, .arrayOver (.object "java/lang/String")), (1172, .laysStatic "jdk/internal/util/Preconditions" "SIOOBE_FORMATTER" "Ljava/util/function/BiFunction;"), (66, .initialized "jdk/internal/util/Preconditions")]
def am_fwz : List (Nat × Cond) := [(7, .isRef (.static "jdk/internal/util/Preconditions" "SIOOBE_FORMATTER" "Ljava/util/function/BiFunction;")), (6, .eq (.static "java/lang/String" "COMPACT_STRINGS" "Z") (.int 1))]
def am_fl : List Cond := flatC (Jvm.Cond.and given_1 narrow_1)
def am_tm (i : Nat) : Term := .string (am_sr i).1 (am_sr i).2.1
def am_tl (i : Nat) : List Nat := am_txs.getD i []
def am_val (i : Nat) : Term := .field (am_tm i) "java/lang/String" "value" "[B"
def am_fq (i : Nat) : Bool := decide (am_fl[am_sp.getD i 0]? = some (.exactly (am_tm i) "java/lang/String")) && (decide (am_fl[am_sp.getD i 0 + 1]? = some (.eq (.field (am_tm i) "java/lang/String" "coder" "B") (.int 0))) && (decide (am_fl[am_sp.getD i 0 + 2]? = some (.arrayOf (am_val i) .byte)) && (decide (am_fl[am_sp.getD i 0 + 3]? = some (.eq (.length (am_val i)) (.int (Int32.ofNat (am_tl i).length)))) &&
  ((List.range (am_tl i).length).all (fun j => decide (am_fl[am_sp.getD i 0 + 4 + j]? = some (.eq (.elem (am_val i) (.int (Int32.ofNat j))) (.int (Int32.ofNat ((am_tl i).getD j 0)))))) && (Nat.blt (am_tl i).length 2147483648 && decide (am_lw (am_swp.getD i 0) = some (.stringRef (am_sr i).1 (am_sr i).2.1 (am_sr i).2.2)))))))
set_option maxRecDepth 100000 in
theorem am_fqs : (List.range am_NS).all am_fq = true := by decide +kernel
set_option maxRecDepth 100000 in
theorem am_zwk : am_zws.all (fun q => decide (am_lw q.1 = some q.2)) = true := by decide +kernel
theorem am_zw {w : Cond} (k : Nat) (h : (am_zws.getD k (0, .initialized "")).2 = w) (hk : k < am_zws.length) : w ∈ lw_tbl := by
  have h1 := List.all_eq_true.mp am_zwk am_zws[k] (List.getElem_mem hk)
  rw [← h, List.getD_eq_getElem?_getD, List.getElem?_eq_getElem hk]
  exact am_lw_in (of_decide_eq_true h1)
set_option maxRecDepth 100000 in
theorem am_fzk : am_fwz.all (fun q => decide (am_fl[q.1]? = some q.2)) = true := by decide +kernel
theorem am_fz {w : Cond} (k : Nat) (h : (am_fwz.getD k (0, .initialized "")).2 = w) (hk : k < am_fwz.length) : w ∈ am_fl := by
  have h1 := List.all_eq_true.mp am_fzk am_fwz[k] (List.getElem_mem hk)
  rw [← h, List.getD_eq_getElem?_getD, List.getElem?_eq_getElem hk]
  exact List.mem_of_getElem? (of_decide_eq_true h1)
section AmStart
variable {s : State} {b L : Nat} {xs0 : Nat → Int32}
theorem am_T_tbl {args : Array Value} (hts : ∀ w ∈ lw_tbl, w.before args s = true) : ∀ w ∈ am_T, w.before args s = true := fun w hw => hts w (List.mem_filter.mp hw).1
/-- the texts -/
theorem am_st1 (hts : ∀ w ∈ lw_tbl, w.before #[Value.ref b] s = true) (hgv : ∀ w ∈ am_fl, w.before #[Value.ref b] s = true) {i : Nat} (hi : i < am_NS) :
    ∃ q : Nat × Nat, (am_tm i).eval #[Value.ref b] s none [] s = some (.ref q.1) ∧ vk_R (am_sr i).1 (am_sr i).2.1 (am_sr i).2.2 q.1 s ∧ va_O "java/lang/String" q.1 (am_A s.heap.size) s s.heap ∧ va_OF "java/lang/String" "value" "[B" (.ref q.2) q.1 (am_A s.heap.size) s s.heap ∧ va_OF "java/lang/String" "coder" "B" (.int 0) q.1 (am_A s.heap.size) s s.heap ∧ va_T .byte q.2 (am_tl i).length (fun j => .int (Int32.ofNat ((am_tl i).getD j 0))) (am_A s.heap.size) s s.heap := by
  have hA : ∀ a : Nat, a < s.heap.size → ¬ am_A s.heap.size a := fun a h1 h2 => absurd h1 (Nat.not_lt.mpr h2)
  have hq := List.all_eq_true.mp am_fqs i (List.mem_range.mpr hi)
  obtain ⟨h1, hq1⟩ := Bool.and_eq_true_iff.mp hq
  obtain ⟨h2, hq2⟩ := Bool.and_eq_true_iff.mp hq1
  obtain ⟨h3, hq3⟩ := Bool.and_eq_true_iff.mp hq2
  obtain ⟨h4, hq4⟩ := Bool.and_eq_true_iff.mp hq3
  obtain ⟨h5, hq5⟩ := Bool.and_eq_true_iff.mp hq4
  obtain ⟨h6, h7⟩ := Bool.and_eq_true_iff.mp hq5
  have g : ∀ {k : Nat} {w : Cond}, decide (am_fl[k]? = some w) = true → w.before #[Value.ref b] s = true := fun h => hgv _ (List.mem_of_getElem? (of_decide_eq_true h))
  obtain ⟨a, c, cA, kA, q1, q2, q3, q4, q5, q6, -⟩ := Cond.exactly_spec (args := #[Value.ref b]) (first := s) (o := none) (s := s) (idx := []) (g h1)
  obtain ⟨t, ht, hT⟩ := va_Tof (f := fun j => .int (Int32.ofNat ((am_tl i).getD j 0))) (A := am_A s.heap.size) (am_blt h6) (g h3) (va_eqt (g h4)) (fun j hj => va_eqt (g (List.all_eq_true.mp h5 j (List.mem_range.mpr hj)))) hA
  exact ⟨(a, t), q1, vk_R.of (hts _ (am_lw_in (of_decide_eq_true h7))) q1, ⟨cA, q3, q5, by rw [q6]; exact q2, hA a (Array.getElem?_eq_some_iff.mp q3).1⟩, vk_OFof q1 ht hA, vk_OFof q1 (va_eqt (g h2)) hA, hT⟩
theorem am_E0 (hts : ∀ w ∈ lw_tbl, w.before #[Value.ref b] s = true) (hX0 : va_X b L xs0 s s.heap) (hb : b < s.heap.size) (hL : L ≤ 1000000) (hgv0 : (Jvm.Cond.and given_1 narrow_1).before #[Value.ref b] s = true) :
    ∃ (D : va_G) (ax : Nat → Nat) (xs : Nat → Int32), ax am_EXT = b ∧ (∀ j, j < L → xs j = xs0 j) ∧ am_E D s.heap.size L xs ax s s.heap := by
  have hgv : ∀ w ∈ am_fl, w.before #[Value.ref b] s = true := flat_of_before _ hgv0
  have hA : ∀ a : Nat, a < s.heap.size → ¬ am_A s.heap.size a := fun a h1 h2 => absurd h1 (Nat.not_lt.mpr h2)
  have htT := am_T_tbl hts
  have hz : ∀ (k : Nat) {w : Cond}, (am_zws.getD k (0, .initialized "")).2 = w → k < am_zws.length → w.before #[Value.ref b] s = true := fun k _ h hk => hts _ (am_zw k h hk)
  have hf : ∀ (k : Nat) {w : Cond}, (am_fwz.getD k (0, .initialized "")).2 = w → k < am_fwz.length → w.before #[Value.ref b] s = true := fun k _ h hk => hgv _ (am_fz k h hk)
  -- the classes
  have hD : ∀ c : Nat, ∃ q : ClassId × (Nat → Nat), c < 11 → u_Kn s (am_RX c) (am_TX c) (am_NX c) q.1 q.2 := by
    intro c
    by_cases hc : c < 11
    · obtain ⟨cC, iS, h⟩ := u_known htT (am_uws hc) (htT _ (am_inst hc))
      exact ⟨(cC, iS), fun _ => h⟩
    · exact ⟨(0, fun _ => 0), fun h => absurd h hc⟩
  obtain ⟨dd, hdd⟩ := Classical.axiomOfChoice hD
  -- the texts
  have hS0 : ∀ i : Nat, ∃ q : Nat × Nat, i < am_NS → (am_tm i).eval #[Value.ref b] s none [] s = some (.ref q.1) ∧ vk_R (am_sr i).1 (am_sr i).2.1 (am_sr i).2.2 q.1 s ∧ va_O "java/lang/String" q.1 (am_A s.heap.size) s s.heap ∧ va_OF "java/lang/String" "value" "[B" (.ref q.2) q.1 (am_A s.heap.size) s s.heap ∧ va_OF "java/lang/String" "coder" "B" (.int 0) q.1 (am_A s.heap.size) s s.heap ∧ va_T .byte q.2 (am_tl i).length (fun j => .int (Int32.ofNat ((am_tl i).getD j 0))) (am_A s.heap.size) s s.heap := by
    intro i
    by_cases hi : i < am_NS
    · obtain ⟨q, h⟩ := am_st1 hts hgv hi
      exact ⟨q, fun _ => h⟩
    · exact ⟨(0, 0), fun h => absurd h hi⟩
  obtain ⟨sd, hsd⟩ := Classical.axiomOfChoice hS0
  -- the static
  obtain ⟨zt, fl, hfl⟩ : ∃ (zt : Nat) (fl : Int32), va_Z "jdk/internal/util/Preconditions" "SIOOBE_FORMATTER" "Ljava/util/function/BiFunction;" (cond (decide (fl = 0)) .null (.ref zt)) (am_A s.heap.size) s s.heap := by
    rcases va_Zqof (hz 3 rfl (by decide)) (hz 4 rfl (by decide)) (hf 0 rfl (by decide)) hA with h | ⟨t, h⟩
    · exact ⟨0, 0, h⟩
    · exact ⟨t, 1, h⟩
  have hX : va_X b L (fun j => cond (Nat.beq j 1000000) fl (xs0 j)) s s.heap := by
    obtain ⟨scr, x1, x2, x3, x4, x5⟩ := hX0
    refine ⟨scr, x1, x2, x3, x4, fun j hj => ?_⟩
    rw [x5 j hj]
    show _ = some (Value.int (cond (Nat.beq j 1000000) fl (xs0 j)))
    rw [am_beq_f (show j ≠ 1000000 by omega)]
    rfl
  have hsz : am_sz (fun j => cond (Nat.beq j 1000000) fl (xs0 j)) = cond (decide (fl = 0)) .null (.ref (am_EXT + 2)) := by
    show cond (decide (cond (Nat.beq 1000000 1000000) fl (xs0 1000000) = 0)) Value.null (Value.ref (am_EXT + 2)) = _
    rw [am_beq_t]
    rfl
  have hxs : ∀ j, j < L → (fun j => cond (Nat.beq j 1000000) fl (xs0 j)) j = xs0 j := fun j hj => by
    show cond (Nat.beq j 1000000) fl (xs0 j) = xs0 j
    rw [am_beq_f (by omega)]
    rfl
  generalize (fun j => cond (Nat.beq j 1000000) fl (xs0 j)) = xs at hX hsz hxs
  refine ⟨(fun c => (dd c).1, fun c => (dd c).2), fun k => cond (Nat.beq k am_EXT) b (cond (Nat.blt k (am_EXT + 4)) zt (cond (Nat.blt k (am_EXT + 4 + am_NS)) (sd (k - (am_EXT + 4))).1 (sd (k - (am_EXT + 4 + am_NS))).2)), xs, by show cond (Nat.beq am_EXT am_EXT) b _ = b; rw [am_beq_t]; rfl, hxs, ?_⟩
  have bltT : ∀ {x y : Nat}, x < y → Nat.blt x y = true := fun h => Nat.ble_eq_true_of_le h
  have bltF : ∀ {x y : Nat}, y ≤ x → Nat.blt x y = false := fun {x y} h => by
    cases e : Nat.blt x y with
    | true => exact absurd (am_blt e) (Nat.not_lt.mpr h)
    | false => rfl
  generalize hax : (fun k => cond (Nat.beq k am_EXT) b (cond (Nat.blt k (am_EXT + 4)) zt (cond (Nat.blt k (am_EXT + 4 + am_NS)) (sd (k - (am_EXT + 4))).1 (sd (k - (am_EXT + 4 + am_NS))).2))) = ax
  have ax0 : ax am_EXT = b := by rw [← hax]; show cond (Nat.beq am_EXT am_EXT) _ _ = _; rw [am_beq_t]; rfl
  have ax1 : ax (am_EXT + 2) = zt := by
    rw [← hax]
    show cond (Nat.beq (am_EXT + 2) am_EXT) _ (cond (Nat.blt (am_EXT + 2) (am_EXT + 4)) zt _) = _
    rw [am_beq_f (by omega), bltT (by omega)]
    rfl
  have ax2 : ∀ i, i < am_NS → ax (am_EXT + 4 + i) = (sd i).1 := fun i hi => by
    rw [← hax]
    show cond (Nat.beq (am_EXT + 4 + i) am_EXT) _ (cond (Nat.blt (am_EXT + 4 + i) (am_EXT + 4)) _ (cond (Nat.blt (am_EXT + 4 + i) (am_EXT + 4 + am_NS)) (sd (am_EXT + 4 + i - (am_EXT + 4))).1 _)) = _
    rw [am_beq_f (by omega), bltF (by omega), bltT (by omega), show am_EXT + 4 + i - (am_EXT + 4) = i by omega]
    rfl
  have ax3 : ∀ i, i < am_NS → ax (am_EXT + 4 + am_NS + i) = (sd i).2 := fun i hi => by
    rw [← hax]
    show cond (Nat.beq (am_EXT + 4 + am_NS + i) am_EXT) _ (cond (Nat.blt (am_EXT + 4 + am_NS + i) (am_EXT + 4)) _ (cond (Nat.blt (am_EXT + 4 + am_NS + i) (am_EXT + 4 + am_NS)) _ (sd (am_EXT + 4 + am_NS + i - (am_EXT + 4 + am_NS))).2)) = _
    rw [am_beq_f (by omega), bltF (by omega), bltF (by omega), show am_EXT + 4 + am_NS + i - (am_EXT + 4 + am_NS) = i by omega]
    rfl
  clear hax
  -- what I0 and M0 say
  have i0 : am_I0 L am_EXT = (71, L) := by
    unfold am_I0
    rw [bltF (Nat.le_refl _), am_beq_t]; rfl
  have i1 : ∀ i, i < 3 → am_I0 L (am_EXT + 1 + i) = (0, 0) := fun i hi => by
    unfold am_I0
    rw [bltF (by omega), am_beq_f (by omega), bltT (by omega)]
    rfl
  have i2 : ∀ i, i < am_NS → am_I0 L (am_EXT + 4 + i) = (77, 2) := fun i hi => by
    unfold am_I0
    rw [bltF (by omega), am_beq_f (by omega), bltF (by omega), bltT (by omega)]; rfl
  have i3 : ∀ i, i < am_NS → am_I0 L (am_EXT + 4 + am_NS + i) = (74, (am_tl i).length) := fun i hi => by
    unfold am_I0
    rw [bltF (by omega), am_beq_f (by omega), bltF (by omega), bltF (by omega), bltT (by omega), show am_EXT + 4 + am_NS + i - (am_EXT + 4 + am_NS) = i by omega]
    rfl
  have i4 : ∀ k, am_EXT + 4 + am_NS + am_NS ≤ k → am_I0 L k = (0, 0) := fun k hk => by
    unfold am_I0
    rw [bltF (by omega), am_beq_f (by omega), bltF (by omega), bltF (by omega), bltF (by omega)]; rfl
  have m0 : ∀ j, am_M0 xs am_EXT j = .int (xs j) := fun j => by
    unfold am_M0
    rw [bltF (Nat.le_refl _), am_beq_t]; rfl
  have m2 : ∀ i j, i < am_NS → am_M0 xs (am_EXT + 4 + i) j = cond (Nat.beq j 0) (.ref (am_EXT + 4 + i + am_NS)) (.int 0) := fun i j hi => by
    unfold am_M0
    rw [bltF (by omega), am_beq_f (by omega), bltF (by omega), bltT (by omega)]; rfl
  have m3 : ∀ i j, i < am_NS → am_M0 xs (am_EXT + 4 + am_NS + i) j = .int (Int32.ofNat ((am_tl i).getD j 0)) := fun i j hi => by
    unfold am_M0
    rw [bltF (by omega), am_beq_f (by omega), bltF (by omega), bltF (by omega), bltT (by omega), show am_EXT + 4 + am_NS + i - (am_EXT + 4 + am_NS) = i by omega]
    rfl
  have place : ∀ k, am_EXT ≤ k → k = am_EXT ∨ (∃ i, i < 3 ∧ k = am_EXT + 1 + i) ∨ (∃ i, i < am_NS ∧ k = am_EXT + 4 + i) ∨ (∃ i, i < am_NS ∧ k = am_EXT + 4 + am_NS + i) ∨ am_EXT + 4 + am_NS + am_NS ≤ k := fun k hk => by
    by_cases h1 : k = am_EXT
    · exact Or.inl h1
    · by_cases h2 : k < am_EXT + 4
      · exact Or.inr (Or.inl ⟨k - (am_EXT + 1), by omega, by omega⟩)
      · by_cases h3 : k < am_EXT + 4 + am_NS
        · exact Or.inr (Or.inr (Or.inl ⟨k - (am_EXT + 4), by omega, by omega⟩))
        · by_cases h4 : k < am_EXT + 4 + am_NS + am_NS
          · exact Or.inr (Or.inr (Or.inr (Or.inl ⟨k - (am_EXT + 4 + am_NS), by omega, by omega⟩)))
          · exact Or.inr (Or.inr (Or.inr (Or.inr (by omega))))
  have lt_of : ∀ {a : Nat}, ¬ am_A s.heap.size a → a < s.heap.size := fun h => Nat.lt_of_not_le h
  refine ⟨⟨fun c q hq => ?_, fun k q hq => by cases hq⟩, fun w hw => ?_, va_AO.of (hz 2 rfl (by decide)), fun k hk h1 h2 => ?_, fun k hk h1 => ?_, fun i hi => ?_, ?_, va_Zof (hz 0 rfl (by decide)) (hz 1 rfl (by decide)) (va_eqi (hf 1 rfl (by decide))) hA, Nat.le_refl _⟩
  · have hc : c < 11 := (List.getElem?_eq_some_iff.mp hq).1
    rw [am_cl_has hc] at hq
    cases hq
    exact hdd c hc
  · obtain ⟨w1, w2⟩ := List.mem_filter.mp hw
    have w3 := hts w w1
    cases w <;> first | exact va_Nw.of rfl w3 | exact Bool.noConfusion (show false = true from w2)
  · rcases place k hk with rfl | ⟨i, hi, rfl⟩ | ⟨i, hi, rfl⟩ | ⟨i, hi, rfl⟩ | h5
    · rw [i0, ax0]
      obtain ⟨scr, x1, x2, x3, x4, x5⟩ := hX
      exact ⟨hb, scr, x1, x2, x3, by show L ≤ _; omega, by rw [x4], fun j hj => by show scr.slots[j]? = some (am_tr ax (am_M0 xs am_EXT j)); rw [m0]; exact x5 j hj⟩
    · rw [i1 i hi] at h1
      exact absurd h1 (by show ¬ 71 ≤ 0; decide)
    · rw [i2 i hi] at h2
      exact absurd h2 (by show ¬ 77 ≤ 76; decide)
    · obtain ⟨-, -, -, -, -, cell, x1, x2, x3, x4, x5, x6, x7⟩ := hsd i hi
      rw [i3 i hi, ax3 i hi]
      refine ⟨lt_of x7, cell, x1, x2, x3, x4, x5, fun j hj => ?_⟩
      show cell.slots[j]? = some (am_tr ax (am_M0 xs (am_EXT + 4 + am_NS + i) j))
      rw [m3 i j hi, x6 j hj]
      rfl
    · rw [i4 k h5] at h1
      exact absurd h1 (by show ¬ 71 ≤ 0; decide)
  · rcases place k hk with rfl | ⟨i, hi, rfl⟩ | ⟨i, hi, rfl⟩ | ⟨i, hi, rfl⟩ | h5
    · rw [i0] at h1
      exact absurd h1 (by show ¬ 71 = 77; decide)
    · rw [i1 i hi] at h1
      exact absurd h1 (by show ¬ 0 = 77; decide)
    · obtain ⟨-, -, x1, x2, x3, -⟩ := hsd i hi
      rw [ax2 i hi, m2 i 0 hi, m2 i 1 hi]
      refine ⟨x1, ?_, x3⟩
      show va_OF "java/lang/String" "value" "[B" (.ref (ax (am_EXT + 4 + i + am_NS))) _ _ _ _
      rw [show am_EXT + 4 + i + am_NS = am_EXT + 4 + am_NS + i by omega, ax3 i hi]
      exact x2
    · rw [i3 i hi] at h1
      exact absurd h1 (by show ¬ 74 = 77; decide)
    · rw [i4 k h5] at h1
      exact absurd h1 (by show ¬ 0 = 77; decide)
  · rw [ax2 i hi]
    exact (hsd i hi).2.1
  · rw [hsz]
    cases hd9 : decide (fl = 0) with
    | true =>
      rw [hd9] at hfl
      exact hfl
    | false =>
      rw [hd9] at hfl
      show va_Z _ _ _ (.ref (ax (am_EXT + 2))) _ _ _
      rw [ax1]
      exact hfl
end AmStart
