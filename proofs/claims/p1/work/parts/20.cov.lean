/-! EVERY SCRIPT falls into a box. -/
theorem ay_rg (x : Int32) : -2147483648 ≤ x.toInt ∧ x.toInt ≤ 2147483647 := by
  have h1 := Int32.le_toInt x
  have h2 := Int32.toInt_lt x
  omega
theorem ay_and (x : Int32) : ∃ a, a < 32 ∧ x &&& 31 = Int32.ofNat a := by
  have hb : (x &&& 31).toBitVec = x.toBitVec &&& 31#32 := rfl
  have hn : (x &&& 31).toBitVec.toNat < 32 := by
    rw [hb, BitVec.toNat_and]
    have h9 : x.toBitVec.toNat &&& (31#32).toNat ≤ (31#32).toNat := Nat.and_le_right
    have h8 : (31#32).toNat = 31 := rfl
    omega
  refine ⟨(x &&& 31).toBitVec.toNat, hn, ?_⟩
  apply Int32.toBitVec_inj.mp
  apply BitVec.eq_of_toNat_eq
  rw [show (Int32.ofNat (x &&& 31).toBitVec.toNat).toBitVec = BitVec.ofNat 32 (x &&& 31).toBitVec.toNat from rfl, BitVec.toNat_ofNat, Nat.mod_eq_of_lt (by omega)]
def ay_F : Int × Int := (-2147483648, 2147483647)
theorem ay_mk {O : AyO} {xs : Nat → Int32} (h0 : xs 0 &&& 31 = O.1) (h1 : (O.2.getD 1 (0, 0)).1 ≤ (xs 1).toInt ∧ (xs 1).toInt ≤ (O.2.getD 1 (0, 0)).2) (h2 : (O.2.getD 2 (0, 0)).1 ≤ (xs 2).toInt ∧ (xs 2).toInt ≤ (O.2.getD 2 (0, 0)).2)
    (f0 : O.2.getD 0 (0, 0) = ay_F) (f3 : O.2.getD 3 (0, 0) = ay_F) (f4 : O.2.getD 4 (0, 0) = ay_F) (f5 : O.2.getD 5 (0, 0) = ay_F) : ay_H O xs := by
  refine ⟨h0, fun k hk => ?_⟩
  match k, hk with
  | 0, _ => rw [f0]; exact ay_rg _
  | 1, _ => exact h1
  | 2, _ => exact h2
  | 3, _ => rw [f3]; exact ay_rg _
  | 4, _ => rw [f4]; exact ay_rg _
  | 5, _ => rw [f5]; exact ay_rg _
  | k + 6, hk => exact absurd hk (by omega)
theorem ay_c0 {xs : Nat → Int32} (h : xs 0 &&& 31 = 0) : ∃ i, i < 58 ∧ ay_H (ay_bs.getD i (0, [])) xs := by
  have r1 := ay_rg (xs 1)
  have r2 := ay_rg (xs 2)
  exact ⟨0, by decide, ay_mk h (show (-2147483648) ≤ _ ∧ _ ≤ 2147483647 from ⟨by omega, by omega⟩) (show (-2147483648) ≤ _ ∧ _ ≤ 2147483647 from ⟨by omega, by omega⟩) rfl rfl rfl rfl⟩
theorem ay_c1 {xs : Nat → Int32} (h : xs 0 &&& 31 = 1) : ∃ i, i < 58 ∧ ay_H (ay_bs.getD i (0, [])) xs := by
  have r1 := ay_rg (xs 1)
  have r2 := ay_rg (xs 2)
  have p1 : ((-2147483648) ≤ (xs 1).toInt ∧ (xs 1).toInt ≤ (-1)) ∨ (0 ≤ (xs 1).toInt ∧ (xs 1).toInt ≤ 0) ∨ (1 ≤ (xs 1).toInt ∧ (xs 1).toInt ≤ 2147483647) := by omega
  rcases p1 with p1 | p1 | p1
  · exact ⟨1, by decide, ay_mk h (show (-2147483648) ≤ _ ∧ _ ≤ (-1) from ⟨by omega, by omega⟩) (show (-2147483648) ≤ _ ∧ _ ≤ 2147483647 from ⟨by omega, by omega⟩) rfl rfl rfl rfl⟩
  · exact ⟨2, by decide, ay_mk h (show 0 ≤ _ ∧ _ ≤ 0 from ⟨by omega, by omega⟩) (show (-2147483648) ≤ _ ∧ _ ≤ 2147483647 from ⟨by omega, by omega⟩) rfl rfl rfl rfl⟩
  · exact ⟨3, by decide, ay_mk h (show 1 ≤ _ ∧ _ ≤ 2147483647 from ⟨by omega, by omega⟩) (show (-2147483648) ≤ _ ∧ _ ≤ 2147483647 from ⟨by omega, by omega⟩) rfl rfl rfl rfl⟩
theorem ay_c2 {xs : Nat → Int32} (h : xs 0 &&& 31 = 2) : ∃ i, i < 58 ∧ ay_H (ay_bs.getD i (0, [])) xs := by
  have r1 := ay_rg (xs 1)
  have r2 := ay_rg (xs 2)
  exact ⟨4, by decide, ay_mk h (show (-2147483648) ≤ _ ∧ _ ≤ 2147483647 from ⟨by omega, by omega⟩) (show (-2147483648) ≤ _ ∧ _ ≤ 2147483647 from ⟨by omega, by omega⟩) rfl rfl rfl rfl⟩
theorem ay_c3 {xs : Nat → Int32} (h : xs 0 &&& 31 = 3) : ∃ i, i < 58 ∧ ay_H (ay_bs.getD i (0, [])) xs := by
  have r1 := ay_rg (xs 1)
  have r2 := ay_rg (xs 2)
  exact ⟨5, by decide, ay_mk h (show (-2147483648) ≤ _ ∧ _ ≤ 2147483647 from ⟨by omega, by omega⟩) (show (-2147483648) ≤ _ ∧ _ ≤ 2147483647 from ⟨by omega, by omega⟩) rfl rfl rfl rfl⟩
theorem ay_c4 {xs : Nat → Int32} (h : xs 0 &&& 31 = 4) : ∃ i, i < 58 ∧ ay_H (ay_bs.getD i (0, [])) xs := by
  have r1 := ay_rg (xs 1)
  have r2 := ay_rg (xs 2)
  have p1 : ((-2147483648) ≤ (xs 1).toInt ∧ (xs 1).toInt ≤ (-1)) ∨ (0 ≤ (xs 1).toInt ∧ (xs 1).toInt ≤ 2147483647) := by omega
  rcases p1 with p1 | p1
  · exact ⟨6, by decide, ay_mk h (show (-2147483648) ≤ _ ∧ _ ≤ (-1) from ⟨by omega, by omega⟩) (show (-2147483648) ≤ _ ∧ _ ≤ 2147483647 from ⟨by omega, by omega⟩) rfl rfl rfl rfl⟩
  · exact ⟨7, by decide, ay_mk h (show 0 ≤ _ ∧ _ ≤ 2147483647 from ⟨by omega, by omega⟩) (show (-2147483648) ≤ _ ∧ _ ≤ 2147483647 from ⟨by omega, by omega⟩) rfl rfl rfl rfl⟩
theorem ay_c5 {xs : Nat → Int32} (h : xs 0 &&& 31 = 5) : ∃ i, i < 58 ∧ ay_H (ay_bs.getD i (0, [])) xs := by
  have r1 := ay_rg (xs 1)
  have r2 := ay_rg (xs 2)
  exact ⟨8, by decide, ay_mk h (show (-2147483648) ≤ _ ∧ _ ≤ 2147483647 from ⟨by omega, by omega⟩) (show (-2147483648) ≤ _ ∧ _ ≤ 2147483647 from ⟨by omega, by omega⟩) rfl rfl rfl rfl⟩
theorem ay_c6 {xs : Nat → Int32} (h : xs 0 &&& 31 = 6) : ∃ i, i < 58 ∧ ay_H (ay_bs.getD i (0, [])) xs := by
  have r1 := ay_rg (xs 1)
  have r2 := ay_rg (xs 2)
  have p1 : ((-2147483648) ≤ (xs 1).toInt ∧ (xs 1).toInt ≤ (-1)) ∨ (0 ≤ (xs 1).toInt ∧ (xs 1).toInt ≤ 0) ∨ (1 ≤ (xs 1).toInt ∧ (xs 1).toInt ≤ 1) ∨ (2 ≤ (xs 1).toInt ∧ (xs 1).toInt ≤ 2) ∨ (3 ≤ (xs 1).toInt ∧ (xs 1).toInt ≤ 3) ∨ (4 ≤ (xs 1).toInt ∧ (xs 1).toInt ≤ 4) ∨ (5 ≤ (xs 1).toInt ∧ (xs 1).toInt ≤ 5) ∨ (6 ≤ (xs 1).toInt ∧ (xs 1).toInt ≤ 6) ∨ (7 ≤ (xs 1).toInt ∧ (xs 1).toInt ≤ 7) ∨ (8 ≤ (xs 1).toInt ∧ (xs 1).toInt ≤ 8) ∨ (9 ≤ (xs 1).toInt ∧ (xs 1).toInt ≤ 2147483647) := by omega
  rcases p1 with p1 | p1 | p1 | p1 | p1 | p1 | p1 | p1 | p1 | p1 | p1
  · exact ⟨9, by decide, ay_mk h (show (-2147483648) ≤ _ ∧ _ ≤ (-1) from ⟨by omega, by omega⟩) (show (-2147483648) ≤ _ ∧ _ ≤ 2147483647 from ⟨by omega, by omega⟩) rfl rfl rfl rfl⟩
  · exact ⟨10, by decide, ay_mk h (show 0 ≤ _ ∧ _ ≤ 0 from ⟨by omega, by omega⟩) (show (-2147483648) ≤ _ ∧ _ ≤ 2147483647 from ⟨by omega, by omega⟩) rfl rfl rfl rfl⟩
  · exact ⟨11, by decide, ay_mk h (show 1 ≤ _ ∧ _ ≤ 1 from ⟨by omega, by omega⟩) (show (-2147483648) ≤ _ ∧ _ ≤ 2147483647 from ⟨by omega, by omega⟩) rfl rfl rfl rfl⟩
  · exact ⟨12, by decide, ay_mk h (show 2 ≤ _ ∧ _ ≤ 2 from ⟨by omega, by omega⟩) (show (-2147483648) ≤ _ ∧ _ ≤ 2147483647 from ⟨by omega, by omega⟩) rfl rfl rfl rfl⟩
  · exact ⟨13, by decide, ay_mk h (show 3 ≤ _ ∧ _ ≤ 3 from ⟨by omega, by omega⟩) (show (-2147483648) ≤ _ ∧ _ ≤ 2147483647 from ⟨by omega, by omega⟩) rfl rfl rfl rfl⟩
  · exact ⟨14, by decide, ay_mk h (show 4 ≤ _ ∧ _ ≤ 4 from ⟨by omega, by omega⟩) (show (-2147483648) ≤ _ ∧ _ ≤ 2147483647 from ⟨by omega, by omega⟩) rfl rfl rfl rfl⟩
  · exact ⟨15, by decide, ay_mk h (show 5 ≤ _ ∧ _ ≤ 5 from ⟨by omega, by omega⟩) (show (-2147483648) ≤ _ ∧ _ ≤ 2147483647 from ⟨by omega, by omega⟩) rfl rfl rfl rfl⟩
  · exact ⟨16, by decide, ay_mk h (show 6 ≤ _ ∧ _ ≤ 6 from ⟨by omega, by omega⟩) (show (-2147483648) ≤ _ ∧ _ ≤ 2147483647 from ⟨by omega, by omega⟩) rfl rfl rfl rfl⟩
  · exact ⟨17, by decide, ay_mk h (show 7 ≤ _ ∧ _ ≤ 7 from ⟨by omega, by omega⟩) (show (-2147483648) ≤ _ ∧ _ ≤ 2147483647 from ⟨by omega, by omega⟩) rfl rfl rfl rfl⟩
  · exact ⟨18, by decide, ay_mk h (show 8 ≤ _ ∧ _ ≤ 8 from ⟨by omega, by omega⟩) (show (-2147483648) ≤ _ ∧ _ ≤ 2147483647 from ⟨by omega, by omega⟩) rfl rfl rfl rfl⟩
  · exact ⟨19, by decide, ay_mk h (show 9 ≤ _ ∧ _ ≤ 2147483647 from ⟨by omega, by omega⟩) (show (-2147483648) ≤ _ ∧ _ ≤ 2147483647 from ⟨by omega, by omega⟩) rfl rfl rfl rfl⟩
theorem ay_c7 {xs : Nat → Int32} (h : xs 0 &&& 31 = 7) : ∃ i, i < 58 ∧ ay_H (ay_bs.getD i (0, [])) xs := by
  have r1 := ay_rg (xs 1)
  have r2 := ay_rg (xs 2)
  have p1 : ((-2147483648) ≤ (xs 1).toInt ∧ (xs 1).toInt ≤ (-1)) ∨ (0 ≤ (xs 1).toInt ∧ (xs 1).toInt ≤ 2147483647) := by omega
  rcases p1 with p1 | p1
  · have p2 : ((-2147483648) ≤ (xs 2).toInt ∧ (xs 2).toInt ≤ (-1)) ∨ (0 ≤ (xs 2).toInt ∧ (xs 2).toInt ≤ 3) ∨ (4 ≤ (xs 2).toInt ∧ (xs 2).toInt ≤ 2147483647) := by omega
    rcases p2 with p2 | p2 | p2
    · exact ⟨20, by decide, ay_mk h (show (-2147483648) ≤ _ ∧ _ ≤ (-1) from ⟨by omega, by omega⟩) (show (-2147483648) ≤ _ ∧ _ ≤ (-1) from ⟨by omega, by omega⟩) rfl rfl rfl rfl⟩
    · exact ⟨21, by decide, ay_mk h (show (-2147483648) ≤ _ ∧ _ ≤ (-1) from ⟨by omega, by omega⟩) (show 0 ≤ _ ∧ _ ≤ 3 from ⟨by omega, by omega⟩) rfl rfl rfl rfl⟩
    · exact ⟨22, by decide, ay_mk h (show (-2147483648) ≤ _ ∧ _ ≤ (-1) from ⟨by omega, by omega⟩) (show 4 ≤ _ ∧ _ ≤ 2147483647 from ⟨by omega, by omega⟩) rfl rfl rfl rfl⟩
  · have p2 : ((-2147483648) ≤ (xs 2).toInt ∧ (xs 2).toInt ≤ (-1)) ∨ (0 ≤ (xs 2).toInt ∧ (xs 2).toInt ≤ 3) ∨ (4 ≤ (xs 2).toInt ∧ (xs 2).toInt ≤ 2147483647) := by omega
    rcases p2 with p2 | p2 | p2
    · exact ⟨23, by decide, ay_mk h (show 0 ≤ _ ∧ _ ≤ 2147483647 from ⟨by omega, by omega⟩) (show (-2147483648) ≤ _ ∧ _ ≤ (-1) from ⟨by omega, by omega⟩) rfl rfl rfl rfl⟩
    · exact ⟨24, by decide, ay_mk h (show 0 ≤ _ ∧ _ ≤ 2147483647 from ⟨by omega, by omega⟩) (show 0 ≤ _ ∧ _ ≤ 3 from ⟨by omega, by omega⟩) rfl rfl rfl rfl⟩
    · exact ⟨25, by decide, ay_mk h (show 0 ≤ _ ∧ _ ≤ 2147483647 from ⟨by omega, by omega⟩) (show 4 ≤ _ ∧ _ ≤ 2147483647 from ⟨by omega, by omega⟩) rfl rfl rfl rfl⟩
theorem ay_c8 {xs : Nat → Int32} (h : xs 0 &&& 31 = 8) : ∃ i, i < 58 ∧ ay_H (ay_bs.getD i (0, [])) xs := by
  have r1 := ay_rg (xs 1)
  have r2 := ay_rg (xs 2)
  exact ⟨26, by decide, ay_mk h (show (-2147483648) ≤ _ ∧ _ ≤ 2147483647 from ⟨by omega, by omega⟩) (show (-2147483648) ≤ _ ∧ _ ≤ 2147483647 from ⟨by omega, by omega⟩) rfl rfl rfl rfl⟩
theorem ay_c9 {xs : Nat → Int32} (h : xs 0 &&& 31 = 9) : ∃ i, i < 58 ∧ ay_H (ay_bs.getD i (0, [])) xs := by
  have r1 := ay_rg (xs 1)
  have r2 := ay_rg (xs 2)
  have p1 : ((-2147483648) ≤ (xs 1).toInt ∧ (xs 1).toInt ≤ 0) ∨ (1 ≤ (xs 1).toInt ∧ (xs 1).toInt ≤ 500) ∨ (501 ≤ (xs 1).toInt ∧ (xs 1).toInt ≤ 2147483647) := by omega
  rcases p1 with p1 | p1 | p1
  · exact ⟨27, by decide, ay_mk h (show (-2147483648) ≤ _ ∧ _ ≤ 0 from ⟨by omega, by omega⟩) (show (-2147483648) ≤ _ ∧ _ ≤ 2147483647 from ⟨by omega, by omega⟩) rfl rfl rfl rfl⟩
  · exact ⟨28, by decide, ay_mk h (show 1 ≤ _ ∧ _ ≤ 500 from ⟨by omega, by omega⟩) (show (-2147483648) ≤ _ ∧ _ ≤ 2147483647 from ⟨by omega, by omega⟩) rfl rfl rfl rfl⟩
  · exact ⟨29, by decide, ay_mk h (show 501 ≤ _ ∧ _ ≤ 2147483647 from ⟨by omega, by omega⟩) (show (-2147483648) ≤ _ ∧ _ ≤ 2147483647 from ⟨by omega, by omega⟩) rfl rfl rfl rfl⟩
theorem ay_c10 {xs : Nat → Int32} (h : xs 0 &&& 31 = 10) : ∃ i, i < 58 ∧ ay_H (ay_bs.getD i (0, [])) xs := by
  have r1 := ay_rg (xs 1)
  have r2 := ay_rg (xs 2)
  exact ⟨30, by decide, ay_mk h (show (-2147483648) ≤ _ ∧ _ ≤ 2147483647 from ⟨by omega, by omega⟩) (show (-2147483648) ≤ _ ∧ _ ≤ 2147483647 from ⟨by omega, by omega⟩) rfl rfl rfl rfl⟩
theorem ay_c11 {xs : Nat → Int32} (h : xs 0 &&& 31 = 11) : ∃ i, i < 58 ∧ ay_H (ay_bs.getD i (0, [])) xs := by
  have r1 := ay_rg (xs 1)
  have r2 := ay_rg (xs 2)
  have p1 : ((-2147483648) ≤ (xs 1).toInt ∧ (xs 1).toInt ≤ (-1)) ∨ (0 ≤ (xs 1).toInt ∧ (xs 1).toInt ≤ 2147483647) := by omega
  rcases p1 with p1 | p1
  · exact ⟨31, by decide, ay_mk h (show (-2147483648) ≤ _ ∧ _ ≤ (-1) from ⟨by omega, by omega⟩) (show (-2147483648) ≤ _ ∧ _ ≤ 2147483647 from ⟨by omega, by omega⟩) rfl rfl rfl rfl⟩
  · exact ⟨32, by decide, ay_mk h (show 0 ≤ _ ∧ _ ≤ 2147483647 from ⟨by omega, by omega⟩) (show (-2147483648) ≤ _ ∧ _ ≤ 2147483647 from ⟨by omega, by omega⟩) rfl rfl rfl rfl⟩
theorem ay_c12 {xs : Nat → Int32} (h : xs 0 &&& 31 = 12) : ∃ i, i < 58 ∧ ay_H (ay_bs.getD i (0, [])) xs := by
  have r1 := ay_rg (xs 1)
  have r2 := ay_rg (xs 2)
  exact ⟨33, by decide, ay_mk h (show (-2147483648) ≤ _ ∧ _ ≤ 2147483647 from ⟨by omega, by omega⟩) (show (-2147483648) ≤ _ ∧ _ ≤ 2147483647 from ⟨by omega, by omega⟩) rfl rfl rfl rfl⟩
theorem ay_c13 {xs : Nat → Int32} (h : xs 0 &&& 31 = 13) : ∃ i, i < 58 ∧ ay_H (ay_bs.getD i (0, [])) xs := by
  have r1 := ay_rg (xs 1)
  have r2 := ay_rg (xs 2)
  have p1 : ((-2147483648) ≤ (xs 1).toInt ∧ (xs 1).toInt ≤ (-1)) ∨ (0 ≤ (xs 1).toInt ∧ (xs 1).toInt ≤ 2147483647) := by omega
  rcases p1 with p1 | p1
  · exact ⟨34, by decide, ay_mk h (show (-2147483648) ≤ _ ∧ _ ≤ (-1) from ⟨by omega, by omega⟩) (show (-2147483648) ≤ _ ∧ _ ≤ 2147483647 from ⟨by omega, by omega⟩) rfl rfl rfl rfl⟩
  · exact ⟨35, by decide, ay_mk h (show 0 ≤ _ ∧ _ ≤ 2147483647 from ⟨by omega, by omega⟩) (show (-2147483648) ≤ _ ∧ _ ≤ 2147483647 from ⟨by omega, by omega⟩) rfl rfl rfl rfl⟩
theorem ay_c14 {xs : Nat → Int32} (h : xs 0 &&& 31 = 14) : ∃ i, i < 58 ∧ ay_H (ay_bs.getD i (0, [])) xs := by
  have r1 := ay_rg (xs 1)
  have r2 := ay_rg (xs 2)
  have p1 : ((-2147483648) ≤ (xs 1).toInt ∧ (xs 1).toInt ≤ (-1)) ∨ (0 ≤ (xs 1).toInt ∧ (xs 1).toInt ≤ 2147483647) := by omega
  rcases p1 with p1 | p1
  · exact ⟨36, by decide, ay_mk h (show (-2147483648) ≤ _ ∧ _ ≤ (-1) from ⟨by omega, by omega⟩) (show (-2147483648) ≤ _ ∧ _ ≤ 2147483647 from ⟨by omega, by omega⟩) rfl rfl rfl rfl⟩
  · exact ⟨37, by decide, ay_mk h (show 0 ≤ _ ∧ _ ≤ 2147483647 from ⟨by omega, by omega⟩) (show (-2147483648) ≤ _ ∧ _ ≤ 2147483647 from ⟨by omega, by omega⟩) rfl rfl rfl rfl⟩
theorem ay_c15 {xs : Nat → Int32} (h : xs 0 &&& 31 = 15) : ∃ i, i < 58 ∧ ay_H (ay_bs.getD i (0, [])) xs := by
  have r1 := ay_rg (xs 1)
  have r2 := ay_rg (xs 2)
  have p1 : ((-2147483648) ≤ (xs 1).toInt ∧ (xs 1).toInt ≤ (-1)) ∨ (0 ≤ (xs 1).toInt ∧ (xs 1).toInt ≤ 2147483647) := by omega
  rcases p1 with p1 | p1
  · have p2 : ((-2147483648) ≤ (xs 2).toInt ∧ (xs 2).toInt ≤ (-1)) ∨ (0 ≤ (xs 2).toInt ∧ (xs 2).toInt ≤ 2147483647) := by omega
    rcases p2 with p2 | p2
    · exact ⟨38, by decide, ay_mk h (show (-2147483648) ≤ _ ∧ _ ≤ (-1) from ⟨by omega, by omega⟩) (show (-2147483648) ≤ _ ∧ _ ≤ (-1) from ⟨by omega, by omega⟩) rfl rfl rfl rfl⟩
    · exact ⟨39, by decide, ay_mk h (show (-2147483648) ≤ _ ∧ _ ≤ (-1) from ⟨by omega, by omega⟩) (show 0 ≤ _ ∧ _ ≤ 2147483647 from ⟨by omega, by omega⟩) rfl rfl rfl rfl⟩
  · have p2 : ((-2147483648) ≤ (xs 2).toInt ∧ (xs 2).toInt ≤ (-1)) ∨ (0 ≤ (xs 2).toInt ∧ (xs 2).toInt ≤ 2147483647) := by omega
    rcases p2 with p2 | p2
    · exact ⟨40, by decide, ay_mk h (show 0 ≤ _ ∧ _ ≤ 2147483647 from ⟨by omega, by omega⟩) (show (-2147483648) ≤ _ ∧ _ ≤ (-1) from ⟨by omega, by omega⟩) rfl rfl rfl rfl⟩
    · exact ⟨41, by decide, ay_mk h (show 0 ≤ _ ∧ _ ≤ 2147483647 from ⟨by omega, by omega⟩) (show 0 ≤ _ ∧ _ ≤ 2147483647 from ⟨by omega, by omega⟩) rfl rfl rfl rfl⟩
theorem ay_c16 {xs : Nat → Int32} (h : xs 0 &&& 31 = 16) : ∃ i, i < 58 ∧ ay_H (ay_bs.getD i (0, [])) xs := by
  have r1 := ay_rg (xs 1)
  have r2 := ay_rg (xs 2)
  exact ⟨42, by decide, ay_mk h (show (-2147483648) ≤ _ ∧ _ ≤ 2147483647 from ⟨by omega, by omega⟩) (show (-2147483648) ≤ _ ∧ _ ≤ 2147483647 from ⟨by omega, by omega⟩) rfl rfl rfl rfl⟩
theorem ay_c17 {xs : Nat → Int32} (h : xs 0 &&& 31 = 17) : ∃ i, i < 58 ∧ ay_H (ay_bs.getD i (0, [])) xs := by
  have r1 := ay_rg (xs 1)
  have r2 := ay_rg (xs 2)
  exact ⟨43, by decide, ay_mk h (show (-2147483648) ≤ _ ∧ _ ≤ 2147483647 from ⟨by omega, by omega⟩) (show (-2147483648) ≤ _ ∧ _ ≤ 2147483647 from ⟨by omega, by omega⟩) rfl rfl rfl rfl⟩
theorem ay_c18 {xs : Nat → Int32} (h : xs 0 &&& 31 = 18) : ∃ i, i < 58 ∧ ay_H (ay_bs.getD i (0, [])) xs := by
  have r1 := ay_rg (xs 1)
  have r2 := ay_rg (xs 2)
  exact ⟨44, by decide, ay_mk h (show (-2147483648) ≤ _ ∧ _ ≤ 2147483647 from ⟨by omega, by omega⟩) (show (-2147483648) ≤ _ ∧ _ ≤ 2147483647 from ⟨by omega, by omega⟩) rfl rfl rfl rfl⟩
theorem ay_c19 {xs : Nat → Int32} (h : xs 0 &&& 31 = 19) : ∃ i, i < 58 ∧ ay_H (ay_bs.getD i (0, [])) xs := by
  have r1 := ay_rg (xs 1)
  have r2 := ay_rg (xs 2)
  exact ⟨45, by decide, ay_mk h (show (-2147483648) ≤ _ ∧ _ ≤ 2147483647 from ⟨by omega, by omega⟩) (show (-2147483648) ≤ _ ∧ _ ≤ 2147483647 from ⟨by omega, by omega⟩) rfl rfl rfl rfl⟩
theorem ay_c20 {xs : Nat → Int32} (h : xs 0 &&& 31 = 20) : ∃ i, i < 58 ∧ ay_H (ay_bs.getD i (0, [])) xs := by
  have r1 := ay_rg (xs 1)
  have r2 := ay_rg (xs 2)
  exact ⟨46, by decide, ay_mk h (show (-2147483648) ≤ _ ∧ _ ≤ 2147483647 from ⟨by omega, by omega⟩) (show (-2147483648) ≤ _ ∧ _ ≤ 2147483647 from ⟨by omega, by omega⟩) rfl rfl rfl rfl⟩
theorem ay_c21 {xs : Nat → Int32} (h : xs 0 &&& 31 = 21) : ∃ i, i < 58 ∧ ay_H (ay_bs.getD i (0, [])) xs := by
  have r1 := ay_rg (xs 1)
  have r2 := ay_rg (xs 2)
  exact ⟨47, by decide, ay_mk h (show (-2147483648) ≤ _ ∧ _ ≤ 2147483647 from ⟨by omega, by omega⟩) (show (-2147483648) ≤ _ ∧ _ ≤ 2147483647 from ⟨by omega, by omega⟩) rfl rfl rfl rfl⟩
theorem ay_c22 {xs : Nat → Int32} (h : xs 0 &&& 31 = 22) : ∃ i, i < 58 ∧ ay_H (ay_bs.getD i (0, [])) xs := by
  have r1 := ay_rg (xs 1)
  have r2 := ay_rg (xs 2)
  exact ⟨48, by decide, ay_mk h (show (-2147483648) ≤ _ ∧ _ ≤ 2147483647 from ⟨by omega, by omega⟩) (show (-2147483648) ≤ _ ∧ _ ≤ 2147483647 from ⟨by omega, by omega⟩) rfl rfl rfl rfl⟩
theorem ay_c23 {xs : Nat → Int32} (h : xs 0 &&& 31 = 23) : ∃ i, i < 58 ∧ ay_H (ay_bs.getD i (0, [])) xs := by
  have r1 := ay_rg (xs 1)
  have r2 := ay_rg (xs 2)
  exact ⟨49, by decide, ay_mk h (show (-2147483648) ≤ _ ∧ _ ≤ 2147483647 from ⟨by omega, by omega⟩) (show (-2147483648) ≤ _ ∧ _ ≤ 2147483647 from ⟨by omega, by omega⟩) rfl rfl rfl rfl⟩
theorem ay_c24 {xs : Nat → Int32} (h : xs 0 &&& 31 = 24) : ∃ i, i < 58 ∧ ay_H (ay_bs.getD i (0, [])) xs := by
  have r1 := ay_rg (xs 1)
  have r2 := ay_rg (xs 2)
  exact ⟨50, by decide, ay_mk h (show (-2147483648) ≤ _ ∧ _ ≤ 2147483647 from ⟨by omega, by omega⟩) (show (-2147483648) ≤ _ ∧ _ ≤ 2147483647 from ⟨by omega, by omega⟩) rfl rfl rfl rfl⟩
theorem ay_c25 {xs : Nat → Int32} (h : xs 0 &&& 31 = 25) : ∃ i, i < 58 ∧ ay_H (ay_bs.getD i (0, [])) xs := by
  have r1 := ay_rg (xs 1)
  have r2 := ay_rg (xs 2)
  exact ⟨51, by decide, ay_mk h (show (-2147483648) ≤ _ ∧ _ ≤ 2147483647 from ⟨by omega, by omega⟩) (show (-2147483648) ≤ _ ∧ _ ≤ 2147483647 from ⟨by omega, by omega⟩) rfl rfl rfl rfl⟩
theorem ay_c26 {xs : Nat → Int32} (h : xs 0 &&& 31 = 26) : ∃ i, i < 58 ∧ ay_H (ay_bs.getD i (0, [])) xs := by
  have r1 := ay_rg (xs 1)
  have r2 := ay_rg (xs 2)
  exact ⟨52, by decide, ay_mk h (show (-2147483648) ≤ _ ∧ _ ≤ 2147483647 from ⟨by omega, by omega⟩) (show (-2147483648) ≤ _ ∧ _ ≤ 2147483647 from ⟨by omega, by omega⟩) rfl rfl rfl rfl⟩
theorem ay_c27 {xs : Nat → Int32} (h : xs 0 &&& 31 = 27) : ∃ i, i < 58 ∧ ay_H (ay_bs.getD i (0, [])) xs := by
  have r1 := ay_rg (xs 1)
  have r2 := ay_rg (xs 2)
  exact ⟨53, by decide, ay_mk h (show (-2147483648) ≤ _ ∧ _ ≤ 2147483647 from ⟨by omega, by omega⟩) (show (-2147483648) ≤ _ ∧ _ ≤ 2147483647 from ⟨by omega, by omega⟩) rfl rfl rfl rfl⟩
theorem ay_c28 {xs : Nat → Int32} (h : xs 0 &&& 31 = 28) : ∃ i, i < 58 ∧ ay_H (ay_bs.getD i (0, [])) xs := by
  have r1 := ay_rg (xs 1)
  have r2 := ay_rg (xs 2)
  exact ⟨54, by decide, ay_mk h (show (-2147483648) ≤ _ ∧ _ ≤ 2147483647 from ⟨by omega, by omega⟩) (show (-2147483648) ≤ _ ∧ _ ≤ 2147483647 from ⟨by omega, by omega⟩) rfl rfl rfl rfl⟩
theorem ay_c29 {xs : Nat → Int32} (h : xs 0 &&& 31 = 29) : ∃ i, i < 58 ∧ ay_H (ay_bs.getD i (0, [])) xs := by
  have r1 := ay_rg (xs 1)
  have r2 := ay_rg (xs 2)
  exact ⟨55, by decide, ay_mk h (show (-2147483648) ≤ _ ∧ _ ≤ 2147483647 from ⟨by omega, by omega⟩) (show (-2147483648) ≤ _ ∧ _ ≤ 2147483647 from ⟨by omega, by omega⟩) rfl rfl rfl rfl⟩
theorem ay_c30 {xs : Nat → Int32} (h : xs 0 &&& 31 = 30) : ∃ i, i < 58 ∧ ay_H (ay_bs.getD i (0, [])) xs := by
  have r1 := ay_rg (xs 1)
  have r2 := ay_rg (xs 2)
  exact ⟨56, by decide, ay_mk h (show (-2147483648) ≤ _ ∧ _ ≤ 2147483647 from ⟨by omega, by omega⟩) (show (-2147483648) ≤ _ ∧ _ ≤ 2147483647 from ⟨by omega, by omega⟩) rfl rfl rfl rfl⟩
theorem ay_c31 {xs : Nat → Int32} (h : xs 0 &&& 31 = 31) : ∃ i, i < 58 ∧ ay_H (ay_bs.getD i (0, [])) xs := by
  have r1 := ay_rg (xs 1)
  have r2 := ay_rg (xs 2)
  exact ⟨57, by decide, ay_mk h (show (-2147483648) ≤ _ ∧ _ ≤ 2147483647 from ⟨by omega, by omega⟩) (show (-2147483648) ≤ _ ∧ _ ≤ 2147483647 from ⟨by omega, by omega⟩) rfl rfl rfl rfl⟩
theorem ay_cov (xs : Nat → Int32) : ∃ i, i < 58 ∧ ay_H (ay_bs.getD i (0, [])) xs := by
  obtain ⟨a, ha, e⟩ := ay_and (xs 0)
  match a, ha, e with
  | 0, _, e => exact ay_c0 e
  | 1, _, e => exact ay_c1 e
  | 2, _, e => exact ay_c2 e
  | 3, _, e => exact ay_c3 e
  | 4, _, e => exact ay_c4 e
  | 5, _, e => exact ay_c5 e
  | 6, _, e => exact ay_c6 e
  | 7, _, e => exact ay_c7 e
  | 8, _, e => exact ay_c8 e
  | 9, _, e => exact ay_c9 e
  | 10, _, e => exact ay_c10 e
  | 11, _, e => exact ay_c11 e
  | 12, _, e => exact ay_c12 e
  | 13, _, e => exact ay_c13 e
  | 14, _, e => exact ay_c14 e
  | 15, _, e => exact ay_c15 e
  | 16, _, e => exact ay_c16 e
  | 17, _, e => exact ay_c17 e
  | 18, _, e => exact ay_c18 e
  | 19, _, e => exact ay_c19 e
  | 20, _, e => exact ay_c20 e
  | 21, _, e => exact ay_c21 e
  | 22, _, e => exact ay_c22 e
  | 23, _, e => exact ay_c23 e
  | 24, _, e => exact ay_c24 e
  | 25, _, e => exact ay_c25 e
  | 26, _, e => exact ay_c26 e
  | 27, _, e => exact ay_c27 e
  | 28, _, e => exact ay_c28 e
  | 29, _, e => exact ay_c29 e
  | 30, _, e => exact ay_c30 e
  | 31, _, e => exact ay_c31 e
  | a + 32, ha, _ => exact absurd ha (by omega)
theorem ay_all {i : Nat} (h : i < 58) : ay_run (ay_bs.getD i (0, [])) 6 = true := by
  match i, h with
  | 0, _ => exact ay_u0
  | 1, _ => exact ay_u1
  | 2, _ => exact ay_u2
  | 3, _ => exact ay_u3
  | 4, _ => exact ay_u4
  | 5, _ => exact ay_u5
  | 6, _ => exact ay_u6
  | 7, _ => exact ay_u7
  | 8, _ => exact ay_u8
  | 9, _ => exact ay_u9
  | 10, _ => exact ay_u10
  | 11, _ => exact ay_u11
  | 12, _ => exact ay_u12
  | 13, _ => exact ay_u13
  | 14, _ => exact ay_u14
  | 15, _ => exact ay_u15
  | 16, _ => exact ay_u16
  | 17, _ => exact ay_u17
  | 18, _ => exact ay_u18
  | 19, _ => exact ay_u19
  | 20, _ => exact ay_u20
  | 21, _ => exact ay_u21
  | 22, _ => exact ay_u22
  | 23, _ => exact ay_u23
  | 24, _ => exact ay_u24
  | 25, _ => exact ay_u25
  | 26, _ => exact ay_u26
  | 27, _ => exact ay_u27
  | 28, _ => exact ay_u28
  | 29, _ => exact ay_u29
  | 30, _ => exact ay_u30
  | 31, _ => exact ay_u31
  | 32, _ => exact ay_u32
  | 33, _ => exact ay_u33
  | 34, _ => exact ay_u34
  | 35, _ => exact ay_u35
  | 36, _ => exact ay_u36
  | 37, _ => exact ay_u37
  | 38, _ => exact ay_u38
  | 39, _ => exact ay_u39
  | 40, _ => exact ay_u40
  | 41, _ => exact ay_u41
  | 42, _ => exact ay_u42
  | 43, _ => exact ay_u43
  | 44, _ => exact ay_u44
  | 45, _ => exact ay_u45
  | 46, _ => exact ay_u46
  | 47, _ => exact ay_u47
  | 48, _ => exact ay_u48
  | 49, _ => exact ay_u49
  | 50, _ => exact ay_u50
  | 51, _ => exact ay_u51
  | 52, _ => exact ay_u52
  | 53, _ => exact ay_u53
  | 54, _ => exact ay_u54
  | 55, _ => exact ay_u55
  | 56, _ => exact ay_u56
  | 57, _ => exact ay_u57
  | i + 58, h => exact absurd h (by omega)
/-! the start, over symbols -/
theorem ay_getD {l : List Nat} {p : Nat → Bool} (h : l.all p = true) (h0 : p 0 = true) (j : Nat) : p (l.getD j 0) = true := by
  rw [List.getD_eq_getElem?_getD]
  cases e : l[j]? with
  | none => exact h0
  | some x => exact List.all_eq_true.mp h x (List.mem_of_getElem? e)
set_option maxRecDepth 100000 in
theorem ay_bys : am_txs.all (fun l => l.all (fun t => !ay_m (Int32.ofNat t))) = true := by decide +kernel
theorem ay_by (i j : Nat) : ay_pl (.int (Int32.ofNat ((am_txs.getD i []).getD j 0))) = true := by
  show (!ay_m (Int32.ofNat ((am_txs.getD i []).getD j 0))) = true
  refine ay_getD (p := fun t => !ay_m (Int32.ofNat t)) ?_ (by decide) j
  rw [List.getD_eq_getElem?_getD]
  cases e : am_txs[i]? with
  | none => rfl
  | some x => exact List.all_eq_true.mp ay_bys x (List.mem_of_getElem? e)
theorem ay_xr (xs : Nat → Int32) (j : Nat) : ay_r xs (ay_xs j) (xs j) := by
  unfold ay_xs
  cases hb : Nat.blt j 6 with
  | false => exact ⟨fun e => absurd (show ay_m (ay_sy 255) = false from e) (by decide), fun _ e => absurd (show ay_k (ay_sy 255) < 6 from e) (by decide)⟩
  | true =>
    have hj := am_blt hb
    match j, hj with
    | 0, _ => exact ⟨fun e => absurd e (by decide), fun _ _ => rfl⟩
    | 1, _ => exact ⟨fun e => absurd e (by decide), fun _ _ => rfl⟩
    | 2, _ => exact ⟨fun e => absurd e (by decide), fun _ _ => rfl⟩
    | 3, _ => exact ⟨fun e => absurd e (by decide), fun _ _ => rfl⟩
    | 4, _ => exact ⟨fun e => absurd e (by decide), fun _ _ => rfl⟩
    | 5, _ => exact ⟨fun e => absurd e (by decide), fun _ _ => rfl⟩
    | j + 6, hj => exact absurd hj (by omega)
def ay_runA (L : Nat) : Bool := ay_ok (ay_go (0, []) 1000000 60 am_LW 0 [(0, .ref am_EXT)] [] (am_S0 L (fun _ => ay_any)))
set_option maxRecDepth 1000000 in
theorem ay_a0 : ay_runA 0 = true := by decide +kernel
set_option maxRecDepth 1000000 in
theorem ay_a1 : ay_runA 1 = true := by decide +kernel
set_option maxRecDepth 1000000 in
theorem ay_a2 : ay_runA 2 = true := by decide +kernel
set_option maxRecDepth 1000000 in
theorem ay_a3 : ay_runA 3 = true := by decide +kernel
set_option maxRecDepth 1000000 in
theorem ay_a4 : ay_runA 4 = true := by decide +kernel
set_option maxRecDepth 1000000 in
theorem ay_a5 : ay_runA 5 = true := by decide +kernel
theorem ay_Sx {ys x0 : Nat → Int32} (L : Nat) (xs : Nat → Int32) (h : ∀ j, ay_r ys (x0 j) (xs j)) : ay_S ys (am_S0 L x0) (am_S0 L xs) := by
  refine ⟨rfl, rfl, fun k j => ?_⟩
  show ay_v ys (am_M0 x0 k j) (am_M0 xs k j)
  unfold am_M0
  cases Nat.blt k am_EXT
  · cases Nat.beq k am_EXT
    · cases Nat.blt k (am_EXT + 4)
      · cases Nat.blt k (am_EXT + 4 + am_NS)
        · cases Nat.blt k (am_EXT + 4 + am_NS + am_NS)
          · exact rfl
          · exact ay_pv (ay_by _ _)
        · cases Nat.beq j 0
          · exact (ay_pv (v := .int 0) (by decide) : ay_v ys (.int 0) (.int 0))
          · exact rfl
      · exact rfl
    · exact ⟨_, rfl, h j⟩
  · exact rfl
theorem ay_done {O : AyO} {ys x0 xs : Nat → Int32} {L : Nat} (hO : ay_H O ys) (hx : ∀ j, ay_r ys (x0 j) (xs j)) (h : ay_ok (ay_go O 1000000 60 am_LW 0 [(0, .ref am_EXT)] [] (am_S0 L x0)) = true) : ∃ S', am_go 1000000 60 am_LW 0 (lv_args 0 [.ref am_EXT]) [] (am_S0 L xs) = some (.inl (some (.int 1)), S') ∧ S'.2.2.2.1 ≤ 600002 ∧ S'.2.2.2.2 ≤ 7302232 := by
  unfold ay_ok at h
  split at h
  · rename_i x S hg
    obtain ⟨r1, S1, e1, ⟨w, e2, y, e3, e4⟩, e5⟩ := ay_sound hO _ _ _ _ _ _ _ _ _ hg [(0, .ref am_EXT)] [] (am_S0 L xs) ⟨⟨rfl, rfl⟩, trivial⟩ trivial (ay_Sx L xs hx)
    obtain ⟨h1, h2⟩ := Bool.and_eq_true_iff.mp h
    obtain ⟨h2, h3⟩ := Bool.and_eq_true_iff.mp h2
    replace h1 := of_decide_eq_true h1
    have ey : y = 1 := by rw [e4.1 (by rw [h1]; decide), h1]
    refine ⟨S1, ?_, by rw [e5.2.1]; exact Nat.le_of_ble_eq_true h2, by rw [e5.2.1]; exact Nat.le_of_ble_eq_true h3⟩
    rw [show lv_args 0 [Value.ref am_EXT] = [(0, .ref am_EXT)] from rfl, e1, e2, e3, ey]
  · cases h
theorem ay_H0 : ay_H (0, []) (fun _ => 0) := ⟨by decide, fun k _ => ⟨by show (0 : Int) ≤ (0 : Int32).toInt; decide, by show (0 : Int32).toInt ≤ (0 : Int); decide⟩⟩
theorem ay_short {L : Nat} (hL : L < 6) (xs : Nat → Int32) : ∃ S', am_go 1000000 60 am_LW 0 (lv_args 0 [.ref am_EXT]) [] (am_S0 L xs) = some (.inl (some (.int 1)), S') ∧ S'.2.2.2.1 ≤ 600002 ∧ S'.2.2.2.2 ≤ 7302232 := by
  have hx : ∀ j, ay_r (fun _ => 0) ((fun _ : Nat => ay_any) j) (xs j) := fun j => ⟨fun e => absurd (show ay_m ay_any = false from e) (by decide), fun _ e => absurd (show ay_k ay_any < 6 from e) (by decide)⟩
  match L, hL with
  | 0, _ =>
    have h := ay_a0
    unfold ay_runA at h
    exact ay_done ay_H0 hx h
  | 1, _ =>
    have h := ay_a1
    unfold ay_runA at h
    exact ay_done ay_H0 hx h
  | 2, _ =>
    have h := ay_a2
    unfold ay_runA at h
    exact ay_done ay_H0 hx h
  | 3, _ =>
    have h := ay_a3
    unfold ay_runA at h
    exact ay_done ay_H0 hx h
  | 4, _ =>
    have h := ay_a4
    unfold ay_runA at h
    exact ay_done ay_H0 hx h
  | 5, _ =>
    have h := ay_a5
    unfold ay_runA at h
    exact ay_done ay_H0 hx h
  | L + 6, hL => exact absurd hL (by omega)
theorem ay_law {L : Nat} (hL : L ≤ 6) (xs : Nat → Int32) : ∃ S', am_go 1000000 60 am_LW 0 (lv_args 0 [.ref am_EXT]) [] (am_S0 L xs) = some (.inl (some (.int 1)), S') ∧ S'.2.2.2.1 ≤ 600002 ∧ S'.2.2.2.2 ≤ 7302232 := by
  obtain ⟨i, hi, hO⟩ := ay_cov xs
  by_cases h6 : L = 6
  · rw [h6]
    have h := ay_all hi
    unfold ay_run at h
    exact ay_done hO (ay_xr xs) h
  · exact ay_short (by omega) xs
