theorem am_ck (j : Nat) (h : j < 164) : am_chk j = true := by
  have h1 : ∀ (a k : Nat), (List.range' a k).all am_chk = true → a ≤ j → j < a + k → am_chk j = true := fun a k h h1 h2 => List.all_eq_true.mp h j (List.mem_range'_1.mpr ⟨h1, h2⟩)
  rcases Nat.lt_or_ge j 4 with hh | hh
  · exact h1 0 4 am_ck_0 (by omega) (by omega)
  rcases Nat.lt_or_ge j 5 with hh | hh
  · exact h1 4 1 am_ck_4 (by omega) (by omega)
  rcases Nat.lt_or_ge j 7 with hh | hh
  · exact h1 5 2 am_ck_5 (by omega) (by omega)
  rcases Nat.lt_or_ge j 9 with hh | hh
  · exact h1 7 2 am_ck_7 (by omega) (by omega)
  rcases Nat.lt_or_ge j 10 with hh | hh
  · rw [show j = 9 by omega]; exact am_ck_9
  rcases Nat.lt_or_ge j 11 with hh | hh
  · rw [show j = 10 by omega]; exact am_ck_10
  rcases Nat.lt_or_ge j 12 with hh | hh
  · exact h1 11 1 am_ck_11 (by omega) (by omega)
  rcases Nat.lt_or_ge j 13 with hh | hh
  · exact h1 12 1 am_ck_12 (by omega) (by omega)
  rcases Nat.lt_or_ge j 14 with hh | hh
  · rw [show j = 13 by omega]; exact am_ck_13
  rcases Nat.lt_or_ge j 15 with hh | hh
  · rw [show j = 14 by omega]; exact am_ck_14
  rcases Nat.lt_or_ge j 16 with hh | hh
  · exact h1 15 1 am_ck_15 (by omega) (by omega)
  rcases Nat.lt_or_ge j 17 with hh | hh
  · rw [show j = 16 by omega]; exact am_ck_16
  rcases Nat.lt_or_ge j 20 with hh | hh
  · exact h1 17 3 am_ck_17 (by omega) (by omega)
  rcases Nat.lt_or_ge j 21 with hh | hh
  · rw [show j = 20 by omega]; exact am_ck_20
  rcases Nat.lt_or_ge j 24 with hh | hh
  · exact h1 21 3 am_ck_21 (by omega) (by omega)
  rcases Nat.lt_or_ge j 30 with hh | hh
  · exact h1 24 6 am_ck_24 (by omega) (by omega)
  rcases Nat.lt_or_ge j 32 with hh | hh
  · exact h1 30 2 am_ck_30 (by omega) (by omega)
  rcases Nat.lt_or_ge j 33 with hh | hh
  · exact h1 32 1 am_ck_32 (by omega) (by omega)
  rcases Nat.lt_or_ge j 37 with hh | hh
  · exact h1 33 4 am_ck_33 (by omega) (by omega)
  rcases Nat.lt_or_ge j 39 with hh | hh
  · exact h1 37 2 am_ck_37 (by omega) (by omega)
  rcases Nat.lt_or_ge j 40 with hh | hh
  · exact h1 39 1 am_ck_39 (by omega) (by omega)
  rcases Nat.lt_or_ge j 42 with hh | hh
  · exact h1 40 2 am_ck_40 (by omega) (by omega)
  rcases Nat.lt_or_ge j 43 with hh | hh
  · exact h1 42 1 am_ck_42 (by omega) (by omega)
  rcases Nat.lt_or_ge j 45 with hh | hh
  · exact h1 43 2 am_ck_43 (by omega) (by omega)
  rcases Nat.lt_or_ge j 48 with hh | hh
  · exact h1 45 3 am_ck_45 (by omega) (by omega)
  rcases Nat.lt_or_ge j 49 with hh | hh
  · exact h1 48 1 am_ck_48 (by omega) (by omega)
  rcases Nat.lt_or_ge j 51 with hh | hh
  · exact h1 49 2 am_ck_49 (by omega) (by omega)
  rcases Nat.lt_or_ge j 54 with hh | hh
  · exact h1 51 3 am_ck_51 (by omega) (by omega)
  rcases Nat.lt_or_ge j 55 with hh | hh
  · exact h1 54 1 am_ck_54 (by omega) (by omega)
  rcases Nat.lt_or_ge j 56 with hh | hh
  · exact h1 55 1 am_ck_55 (by omega) (by omega)
  rcases Nat.lt_or_ge j 57 with hh | hh
  · exact h1 56 1 am_ck_56 (by omega) (by omega)
  rcases Nat.lt_or_ge j 58 with hh | hh
  · exact h1 57 1 am_ck_57 (by omega) (by omega)
  rcases Nat.lt_or_ge j 59 with hh | hh
  · rw [show j = 58 by omega]; exact am_ck_58
  rcases Nat.lt_or_ge j 60 with hh | hh
  · exact h1 59 1 am_ck_59 (by omega) (by omega)
  rcases Nat.lt_or_ge j 61 with hh | hh
  · rw [show j = 60 by omega]; exact am_ck_60
  rcases Nat.lt_or_ge j 62 with hh | hh
  · rw [show j = 61 by omega]; exact am_ck_61
  rcases Nat.lt_or_ge j 64 with hh | hh
  · exact h1 62 2 am_ck_62 (by omega) (by omega)
  rcases Nat.lt_or_ge j 66 with hh | hh
  · exact h1 64 2 am_ck_64 (by omega) (by omega)
  rcases Nat.lt_or_ge j 68 with hh | hh
  · exact h1 66 2 am_ck_66 (by omega) (by omega)
  rcases Nat.lt_or_ge j 71 with hh | hh
  · exact h1 68 3 am_ck_68 (by omega) (by omega)
  rcases Nat.lt_or_ge j 72 with hh | hh
  · exact h1 71 1 am_ck_71 (by omega) (by omega)
  rcases Nat.lt_or_ge j 76 with hh | hh
  · exact h1 72 4 am_ck_72 (by omega) (by omega)
  rcases Nat.lt_or_ge j 80 with hh | hh
  · exact h1 76 4 am_ck_76 (by omega) (by omega)
  rcases Nat.lt_or_ge j 82 with hh | hh
  · exact h1 80 2 am_ck_80 (by omega) (by omega)
  rcases Nat.lt_or_ge j 83 with hh | hh
  · exact h1 82 1 am_ck_82 (by omega) (by omega)
  rcases Nat.lt_or_ge j 84 with hh | hh
  · exact h1 83 1 am_ck_83 (by omega) (by omega)
  rcases Nat.lt_or_ge j 85 with hh | hh
  · rw [show j = 84 by omega]; exact am_ck_84
  rcases Nat.lt_or_ge j 86 with hh | hh
  · exact h1 85 1 am_ck_85 (by omega) (by omega)
  rcases Nat.lt_or_ge j 87 with hh | hh
  · rw [show j = 86 by omega]; exact am_ck_86
  rcases Nat.lt_or_ge j 88 with hh | hh
  · rw [show j = 87 by omega]; exact am_ck_87
  rcases Nat.lt_or_ge j 89 with hh | hh
  · exact h1 88 1 am_ck_88 (by omega) (by omega)
  rcases Nat.lt_or_ge j 90 with hh | hh
  · exact h1 89 1 am_ck_89 (by omega) (by omega)
  rcases Nat.lt_or_ge j 92 with hh | hh
  · exact h1 90 2 am_ck_90 (by omega) (by omega)
  rcases Nat.lt_or_ge j 93 with hh | hh
  · exact h1 92 1 am_ck_92 (by omega) (by omega)
  rcases Nat.lt_or_ge j 97 with hh | hh
  · exact h1 93 4 am_ck_93 (by omega) (by omega)
  rcases Nat.lt_or_ge j 100 with hh | hh
  · exact h1 97 3 am_ck_97 (by omega) (by omega)
  rcases Nat.lt_or_ge j 102 with hh | hh
  · exact h1 100 2 am_ck_100 (by omega) (by omega)
  rcases Nat.lt_or_ge j 105 with hh | hh
  · exact h1 102 3 am_ck_102 (by omega) (by omega)
  rcases Nat.lt_or_ge j 110 with hh | hh
  · exact h1 105 5 am_ck_105 (by omega) (by omega)
  rcases Nat.lt_or_ge j 112 with hh | hh
  · exact h1 110 2 am_ck_110 (by omega) (by omega)
  rcases Nat.lt_or_ge j 113 with hh | hh
  · exact h1 112 1 am_ck_112 (by omega) (by omega)
  rcases Nat.lt_or_ge j 114 with hh | hh
  · rw [show j = 113 by omega]; exact am_ck_113
  rcases Nat.lt_or_ge j 118 with hh | hh
  · exact h1 114 4 am_ck_114 (by omega) (by omega)
  rcases Nat.lt_or_ge j 120 with hh | hh
  · exact h1 118 2 am_ck_118 (by omega) (by omega)
  rcases Nat.lt_or_ge j 121 with hh | hh
  · exact h1 120 1 am_ck_120 (by omega) (by omega)
  rcases Nat.lt_or_ge j 122 with hh | hh
  · rw [show j = 121 by omega]; exact am_ck_121
  rcases Nat.lt_or_ge j 125 with hh | hh
  · exact h1 122 3 am_ck_122 (by omega) (by omega)
  rcases Nat.lt_or_ge j 127 with hh | hh
  · exact h1 125 2 am_ck_125 (by omega) (by omega)
  rcases Nat.lt_or_ge j 128 with hh | hh
  · exact h1 127 1 am_ck_127 (by omega) (by omega)
  rcases Nat.lt_or_ge j 129 with hh | hh
  · exact h1 128 1 am_ck_128 (by omega) (by omega)
  rcases Nat.lt_or_ge j 130 with hh | hh
  · rw [show j = 129 by omega]; exact am_ck_129
  rcases Nat.lt_or_ge j 131 with hh | hh
  · exact h1 130 1 am_ck_130 (by omega) (by omega)
  rcases Nat.lt_or_ge j 132 with hh | hh
  · exact h1 131 1 am_ck_131 (by omega) (by omega)
  rcases Nat.lt_or_ge j 133 with hh | hh
  · exact h1 132 1 am_ck_132 (by omega) (by omega)
  rcases Nat.lt_or_ge j 134 with hh | hh
  · rw [show j = 133 by omega]; exact am_ck_133
  rcases Nat.lt_or_ge j 138 with hh | hh
  · exact h1 134 4 am_ck_134 (by omega) (by omega)
  rcases Nat.lt_or_ge j 139 with hh | hh
  · exact h1 138 1 am_ck_138 (by omega) (by omega)
  rcases Nat.lt_or_ge j 140 with hh | hh
  · exact h1 139 1 am_ck_139 (by omega) (by omega)
  rcases Nat.lt_or_ge j 141 with hh | hh
  · exact h1 140 1 am_ck_140 (by omega) (by omega)
  rcases Nat.lt_or_ge j 143 with hh | hh
  · exact h1 141 2 am_ck_141 (by omega) (by omega)
  rcases Nat.lt_or_ge j 145 with hh | hh
  · exact h1 143 2 am_ck_143 (by omega) (by omega)
  rcases Nat.lt_or_ge j 149 with hh | hh
  · exact h1 145 4 am_ck_145 (by omega) (by omega)
  rcases Nat.lt_or_ge j 155 with hh | hh
  · exact h1 149 6 am_ck_149 (by omega) (by omega)
  rcases Nat.lt_or_ge j 160 with hh | hh
  · exact h1 155 5 am_ck_155 (by omega) (by omega)
  rcases Nat.lt_or_ge j 161 with hh | hh
  · exact h1 160 1 am_ck_160 (by omega) (by omega)
  rcases Nat.lt_or_ge j 162 with hh | hh
  · rw [show j = 161 by omega]; exact am_ck_161
  rcases Nat.lt_or_ge j 163 with hh | hh
  · exact h1 162 1 am_ck_162 (by omega) (by omega)
  · rw [show j = 163 by omega]; exact am_ck_163
