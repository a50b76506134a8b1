/-! the checks, piece 2 -/
theorem am_ck_77 : am_chk 77 = true := Bool.and_eq_true_iff.mpr ⟨am_cm_77, am_kl_cut 60 _ _ am_cl_77_0 (by rw [Nat.zero_add]; exact am_cl_77_1)⟩
set_option maxRecDepth 100000 in
theorem am_ck_78 : (List.range' 78 1).all am_chk = true := by decide +kernel
set_option maxRecDepth 100000 in
theorem am_ck_79 : (List.range' 79 1).all am_chk = true := by decide +kernel
set_option maxRecDepth 100000 in
theorem am_cm_80 : am_mk 80 = true := by decide +kernel
set_option maxRecDepth 100000 in
theorem am_cl_80_0 : am_kl 80 0 ((am_P.1 80).take 60) = true := by decide +kernel
set_option maxRecDepth 100000 in
theorem am_cl_80_1 : am_kl 80 60 (((am_P.1 80).drop 60)) = true := by decide +kernel
theorem am_ck_80 : am_chk 80 = true := Bool.and_eq_true_iff.mpr ⟨am_cm_80, am_kl_cut 60 _ _ am_cl_80_0 (by rw [Nat.zero_add]; exact am_cl_80_1)⟩
set_option maxRecDepth 100000 in
theorem am_ck_81 : (List.range' 81 1).all am_chk = true := by decide +kernel
set_option maxRecDepth 100000 in
theorem am_ck_82 : (List.range' 82 1).all am_chk = true := by decide +kernel
set_option maxRecDepth 100000 in
theorem am_ck_83 : (List.range' 83 1).all am_chk = true := by decide +kernel
set_option maxRecDepth 100000 in
theorem am_cm_84 : am_mk 84 = true := by decide +kernel
set_option maxRecDepth 100000 in
theorem am_cl_84_0 : am_kl 84 0 ((am_P.1 84).take 60) = true := by decide +kernel
set_option maxRecDepth 100000 in
theorem am_cl_84_1 : am_kl 84 60 (((am_P.1 84).drop 60)) = true := by decide +kernel
theorem am_ck_84 : am_chk 84 = true := Bool.and_eq_true_iff.mpr ⟨am_cm_84, am_kl_cut 60 _ _ am_cl_84_0 (by rw [Nat.zero_add]; exact am_cl_84_1)⟩
set_option maxRecDepth 100000 in
theorem am_ck_85 : (List.range' 85 1).all am_chk = true := by decide +kernel
set_option maxRecDepth 100000 in
theorem am_ck_86 : (List.range' 86 1).all am_chk = true := by decide +kernel
set_option maxRecDepth 100000 in
theorem am_ck_87 : (List.range' 87 1).all am_chk = true := by decide +kernel
set_option maxRecDepth 100000 in
theorem am_ck_88 : (List.range' 88 1).all am_chk = true := by decide +kernel
set_option maxRecDepth 100000 in
theorem am_ck_89 : (List.range' 89 2).all am_chk = true := by decide +kernel
set_option maxRecDepth 100000 in
theorem am_ck_91 : (List.range' 91 1).all am_chk = true := by decide +kernel
set_option maxRecDepth 100000 in
theorem am_ck_92 : (List.range' 92 1).all am_chk = true := by decide +kernel
set_option maxRecDepth 100000 in
theorem am_ck_93 : (List.range' 93 4).all am_chk = true := by decide +kernel
set_option maxRecDepth 100000 in
theorem am_ck_97 : (List.range' 97 4).all am_chk = true := by decide +kernel
set_option maxRecDepth 100000 in
theorem am_ck_101 : (List.range' 101 3).all am_chk = true := by decide +kernel
set_option maxRecDepth 100000 in
theorem am_ck_104 : (List.range' 104 1).all am_chk = true := by decide +kernel
set_option maxRecDepth 100000 in
theorem am_ck_105 : (List.range' 105 1).all am_chk = true := by decide +kernel
set_option maxRecDepth 100000 in
theorem am_ck_106 : (List.range' 106 1).all am_chk = true := by decide +kernel
set_option maxRecDepth 100000 in
theorem am_cm_107 : am_mk 107 = true := by decide +kernel
set_option maxRecDepth 100000 in
theorem am_cl_107_0 : am_kl 107 0 ((am_P.1 107).take 60) = true := by decide +kernel
set_option maxRecDepth 100000 in
theorem am_cl_107_1 : am_kl 107 60 (((am_P.1 107).drop 60).take 60) = true := by decide +kernel
set_option maxRecDepth 100000 in
theorem am_cl_107_2 : am_kl 107 120 (((am_P.1 107).drop 120)) = true := by decide +kernel
theorem am_ck_107 : am_chk 107 = true := Bool.and_eq_true_iff.mpr ⟨am_cm_107, am_kl_cut 60 _ _ am_cl_107_0 (by rw [Nat.zero_add]; exact am_kl_cut 60 _ _ am_cl_107_1 (by rw [List.drop_drop]; exact am_cl_107_2))⟩
set_option maxRecDepth 100000 in
theorem am_ck_108 : (List.range' 108 1).all am_chk = true := by decide +kernel
set_option maxRecDepth 100000 in
theorem am_cm_109 : am_mk 109 = true := by decide +kernel
set_option maxRecDepth 100000 in
theorem am_cl_109_0 : am_kl 109 0 ((am_P.1 109).take 60) = true := by decide +kernel
set_option maxRecDepth 100000 in
theorem am_cl_109_1 : am_kl 109 60 (((am_P.1 109).drop 60).take 60) = true := by decide +kernel
set_option maxRecDepth 100000 in
theorem am_cl_109_2 : am_kl 109 120 (((am_P.1 109).drop 120)) = true := by decide +kernel
theorem am_ck_109 : am_chk 109 = true := Bool.and_eq_true_iff.mpr ⟨am_cm_109, am_kl_cut 60 _ _ am_cl_109_0 (by rw [Nat.zero_add]; exact am_kl_cut 60 _ _ am_cl_109_1 (by rw [List.drop_drop]; exact am_cl_109_2))⟩
set_option maxRecDepth 100000 in
theorem am_cm_110 : am_mk 110 = true := by decide +kernel
set_option maxRecDepth 100000 in
theorem am_cl_110_0 : am_kl 110 0 ((am_P.1 110).take 60) = true := by decide +kernel
set_option maxRecDepth 100000 in
theorem am_cl_110_1 : am_kl 110 60 (((am_P.1 110).drop 60)) = true := by decide +kernel
theorem am_ck_110 : am_chk 110 = true := Bool.and_eq_true_iff.mpr ⟨am_cm_110, am_kl_cut 60 _ _ am_cl_110_0 (by rw [Nat.zero_add]; exact am_cl_110_1)⟩
set_option maxRecDepth 100000 in
theorem am_ck_111 : (List.range' 111 1).all am_chk = true := by decide +kernel
set_option maxRecDepth 100000 in
theorem am_ck_112 : (List.range' 112 1).all am_chk = true := by decide +kernel
set_option maxRecDepth 100000 in
theorem am_ck_113 : (List.range' 113 2).all am_chk = true := by decide +kernel
set_option maxRecDepth 100000 in
theorem am_ck_115 : (List.range' 115 1).all am_chk = true := by decide +kernel
set_option maxRecDepth 100000 in
theorem am_ck_116 : (List.range' 116 4).all am_chk = true := by decide +kernel
set_option maxRecDepth 100000 in
theorem am_ck_120 : (List.range' 120 3).all am_chk = true := by decide +kernel
set_option maxRecDepth 100000 in
theorem am_ck_123 : (List.range' 123 2).all am_chk = true := by decide +kernel
set_option maxRecDepth 100000 in
theorem am_ck_125 : (List.range' 125 3).all am_chk = true := by decide +kernel
set_option maxRecDepth 100000 in
theorem am_ck_128 : (List.range' 128 5).all am_chk = true := by decide +kernel
set_option maxRecDepth 100000 in
theorem am_ck_133 : (List.range' 133 2).all am_chk = true := by decide +kernel
set_option maxRecDepth 100000 in
theorem am_ck_135 : (List.range' 135 1).all am_chk = true := by decide +kernel
set_option maxRecDepth 100000 in
theorem am_cm_136 : am_mk 136 = true := by decide +kernel
set_option maxRecDepth 100000 in
theorem am_cl_136_0 : am_kl 136 0 ((am_P.1 136).take 60) = true := by decide +kernel
set_option maxRecDepth 100000 in
theorem am_cl_136_1 : am_kl 136 60 (((am_P.1 136).drop 60)) = true := by decide +kernel
theorem am_ck_136 : am_chk 136 = true := Bool.and_eq_true_iff.mpr ⟨am_cm_136, am_kl_cut 60 _ _ am_cl_136_0 (by rw [Nat.zero_add]; exact am_cl_136_1)⟩
set_option maxRecDepth 100000 in
theorem am_ck_137 : (List.range' 137 4).all am_chk = true := by decide +kernel
set_option maxRecDepth 100000 in
theorem am_ck_141 : (List.range' 141 2).all am_chk = true := by decide +kernel
set_option maxRecDepth 100000 in
theorem am_ck_143 : (List.range' 143 1).all am_chk = true := by decide +kernel
set_option maxRecDepth 100000 in
theorem am_cm_144 : am_mk 144 = true := by decide +kernel
set_option maxRecDepth 100000 in
theorem am_cl_144_0 : am_kl 144 0 ((am_P.1 144).take 60) = true := by decide +kernel
set_option maxRecDepth 100000 in
theorem am_cl_144_1 : am_kl 144 60 (((am_P.1 144).drop 60)) = true := by decide +kernel
theorem am_ck_144 : am_chk 144 = true := Bool.and_eq_true_iff.mpr ⟨am_cm_144, am_kl_cut 60 _ _ am_cl_144_0 (by rw [Nat.zero_add]; exact am_cl_144_1)⟩
set_option maxRecDepth 100000 in
theorem am_ck_145 : (List.range' 145 3).all am_chk = true := by decide +kernel
set_option maxRecDepth 100000 in
theorem am_ck_148 : (List.range' 148 2).all am_chk = true := by decide +kernel
set_option maxRecDepth 100000 in
theorem am_ck_150 : (List.range' 150 1).all am_chk = true := by decide +kernel
set_option maxRecDepth 100000 in
theorem am_ck_151 : (List.range' 151 1).all am_chk = true := by decide +kernel
set_option maxRecDepth 100000 in
theorem am_cm_152 : am_mk 152 = true := by decide +kernel
set_option maxRecDepth 100000 in
theorem am_cl_152_0 : am_kl 152 0 ((am_P.1 152).take 60) = true := by decide +kernel
set_option maxRecDepth 100000 in
theorem am_cl_152_1 : am_kl 152 60 (((am_P.1 152).drop 60)) = true := by decide +kernel
