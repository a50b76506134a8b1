/-! the checks, piece 4 -/
set_option maxRecDepth 100000 in
theorem am_ck_90 : (List.range' 90 2).all am_chk = true := by decide +kernel
set_option maxRecDepth 100000 in
theorem am_ck_92 : (List.range' 92 1).all am_chk = true := by decide +kernel
set_option maxRecDepth 100000 in
theorem am_ck_93 : (List.range' 93 4).all am_chk = true := by decide +kernel
set_option maxRecDepth 100000 in
theorem am_ck_97 : (List.range' 97 3).all am_chk = true := by decide +kernel
set_option maxRecDepth 100000 in
theorem am_ck_100 : (List.range' 100 2).all am_chk = true := by decide +kernel
set_option maxRecDepth 100000 in
theorem am_ck_102 : (List.range' 102 3).all am_chk = true := by decide +kernel
set_option maxRecDepth 100000 in
theorem am_ck_105 : (List.range' 105 5).all am_chk = true := by decide +kernel
set_option maxRecDepth 100000 in
theorem am_ck_110 : (List.range' 110 2).all am_chk = true := by decide +kernel
set_option maxRecDepth 100000 in
theorem am_ck_112 : (List.range' 112 1).all am_chk = true := by decide +kernel
set_option maxRecDepth 100000 in
theorem am_cm_113 : am_mk 113 = true := by decide +kernel
set_option maxRecDepth 100000 in
theorem am_cl_113_0 : am_kl 113 0 ((am_P.1 113).take 60) = true := by decide +kernel
set_option maxRecDepth 100000 in
theorem am_cl_113_1 : am_kl 113 60 (((am_P.1 113).drop 60)) = true := by decide +kernel
theorem am_ck_113 : am_chk 113 = true := Bool.and_eq_true_iff.mpr ⟨am_cm_113, am_kl_cut 60 _ _ am_cl_113_0 (by rw [Nat.zero_add]; exact am_cl_113_1)⟩
set_option maxRecDepth 100000 in
theorem am_ck_114 : (List.range' 114 4).all am_chk = true := by decide +kernel
set_option maxRecDepth 100000 in
theorem am_ck_118 : (List.range' 118 2).all am_chk = true := by decide +kernel
set_option maxRecDepth 100000 in
theorem am_ck_120 : (List.range' 120 1).all am_chk = true := by decide +kernel
set_option maxRecDepth 100000 in
theorem am_cm_121 : am_mk 121 = true := by decide +kernel
set_option maxRecDepth 100000 in
theorem am_cl_121_0 : am_kl 121 0 ((am_P.1 121).take 60) = true := by decide +kernel
set_option maxRecDepth 100000 in
theorem am_cl_121_1 : am_kl 121 60 (((am_P.1 121).drop 60)) = true := by decide +kernel
theorem am_ck_121 : am_chk 121 = true := Bool.and_eq_true_iff.mpr ⟨am_cm_121, am_kl_cut 60 _ _ am_cl_121_0 (by rw [Nat.zero_add]; exact am_cl_121_1)⟩
set_option maxRecDepth 100000 in
theorem am_ck_122 : (List.range' 122 3).all am_chk = true := by decide +kernel
set_option maxRecDepth 100000 in
theorem am_ck_125 : (List.range' 125 2).all am_chk = true := by decide +kernel
set_option maxRecDepth 100000 in
theorem am_ck_127 : (List.range' 127 1).all am_chk = true := by decide +kernel
set_option maxRecDepth 100000 in
theorem am_ck_128 : (List.range' 128 1).all am_chk = true := by decide +kernel
set_option maxRecDepth 100000 in
theorem am_cm_129 : am_mk 129 = true := by decide +kernel
set_option maxRecDepth 100000 in
theorem am_cl_129_0 : am_kl 129 0 ((am_P.1 129).take 60) = true := by decide +kernel
set_option maxRecDepth 100000 in
theorem am_cl_129_1 : am_kl 129 60 (((am_P.1 129).drop 60)) = true := by decide +kernel
theorem am_ck_129 : am_chk 129 = true := Bool.and_eq_true_iff.mpr ⟨am_cm_129, am_kl_cut 60 _ _ am_cl_129_0 (by rw [Nat.zero_add]; exact am_cl_129_1)⟩
set_option maxRecDepth 100000 in
theorem am_ck_130 : (List.range' 130 1).all am_chk = true := by decide +kernel
set_option maxRecDepth 100000 in
theorem am_ck_131 : (List.range' 131 1).all am_chk = true := by decide +kernel
