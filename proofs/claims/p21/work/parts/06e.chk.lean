/-! the checks, piece 5 -/
set_option maxRecDepth 100000 in
theorem am_ck_132 : (List.range' 132 1).all am_chk = true := by decide +kernel
set_option maxRecDepth 100000 in
theorem am_cm_133 : am_mk 133 = true := by decide +kernel
set_option maxRecDepth 100000 in
theorem am_cl_133_0 : am_kl 133 0 ((am_P.1 133).take 60) = true := by decide +kernel
set_option maxRecDepth 100000 in
theorem am_cl_133_1 : am_kl 133 60 (((am_P.1 133).drop 60)) = true := by decide +kernel
theorem am_ck_133 : am_chk 133 = true := Bool.and_eq_true_iff.mpr ⟨am_cm_133, am_kl_cut 60 _ _ am_cl_133_0 (by rw [Nat.zero_add]; exact am_cl_133_1)⟩
set_option maxRecDepth 100000 in
theorem am_ck_134 : (List.range' 134 4).all am_chk = true := by decide +kernel
set_option maxRecDepth 100000 in
theorem am_ck_138 : (List.range' 138 1).all am_chk = true := by decide +kernel
set_option maxRecDepth 100000 in
theorem am_ck_139 : (List.range' 139 1).all am_chk = true := by decide +kernel
set_option maxRecDepth 100000 in
theorem am_ck_140 : (List.range' 140 1).all am_chk = true := by decide +kernel
set_option maxRecDepth 100000 in
theorem am_ck_141 : (List.range' 141 2).all am_chk = true := by decide +kernel
set_option maxRecDepth 100000 in
theorem am_ck_143 : (List.range' 143 2).all am_chk = true := by decide +kernel
set_option maxRecDepth 100000 in
theorem am_ck_145 : (List.range' 145 4).all am_chk = true := by decide +kernel
set_option maxRecDepth 100000 in
theorem am_ck_149 : (List.range' 149 6).all am_chk = true := by decide +kernel
set_option maxRecDepth 100000 in
theorem am_ck_155 : (List.range' 155 5).all am_chk = true := by decide +kernel
set_option maxRecDepth 100000 in
theorem am_ck_160 : (List.range' 160 1).all am_chk = true := by decide +kernel
set_option maxRecDepth 100000 in
theorem am_cm_161 : am_mk 161 = true := by decide +kernel
set_option maxRecDepth 100000 in
theorem am_cl_161_0 : am_kl 161 0 ((am_P.1 161).take 60) = true := by decide +kernel
set_option maxRecDepth 100000 in
theorem am_cl_161_1 : am_kl 161 60 (((am_P.1 161).drop 60)) = true := by decide +kernel
theorem am_ck_161 : am_chk 161 = true := Bool.and_eq_true_iff.mpr ⟨am_cm_161, am_kl_cut 60 _ _ am_cl_161_0 (by rw [Nat.zero_add]; exact am_cl_161_1)⟩
set_option maxRecDepth 100000 in
theorem am_ck_162 : (List.range' 162 1).all am_chk = true := by decide +kernel
set_option maxRecDepth 100000 in
theorem am_cm_163 : am_mk 163 = true := by decide +kernel
set_option maxRecDepth 100000 in
theorem am_cl_163_0 : am_kl 163 0 ((am_P.1 163).take 60) = true := by decide +kernel
set_option maxRecDepth 100000 in
theorem am_cl_163_1 : am_kl 163 60 (((am_P.1 163).drop 60).take 60) = true := by decide +kernel
set_option maxRecDepth 100000 in
theorem am_cl_163_2 : am_kl 163 120 (((am_P.1 163).drop 120).take 60) = true := by decide +kernel
set_option maxRecDepth 100000 in
theorem am_cl_163_3 : am_kl 163 180 (((am_P.1 163).drop 180).take 60) = true := by decide +kernel
set_option maxRecDepth 100000 in
theorem am_cl_163_4 : am_kl 163 240 (((am_P.1 163).drop 240).take 60) = true := by decide +kernel
set_option maxRecDepth 100000 in
theorem am_cl_163_5 : am_kl 163 300 (((am_P.1 163).drop 300).take 60) = true := by decide +kernel
set_option maxRecDepth 100000 in
theorem am_cl_163_6 : am_kl 163 360 (((am_P.1 163).drop 360).take 60) = true := by decide +kernel
set_option maxRecDepth 100000 in
theorem am_cl_163_7 : am_kl 163 420 (((am_P.1 163).drop 420)) = true := by decide +kernel
theorem am_ck_163 : am_chk 163 = true := Bool.and_eq_true_iff.mpr ⟨am_cm_163, am_kl_cut 60 _ _ am_cl_163_0 (by rw [Nat.zero_add]; exact am_kl_cut 60 _ _ am_cl_163_1 (by rw [List.drop_drop]; exact am_kl_cut 60 _ _ am_cl_163_2 (by rw [List.drop_drop]; exact am_kl_cut 60 _ _ am_cl_163_3 (by rw [List.drop_drop]; exact am_kl_cut 60 _ _ am_cl_163_4 (by rw [List.drop_drop]; exact am_kl_cut 60 _ _ am_cl_163_5 (by rw [List.drop_drop]; exact am_kl_cut 60 _ _ am_cl_163_6 (by rw [List.drop_drop]; exact am_cl_163_7)))))))⟩
