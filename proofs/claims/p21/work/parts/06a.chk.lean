/-! the checks, piece 1 -/
set_option maxRecDepth 100000 in
theorem am_ck_0 : (List.range' 0 4).all am_chk = true := by decide +kernel
set_option maxRecDepth 100000 in
theorem am_ck_4 : (List.range' 4 1).all am_chk = true := by decide +kernel
set_option maxRecDepth 100000 in
theorem am_ck_5 : (List.range' 5 2).all am_chk = true := by decide +kernel
set_option maxRecDepth 100000 in
theorem am_ck_7 : (List.range' 7 2).all am_chk = true := by decide +kernel
set_option maxRecDepth 100000 in
theorem am_cm_9 : am_mk 9 = true := by decide +kernel
set_option maxRecDepth 100000 in
theorem am_cl_9_0 : am_kl 9 0 ((am_P.1 9).take 60) = true := by decide +kernel
set_option maxRecDepth 100000 in
theorem am_cl_9_1 : am_kl 9 60 (((am_P.1 9).drop 60)) = true := by decide +kernel
theorem am_ck_9 : am_chk 9 = true := Bool.and_eq_true_iff.mpr ⟨am_cm_9, am_kl_cut 60 _ _ am_cl_9_0 (by rw [Nat.zero_add]; exact am_cl_9_1)⟩
set_option maxRecDepth 100000 in
theorem am_cm_10 : am_mk 10 = true := by decide +kernel
set_option maxRecDepth 100000 in
theorem am_cl_10_0 : am_kl 10 0 ((am_P.1 10).take 60) = true := by decide +kernel
set_option maxRecDepth 100000 in
theorem am_cl_10_1 : am_kl 10 60 (((am_P.1 10).drop 60)) = true := by decide +kernel
theorem am_ck_10 : am_chk 10 = true := Bool.and_eq_true_iff.mpr ⟨am_cm_10, am_kl_cut 60 _ _ am_cl_10_0 (by rw [Nat.zero_add]; exact am_cl_10_1)⟩
set_option maxRecDepth 100000 in
theorem am_ck_11 : (List.range' 11 1).all am_chk = true := by decide +kernel
set_option maxRecDepth 100000 in
theorem am_ck_12 : (List.range' 12 1).all am_chk = true := by decide +kernel
set_option maxRecDepth 100000 in
theorem am_cm_13 : am_mk 13 = true := by decide +kernel
set_option maxRecDepth 100000 in
theorem am_cl_13_0 : am_kl 13 0 ((am_P.1 13).take 60) = true := by decide +kernel
set_option maxRecDepth 100000 in
theorem am_cl_13_1 : am_kl 13 60 (((am_P.1 13).drop 60)) = true := by decide +kernel
theorem am_ck_13 : am_chk 13 = true := Bool.and_eq_true_iff.mpr ⟨am_cm_13, am_kl_cut 60 _ _ am_cl_13_0 (by rw [Nat.zero_add]; exact am_cl_13_1)⟩
set_option maxRecDepth 100000 in
theorem am_cm_14 : am_mk 14 = true := by decide +kernel
set_option maxRecDepth 100000 in
theorem am_cl_14_0 : am_kl 14 0 ((am_P.1 14).take 60) = true := by decide +kernel
set_option maxRecDepth 100000 in
theorem am_cl_14_1 : am_kl 14 60 (((am_P.1 14).drop 60)) = true := by decide +kernel
theorem am_ck_14 : am_chk 14 = true := Bool.and_eq_true_iff.mpr ⟨am_cm_14, am_kl_cut 60 _ _ am_cl_14_0 (by rw [Nat.zero_add]; exact am_cl_14_1)⟩
set_option maxRecDepth 100000 in
theorem am_ck_15 : (List.range' 15 1).all am_chk = true := by decide +kernel
set_option maxRecDepth 100000 in
theorem am_cm_16 : am_mk 16 = true := by decide +kernel
set_option maxRecDepth 100000 in
theorem am_cl_16_0 : am_kl 16 0 ((am_P.1 16).take 60) = true := by decide +kernel
set_option maxRecDepth 100000 in
theorem am_cl_16_1 : am_kl 16 60 (((am_P.1 16).drop 60)) = true := by decide +kernel
theorem am_ck_16 : am_chk 16 = true := Bool.and_eq_true_iff.mpr ⟨am_cm_16, am_kl_cut 60 _ _ am_cl_16_0 (by rw [Nat.zero_add]; exact am_cl_16_1)⟩
set_option maxRecDepth 100000 in
theorem am_ck_17 : (List.range' 17 3).all am_chk = true := by decide +kernel
set_option maxRecDepth 100000 in
theorem am_cm_20 : am_mk 20 = true := by decide +kernel
set_option maxRecDepth 100000 in
theorem am_cl_20_0 : am_kl 20 0 ((am_P.1 20).take 60) = true := by decide +kernel
