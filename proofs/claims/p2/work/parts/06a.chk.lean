/-! the checks, piece 1 -/
set_option maxRecDepth 100000 in
theorem am_ck_0 : (List.range' 0 4).all am_chk = true := by decide +kernel
set_option maxRecDepth 100000 in
theorem am_ck_4 : (List.range' 4 1).all am_chk = true := by decide +kernel
set_option maxRecDepth 100000 in
theorem am_ck_5 : (List.range' 5 2).all am_chk = true := by decide +kernel
set_option maxRecDepth 100000 in
theorem am_ck_7 : (List.range' 7 2).all am_chk = true := by decide +kernel
set_option maxRecDepth 100000 in
theorem am_cm_9 : am_mk 9 = true := by decide +kernel
set_option maxRecDepth 100000 in
theorem am_cl_9_0 : am_kl 9 0 ((am_P.1 9).take 60) = true := by decide +kernel
set_option maxRecDepth 100000 in
theorem am_cl_9_1 : am_kl 9 60 (((am_P.1 9).drop 60)) = true := by decide +kernel
theorem am_ck_9 : am_chk 9 = true := Bool.and_eq_true_iff.mpr ⟨am_cm_9, am_kl_cut 60 _ _ am_cl_9_0 (by rw [Nat.zero_add]; exact am_cl_9_1)⟩
set_option maxRecDepth 100000 in
theorem am_cm_10 : am_mk 10 = true := by decide +kernel
set_option maxRecDepth 100000 in
theorem am_cl_10_0 : am_kl 10 0 ((am_P.1 10).take 60) = true := by decide +kernel
set_option maxRecDepth 100000 in
theorem am_cl_10_1 : am_kl 10 60 (((am_P.1 10).drop 60)) = true := by decide +kernel
theorem am_ck_10 : am_chk 10 = true := Bool.and_eq_true_iff.mpr ⟨am_cm_10, am_kl_cut 60 _ _ am_cl_10_0 (by rw [Nat.zero_add]; exact am_cl_10_1)⟩
set_option maxRecDepth 100000 in
theorem am_ck_11 : (List.range' 11 1).all am_chk = true := by decide +kernel
set_option maxRecDepth 100000 in
theorem am_ck_12 : (List.range' 12 1).all am_chk = true := by decide +kernel
set_option maxRecDepth 100000 in
theorem am_cm_13 : am_mk 13 = true := by decide +kernel
set_option maxRecDepth 100000 in
theorem am_cl_13_0 : am_kl 13 0 ((am_P.1 13).take 60) = true := by decide +kernel
set_option maxRecDepth 100000 in
theorem am_cl_13_1 : am_kl 13 60 (((am_P.1 13).drop 60)) = true := by decide +kernel
theorem am_ck_13 : am_chk 13 = true := Bool.and_eq_true_iff.mpr ⟨am_cm_13, am_kl_cut 60 _ _ am_cl_13_0 (by rw [Nat.zero_add]; exact am_cl_13_1)⟩
set_option maxRecDepth 100000 in
theorem am_cm_14 : am_mk 14 = true := by decide +kernel
set_option maxRecDepth 100000 in
theorem am_cl_14_0 : am_kl 14 0 ((am_P.1 14).take 60) = true := by decide +kernel
set_option maxRecDepth 100000 in
theorem am_cl_14_1 : am_kl 14 60 (((am_P.1 14).drop 60)) = true := by decide +kernel
theorem am_ck_14 : am_chk 14 = true := Bool.and_eq_true_iff.mpr ⟨am_cm_14, am_kl_cut 60 _ _ am_cl_14_0 (by rw [Nat.zero_add]; exact am_cl_14_1)⟩
set_option maxRecDepth 100000 in
theorem am_ck_15 : (List.range' 15 1).all am_chk = true := by decide +kernel
set_option maxRecDepth 100000 in
theorem am_cm_16 : am_mk 16 = true := by decide +kernel
set_option maxRecDepth 100000 in
theorem am_cl_16_0 : am_kl 16 0 ((am_P.1 16).take 60) = true := by decide +kernel
set_option maxRecDepth 100000 in
theorem am_cl_16_1 : am_kl 16 60 (((am_P.1 16).drop 60)) = true := by decide +kernel
theorem am_ck_16 : am_chk 16 = true := Bool.and_eq_true_iff.mpr ⟨am_cm_16, am_kl_cut 60 _ _ am_cl_16_0 (by rw [Nat.zero_add]; exact am_cl_16_1)⟩
set_option maxRecDepth 100000 in
theorem am_ck_17 : (List.range' 17 4).all am_chk = true := by decide +kernel
set_option maxRecDepth 100000 in
theorem am_cm_21 : am_mk 21 = true := by decide +kernel
set_option maxRecDepth 100000 in
theorem am_cl_21_0 : am_kl 21 0 ((am_P.1 21).take 60) = true := by decide +kernel
set_option maxRecDepth 100000 in
theorem am_cl_21_1 : am_kl 21 60 (((am_P.1 21).drop 60)) = true := by decide +kernel
theorem am_ck_21 : am_chk 21 = true := Bool.and_eq_true_iff.mpr ⟨am_cm_21, am_kl_cut 60 _ _ am_cl_21_0 (by rw [Nat.zero_add]; exact am_cl_21_1)⟩
set_option maxRecDepth 100000 in
theorem am_ck_22 : (List.range' 22 3).all am_chk = true := by decide +kernel
set_option maxRecDepth 100000 in
theorem am_ck_25 : (List.range' 25 5).all am_chk = true := by decide +kernel
set_option maxRecDepth 100000 in
theorem am_ck_30 : (List.range' 30 5).all am_chk = true := by decide +kernel
set_option maxRecDepth 100000 in
theorem am_ck_35 : (List.range' 35 1).all am_chk = true := by decide +kernel
set_option maxRecDepth 100000 in
theorem am_ck_36 : (List.range' 36 1).all am_chk = true := by decide +kernel
set_option maxRecDepth 100000 in
theorem am_ck_37 : (List.range' 37 4).all am_chk = true := by decide +kernel
set_option maxRecDepth 100000 in
theorem am_ck_41 : (List.range' 41 2).all am_chk = true := by decide +kernel
set_option maxRecDepth 100000 in
theorem am_ck_43 : (List.range' 43 1).all am_chk = true := by decide +kernel
set_option maxRecDepth 100000 in
theorem am_ck_44 : (List.range' 44 2).all am_chk = true := by decide +kernel
set_option maxRecDepth 100000 in
theorem am_ck_46 : (List.range' 46 1).all am_chk = true := by decide +kernel
set_option maxRecDepth 100000 in
theorem am_ck_47 : (List.range' 47 2).all am_chk = true := by decide +kernel
set_option maxRecDepth 100000 in
theorem am_ck_49 : (List.range' 49 3).all am_chk = true := by decide +kernel
set_option maxRecDepth 100000 in
theorem am_ck_52 : (List.range' 52 1).all am_chk = true := by decide +kernel
set_option maxRecDepth 100000 in
theorem am_ck_53 : (List.range' 53 2).all am_chk = true := by decide +kernel
set_option maxRecDepth 100000 in
theorem am_ck_55 : (List.range' 55 3).all am_chk = true := by decide +kernel
set_option maxRecDepth 100000 in
theorem am_ck_58 : (List.range' 58 1).all am_chk = true := by decide +kernel
set_option maxRecDepth 100000 in
theorem am_ck_59 : (List.range' 59 1).all am_chk = true := by decide +kernel
set_option maxRecDepth 100000 in
theorem am_ck_60 : (List.range' 60 1).all am_chk = true := by decide +kernel
set_option maxRecDepth 100000 in
theorem am_ck_61 : (List.range' 61 1).all am_chk = true := by decide +kernel
set_option maxRecDepth 100000 in
theorem am_cm_62 : am_mk 62 = true := by decide +kernel
set_option maxRecDepth 100000 in
theorem am_cl_62_0 : am_kl 62 0 ((am_P.1 62).take 60) = true := by decide +kernel
set_option maxRecDepth 100000 in
theorem am_cl_62_1 : am_kl 62 60 (((am_P.1 62).drop 60)) = true := by decide +kernel
theorem am_ck_62 : am_chk 62 = true := Bool.and_eq_true_iff.mpr ⟨am_cm_62, am_kl_cut 60 _ _ am_cl_62_0 (by rw [Nat.zero_add]; exact am_cl_62_1)⟩
set_option maxRecDepth 100000 in
theorem am_ck_63 : (List.range' 63 1).all am_chk = true := by decide +kernel
set_option maxRecDepth 100000 in
theorem am_cm_64 : am_mk 64 = true := by decide +kernel
set_option maxRecDepth 100000 in
theorem am_cl_64_0 : am_kl 64 0 ((am_P.1 64).take 60) = true := by decide +kernel
set_option maxRecDepth 100000 in
theorem am_cl_64_1 : am_kl 64 60 (((am_P.1 64).drop 60)) = true := by decide +kernel
theorem am_ck_64 : am_chk 64 = true := Bool.and_eq_true_iff.mpr ⟨am_cm_64, am_kl_cut 60 _ _ am_cl_64_0 (by rw [Nat.zero_add]; exact am_cl_64_1)⟩
set_option maxRecDepth 100000 in
theorem am_cm_65 : am_mk 65 = true := by decide +kernel
set_option maxRecDepth 100000 in
theorem am_cl_65_0 : am_kl 65 0 ((am_P.1 65).take 60) = true := by decide +kernel
set_option maxRecDepth 100000 in
theorem am_cl_65_1 : am_kl 65 60 (((am_P.1 65).drop 60)) = true := by decide +kernel
theorem am_ck_65 : am_chk 65 = true := Bool.and_eq_true_iff.mpr ⟨am_cm_65, am_kl_cut 60 _ _ am_cl_65_0 (by rw [Nat.zero_add]; exact am_cl_65_1)⟩
set_option maxRecDepth 100000 in
theorem am_ck_66 : (List.range' 66 2).all am_chk = true := by decide +kernel
set_option maxRecDepth 100000 in
theorem am_ck_68 : (List.range' 68 2).all am_chk = true := by decide +kernel
set_option maxRecDepth 100000 in
theorem am_ck_70 : (List.range' 70 2).all am_chk = true := by decide +kernel
set_option maxRecDepth 100000 in
theorem am_ck_72 : (List.range' 72 5).all am_chk = true := by decide +kernel
set_option maxRecDepth 100000 in
theorem am_cm_77 : am_mk 77 = true := by decide +kernel
set_option maxRecDepth 100000 in
theorem am_cl_77_0 : am_kl 77 0 ((am_P.1 77).take 60) = true := by decide +kernel
set_option maxRecDepth 100000 in
theorem am_cl_77_1 : am_kl 77 60 (((am_P.1 77).drop 60)) = true := by decide +kernel
