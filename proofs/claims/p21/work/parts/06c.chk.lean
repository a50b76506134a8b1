/-! the checks, piece 3 -/
set_option maxRecDepth 100000 in
theorem am_cl_61_0 : am_kl 61 0 ((am_P.1 61).take 60) = true := by decide +kernel
set_option maxRecDepth 100000 in
theorem am_cl_61_1 : am_kl 61 60 (((am_P.1 61).drop 60)) = true := by decide +kernel
theorem am_ck_61 : am_chk 61 = true := Bool.and_eq_true_iff.mpr ⟨am_cm_61, am_kl_cut 60 _ _ am_cl_61_0 (by rw [Nat.zero_add]; exact am_cl_61_1)⟩
set_option maxRecDepth 100000 in
theorem am_ck_62 : (List.range' 62 2).all am_chk = true := by decide +kernel
set_option maxRecDepth 100000 in
theorem am_ck_64 : (List.range' 64 2).all am_chk = true := by decide +kernel
set_option maxRecDepth 100000 in
theorem am_ck_66 : (List.range' 66 2).all am_chk = true := by decide +kernel
set_option maxRecDepth 100000 in
theorem am_ck_68 : (List.range' 68 3).all am_chk = true := by decide +kernel
set_option maxRecDepth 100000 in
theorem am_ck_71 : (List.range' 71 1).all am_chk = true := by decide +kernel
set_option maxRecDepth 100000 in
theorem am_ck_72 : (List.range' 72 4).all am_chk = true := by decide +kernel
set_option maxRecDepth 100000 in
theorem am_ck_76 : (List.range' 76 4).all am_chk = true := by decide +kernel
set_option maxRecDepth 100000 in
theorem am_ck_80 : (List.range' 80 2).all am_chk = true := by decide +kernel
set_option maxRecDepth 100000 in
theorem am_ck_82 : (List.range' 82 1).all am_chk = true := by decide +kernel
set_option maxRecDepth 100000 in
theorem am_ck_83 : (List.range' 83 1).all am_chk = true := by decide +kernel
set_option maxRecDepth 100000 in
theorem am_cm_84 : am_mk 84 = true := by decide +kernel
set_option maxRecDepth 100000 in
theorem am_cl_84_0 : am_kl 84 0 ((am_P.1 84).take 60) = true := by decide +kernel
set_option maxRecDepth 100000 in
theorem am_cl_84_1 : am_kl 84 60 (((am_P.1 84).drop 60).take 60) = true := by decide +kernel
set_option maxRecDepth 100000 in
theorem am_cl_84_2 : am_kl 84 120 (((am_P.1 84).drop 120)) = true := by decide +kernel
theorem am_ck_84 : am_chk 84 = true := Bool.and_eq_true_iff.mpr ⟨am_cm_84, am_kl_cut 60 _ _ am_cl_84_0 (by rw [Nat.zero_add]; exact am_kl_cut 60 _ _ am_cl_84_1 (by rw [List.drop_drop]; exact am_cl_84_2))⟩
set_option maxRecDepth 100000 in
theorem am_ck_85 : (List.range' 85 1).all am_chk = true := by decide +kernel
set_option maxRecDepth 100000 in
theorem am_cm_86 : am_mk 86 = true := by decide +kernel
set_option maxRecDepth 100000 in
theorem am_cl_86_0 : am_kl 86 0 ((am_P.1 86).take 60) = true := by decide +kernel
set_option maxRecDepth 100000 in
theorem am_cl_86_1 : am_kl 86 60 (((am_P.1 86).drop 60).take 60) = true := by decide +kernel
set_option maxRecDepth 100000 in
theorem am_cl_86_2 : am_kl 86 120 (((am_P.1 86).drop 120)) = true := by decide +kernel
theorem am_ck_86 : am_chk 86 = true := Bool.and_eq_true_iff.mpr ⟨am_cm_86, am_kl_cut 60 _ _ am_cl_86_0 (by rw [Nat.zero_add]; exact am_kl_cut 60 _ _ am_cl_86_1 (by rw [List.drop_drop]; exact am_cl_86_2))⟩
set_option maxRecDepth 100000 in
theorem am_cm_87 : am_mk 87 = true := by decide +kernel
set_option maxRecDepth 100000 in
theorem am_cl_87_0 : am_kl 87 0 ((am_P.1 87).take 60) = true := by decide +kernel
set_option maxRecDepth 100000 in
theorem am_cl_87_1 : am_kl 87 60 (((am_P.1 87).drop 60)) = true := by decide +kernel
theorem am_ck_87 : am_chk 87 = true := Bool.and_eq_true_iff.mpr ⟨am_cm_87, am_kl_cut 60 _ _ am_cl_87_0 (by rw [Nat.zero_add]; exact am_cl_87_1)⟩
set_option maxRecDepth 100000 in
theorem am_ck_88 : (List.range' 88 1).all am_chk = true := by decide +kernel
set_option maxRecDepth 100000 in
theorem am_ck_89 : (List.range' 89 1).all am_chk = true := by decide +kernel
