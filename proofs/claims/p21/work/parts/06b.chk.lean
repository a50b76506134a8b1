/-! the checks, piece 2 -/
set_option maxRecDepth 100000 in
theorem am_cl_20_1 : am_kl 20 60 (((am_P.1 20).drop 60)) = true := by decide +kernel
theorem am_ck_20 : am_chk 20 = true := Bool.and_eq_true_iff.mpr ⟨am_cm_20, am_kl_cut 60 _ _ am_cl_20_0 (by rw [Nat.zero_add]; exact am_cl_20_1)⟩
set_option maxRecDepth 100000 in
theorem am_ck_21 : (List.range' 21 3).all am_chk = true := by decide +kernel
set_option maxRecDepth 100000 in
theorem am_ck_24 : (List.range' 24 6).all am_chk = true := by decide +kernel
set_option maxRecDepth 100000 in
theorem am_ck_30 : (List.range' 30 2).all am_chk = true := by decide +kernel
set_option maxRecDepth 100000 in
theorem am_ck_32 : (List.range' 32 1).all am_chk = true := by decide +kernel
set_option maxRecDepth 100000 in
theorem am_ck_33 : (List.range' 33 4).all am_chk = true := by decide +kernel
set_option maxRecDepth 100000 in
theorem am_ck_37 : (List.range' 37 2).all am_chk = true := by decide +kernel
set_option maxRecDepth 100000 in
theorem am_ck_39 : (List.range' 39 1).all am_chk = true := by decide +kernel
set_option maxRecDepth 100000 in
theorem am_ck_40 : (List.range' 40 2).all am_chk = true := by decide +kernel
set_option maxRecDepth 100000 in
theorem am_ck_42 : (List.range' 42 1).all am_chk = true := by decide +kernel
set_option maxRecDepth 100000 in
theorem am_ck_43 : (List.range' 43 2).all am_chk = true := by decide +kernel
set_option maxRecDepth 100000 in
theorem am_ck_45 : (List.range' 45 3).all am_chk = true := by decide +kernel
set_option maxRecDepth 100000 in
theorem am_ck_48 : (List.range' 48 1).all am_chk = true := by decide +kernel
set_option maxRecDepth 100000 in
theorem am_ck_49 : (List.range' 49 2).all am_chk = true := by decide +kernel
set_option maxRecDepth 100000 in
theorem am_ck_51 : (List.range' 51 3).all am_chk = true := by decide +kernel
set_option maxRecDepth 100000 in
theorem am_ck_54 : (List.range' 54 1).all am_chk = true := by decide +kernel
set_option maxRecDepth 100000 in
theorem am_ck_55 : (List.range' 55 1).all am_chk = true := by decide +kernel
set_option maxRecDepth 100000 in
theorem am_ck_56 : (List.range' 56 1).all am_chk = true := by decide +kernel
set_option maxRecDepth 100000 in
theorem am_ck_57 : (List.range' 57 1).all am_chk = true := by decide +kernel
set_option maxRecDepth 100000 in
theorem am_cm_58 : am_mk 58 = true := by decide +kernel
set_option maxRecDepth 100000 in
theorem am_cl_58_0 : am_kl 58 0 ((am_P.1 58).take 60) = true := by decide +kernel
set_option maxRecDepth 100000 in
theorem am_cl_58_1 : am_kl 58 60 (((am_P.1 58).drop 60)) = true := by decide +kernel
theorem am_ck_58 : am_chk 58 = true := Bool.and_eq_true_iff.mpr ⟨am_cm_58, am_kl_cut 60 _ _ am_cl_58_0 (by rw [Nat.zero_add]; exact am_cl_58_1)⟩
set_option maxRecDepth 100000 in
theorem am_ck_59 : (List.range' 59 1).all am_chk = true := by decide +kernel
set_option maxRecDepth 100000 in
theorem am_cm_60 : am_mk 60 = true := by decide +kernel
set_option maxRecDepth 100000 in
theorem am_cl_60_0 : am_kl 60 0 ((am_P.1 60).take 60) = true := by decide +kernel
set_option maxRecDepth 100000 in
theorem am_cl_60_1 : am_kl 60 60 (((am_P.1 60).drop 60)) = true := by decide +kernel
theorem am_ck_60 : am_chk 60 = true := Bool.and_eq_true_iff.mpr ⟨am_cm_60, am_kl_cut 60 _ _ am_cl_60_0 (by rw [Nat.zero_add]; exact am_cl_60_1)⟩
set_option maxRecDepth 100000 in
theorem am_cm_61 : am_mk 61 = true := by decide +kernel
