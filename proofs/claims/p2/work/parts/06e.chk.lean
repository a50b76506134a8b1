/-! the checks, piece 5 -/
set_option maxRecDepth 100000 in
theorem am_cl_263_1 : am_kl 263 60 (((am_P.1 263).drop 60)) = true := by decide +kernel
theorem am_ck_263 : am_chk 263 = true := Bool.and_eq_true_iff.mpr ⟨am_cm_263, am_kl_cut 60 _ _ am_cl_263_0 (by rw [Nat.zero_add]; exact am_cl_263_1)⟩
set_option maxRecDepth 100000 in
theorem am_cm_264 : am_mk 264 = true := by decide +kernel
set_option maxRecDepth 100000 in
theorem am_cl_264_0 : am_kl 264 0 ((am_P.1 264).take 60) = true := by decide +kernel
set_option maxRecDepth 100000 in
theorem am_cl_264_1 : am_kl 264 60 (((am_P.1 264).drop 60)) = true := by decide +kernel
theorem am_ck_264 : am_chk 264 = true := Bool.and_eq_true_iff.mpr ⟨am_cm_264, am_kl_cut 60 _ _ am_cl_264_0 (by rw [Nat.zero_add]; exact am_cl_264_1)⟩
set_option maxRecDepth 100000 in
theorem am_ck_265 : (List.range' 265 1).all am_chk = true := by decide +kernel
set_option maxRecDepth 100000 in
theorem am_ck_266 : (List.range' 266 2).all am_chk = true := by decide +kernel
set_option maxRecDepth 100000 in
theorem am_ck_268 : (List.range' 268 1).all am_chk = true := by decide +kernel
set_option maxRecDepth 100000 in
theorem am_ck_269 : (List.range' 269 1).all am_chk = true := by decide +kernel
set_option maxRecDepth 100000 in
theorem am_cm_270 : am_mk 270 = true := by decide +kernel
set_option maxRecDepth 100000 in
theorem am_cl_270_0 : am_kl 270 0 ((am_P.1 270).take 60) = true := by decide +kernel
set_option maxRecDepth 100000 in
theorem am_cl_270_1 : am_kl 270 60 (((am_P.1 270).drop 60)) = true := by decide +kernel
theorem am_ck_270 : am_chk 270 = true := Bool.and_eq_true_iff.mpr ⟨am_cm_270, am_kl_cut 60 _ _ am_cl_270_0 (by rw [Nat.zero_add]; exact am_cl_270_1)⟩
set_option maxRecDepth 100000 in
theorem am_ck_271 : (List.range' 271 1).all am_chk = true := by decide +kernel
set_option maxRecDepth 100000 in
theorem am_ck_272 : (List.range' 272 1).all am_chk = true := by decide +kernel
set_option maxRecDepth 100000 in
theorem am_ck_273 : (List.range' 273 1).all am_chk = true := by decide +kernel
set_option maxRecDepth 100000 in
theorem am_cm_274 : am_mk 274 = true := by decide +kernel
set_option maxRecDepth 100000 in
theorem am_cl_274_0 : am_kl 274 0 ((am_P.1 274).take 60) = true := by decide +kernel
set_option maxRecDepth 100000 in
theorem am_cl_274_1 : am_kl 274 60 (((am_P.1 274).drop 60).take 60) = true := by decide +kernel
set_option maxRecDepth 100000 in
theorem am_cl_274_2 : am_kl 274 120 (((am_P.1 274).drop 120)) = true := by decide +kernel
theorem am_ck_274 : am_chk 274 = true := Bool.and_eq_true_iff.mpr ⟨am_cm_274, am_kl_cut 60 _ _ am_cl_274_0 (by rw [Nat.zero_add]; exact am_kl_cut 60 _ _ am_cl_274_1 (by rw [List.drop_drop]; exact am_cl_274_2))⟩
set_option maxRecDepth 100000 in
theorem am_ck_275 : (List.range' 275 1).all am_chk = true := by decide +kernel
set_option maxRecDepth 100000 in
theorem am_cm_276 : am_mk 276 = true := by decide +kernel
set_option maxRecDepth 100000 in
theorem am_cl_276_0 : am_kl 276 0 ((am_P.1 276).take 60) = true := by decide +kernel
set_option maxRecDepth 100000 in
theorem am_cl_276_1 : am_kl 276 60 (((am_P.1 276).drop 60).take 60) = true := by decide +kernel
set_option maxRecDepth 100000 in
theorem am_cl_276_2 : am_kl 276 120 (((am_P.1 276).drop 120)) = true := by decide +kernel
theorem am_ck_276 : am_chk 276 = true := Bool.and_eq_true_iff.mpr ⟨am_cm_276, am_kl_cut 60 _ _ am_cl_276_0 (by rw [Nat.zero_add]; exact am_kl_cut 60 _ _ am_cl_276_1 (by rw [List.drop_drop]; exact am_cl_276_2))⟩
set_option maxRecDepth 100000 in
theorem am_ck_277 : (List.range' 277 2).all am_chk = true := by decide +kernel
set_option maxRecDepth 100000 in
theorem am_ck_279 : (List.range' 279 3).all am_chk = true := by decide +kernel
set_option maxRecDepth 100000 in
theorem am_ck_282 : (List.range' 282 2).all am_chk = true := by decide +kernel
set_option maxRecDepth 100000 in
theorem am_ck_284 : (List.range' 284 2).all am_chk = true := by decide +kernel
set_option maxRecDepth 100000 in
theorem am_ck_286 : (List.range' 286 1).all am_chk = true := by decide +kernel
set_option maxRecDepth 100000 in
theorem am_cm_287 : am_mk 287 = true := by decide +kernel
set_option maxRecDepth 100000 in
theorem am_cl_287_0 : am_kl 287 0 ((am_P.1 287).take 60) = true := by decide +kernel
set_option maxRecDepth 100000 in
theorem am_cl_287_1 : am_kl 287 60 (((am_P.1 287).drop 60).take 60) = true := by decide +kernel
set_option maxRecDepth 100000 in
theorem am_cl_287_2 : am_kl 287 120 (((am_P.1 287).drop 120).take 60) = true := by decide +kernel
set_option maxRecDepth 100000 in
theorem am_cl_287_3 : am_kl 287 180 (((am_P.1 287).drop 180)) = true := by decide +kernel
theorem am_ck_287 : am_chk 287 = true := Bool.and_eq_true_iff.mpr ⟨am_cm_287, am_kl_cut 60 _ _ am_cl_287_0 (by rw [Nat.zero_add]; exact am_kl_cut 60 _ _ am_cl_287_1 (by rw [List.drop_drop]; exact am_kl_cut 60 _ _ am_cl_287_2 (by rw [List.drop_drop]; exact am_cl_287_3)))⟩
set_option maxRecDepth 100000 in
theorem am_ck_288 : (List.range' 288 2).all am_chk = true := by decide +kernel
set_option maxRecDepth 100000 in
theorem am_ck_290 : (List.range' 290 1).all am_chk = true := by decide +kernel
set_option maxRecDepth 100000 in
theorem am_cm_291 : am_mk 291 = true := by decide +kernel
set_option maxRecDepth 100000 in
theorem am_cl_291_0 : am_kl 291 0 ((am_P.1 291).take 60) = true := by decide +kernel
set_option maxRecDepth 100000 in
theorem am_cl_291_1 : am_kl 291 60 (((am_P.1 291).drop 60)) = true := by decide +kernel
theorem am_ck_291 : am_chk 291 = true := Bool.and_eq_true_iff.mpr ⟨am_cm_291, am_kl_cut 60 _ _ am_cl_291_0 (by rw [Nat.zero_add]; exact am_cl_291_1)⟩
set_option maxRecDepth 100000 in
theorem am_cm_292 : am_mk 292 = true := by decide +kernel
set_option maxRecDepth 100000 in
theorem am_cl_292_0 : am_kl 292 0 ((am_P.1 292).take 60) = true := by decide +kernel
set_option maxRecDepth 100000 in
theorem am_cl_292_1 : am_kl 292 60 (((am_P.1 292).drop 60)) = true := by decide +kernel
theorem am_ck_292 : am_chk 292 = true := Bool.and_eq_true_iff.mpr ⟨am_cm_292, am_kl_cut 60 _ _ am_cl_292_0 (by rw [Nat.zero_add]; exact am_cl_292_1)⟩
set_option maxRecDepth 100000 in
theorem am_ck_293 : (List.range' 293 2).all am_chk = true := by decide +kernel
set_option maxRecDepth 100000 in
theorem am_ck_295 : (List.range' 295 2).all am_chk = true := by decide +kernel
set_option maxRecDepth 100000 in
theorem am_cm_297 : am_mk 297 = true := by decide +kernel
set_option maxRecDepth 100000 in
theorem am_cl_297_0 : am_kl 297 0 ((am_P.1 297).take 60) = true := by decide +kernel
set_option maxRecDepth 100000 in
theorem am_cl_297_1 : am_kl 297 60 (((am_P.1 297).drop 60)) = true := by decide +kernel
theorem am_ck_297 : am_chk 297 = true := Bool.and_eq_true_iff.mpr ⟨am_cm_297, am_kl_cut 60 _ _ am_cl_297_0 (by rw [Nat.zero_add]; exact am_cl_297_1)⟩
set_option maxRecDepth 100000 in
theorem am_ck_298 : (List.range' 298 6).all am_chk = true := by decide +kernel
set_option maxRecDepth 100000 in
theorem am_ck_304 : (List.range' 304 3).all am_chk = true := by decide +kernel
set_option maxRecDepth 100000 in
theorem am_ck_307 : (List.range' 307 3).all am_chk = true := by decide +kernel
set_option maxRecDepth 100000 in
theorem am_ck_310 : (List.range' 310 4).all am_chk = true := by decide +kernel
set_option maxRecDepth 100000 in
theorem am_ck_314 : (List.range' 314 4).all am_chk = true := by decide +kernel
set_option maxRecDepth 100000 in
theorem am_ck_318 : (List.range' 318 1).all am_chk = true := by decide +kernel
set_option maxRecDepth 100000 in
theorem am_cm_319 : am_mk 319 = true := by decide +kernel
set_option maxRecDepth 100000 in
theorem am_cl_319_0 : am_kl 319 0 ((am_P.1 319).take 60) = true := by decide +kernel
set_option maxRecDepth 100000 in
theorem am_cl_319_1 : am_kl 319 60 (((am_P.1 319).drop 60).take 60) = true := by decide +kernel
set_option maxRecDepth 100000 in
theorem am_cl_319_2 : am_kl 319 120 (((am_P.1 319).drop 120).take 60) = true := by decide +kernel
set_option maxRecDepth 100000 in
theorem am_cl_319_3 : am_kl 319 180 (((am_P.1 319).drop 180).take 60) = true := by decide +kernel
set_option maxRecDepth 100000 in
theorem am_cl_319_4 : am_kl 319 240 (((am_P.1 319).drop 240).take 60) = true := by decide +kernel
set_option maxRecDepth 100000 in
theorem am_cl_319_5 : am_kl 319 300 (((am_P.1 319).drop 300)) = true := by decide +kernel
theorem am_ck_319 : am_chk 319 = true := Bool.and_eq_true_iff.mpr ⟨am_cm_319, am_kl_cut 60 _ _ am_cl_319_0 (by rw [Nat.zero_add]; exact am_kl_cut 60 _ _ am_cl_319_1 (by rw [List.drop_drop]; exact am_kl_cut 60 _ _ am_cl_319_2 (by rw [List.drop_drop]; exact am_kl_cut 60 _ _ am_cl_319_3 (by rw [List.drop_drop]; exact am_kl_cut 60 _ _ am_cl_319_4 (by rw [List.drop_drop]; exact am_cl_319_5)))))⟩
