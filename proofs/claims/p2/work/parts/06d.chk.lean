/-! the checks, piece 4 -/
set_option maxRecDepth 100000 in
theorem am_cm_221 : am_mk 221 = true := by decide +kernel
set_option maxRecDepth 100000 in
theorem am_cl_221_0 : am_kl 221 0 ((am_P.1 221).take 60) = true := by decide +kernel
set_option maxRecDepth 100000 in
theorem am_cl_221_1 : am_kl 221 60 (((am_P.1 221).drop 60)) = true := by decide +kernel
theorem am_ck_221 : am_chk 221 = true := Bool.and_eq_true_iff.mpr ⟨am_cm_221, am_kl_cut 60 _ _ am_cl_221_0 (by rw [Nat.zero_add]; exact am_cl_221_1)⟩
set_option maxRecDepth 100000 in
theorem am_ck_222 : (List.range' 222 1).all am_chk = true := by decide +kernel
set_option maxRecDepth 100000 in
theorem am_ck_223 : (List.range' 223 1).all am_chk = true := by decide +kernel
set_option maxRecDepth 100000 in
theorem am_cm_224 : am_mk 224 = true := by decide +kernel
set_option maxRecDepth 100000 in
theorem am_cl_224_0 : am_kl 224 0 ((am_P.1 224).take 60) = true := by decide +kernel
set_option maxRecDepth 100000 in
theorem am_cl_224_1 : am_kl 224 60 (((am_P.1 224).drop 60)) = true := by decide +kernel
theorem am_ck_224 : am_chk 224 = true := Bool.and_eq_true_iff.mpr ⟨am_cm_224, am_kl_cut 60 _ _ am_cl_224_0 (by rw [Nat.zero_add]; exact am_cl_224_1)⟩
set_option maxRecDepth 100000 in
theorem am_cm_225 : am_mk 225 = true := by decide +kernel
set_option maxRecDepth 100000 in
theorem am_cl_225_0 : am_kl 225 0 ((am_P.1 225).take 60) = true := by decide +kernel
set_option maxRecDepth 100000 in
theorem am_cl_225_1 : am_kl 225 60 (((am_P.1 225).drop 60)) = true := by decide +kernel
theorem am_ck_225 : am_chk 225 = true := Bool.and_eq_true_iff.mpr ⟨am_cm_225, am_kl_cut 60 _ _ am_cl_225_0 (by rw [Nat.zero_add]; exact am_cl_225_1)⟩
set_option maxRecDepth 100000 in
theorem am_cm_226 : am_mk 226 = true := by decide +kernel
set_option maxRecDepth 100000 in
theorem am_cl_226_0 : am_kl 226 0 ((am_P.1 226).take 60) = true := by decide +kernel
set_option maxRecDepth 100000 in
theorem am_cl_226_1 : am_kl 226 60 (((am_P.1 226).drop 60)) = true := by decide +kernel
theorem am_ck_226 : am_chk 226 = true := Bool.and_eq_true_iff.mpr ⟨am_cm_226, am_kl_cut 60 _ _ am_cl_226_0 (by rw [Nat.zero_add]; exact am_cl_226_1)⟩
set_option maxRecDepth 100000 in
theorem am_ck_227 : (List.range' 227 1).all am_chk = true := by decide +kernel
set_option maxRecDepth 100000 in
theorem am_cm_228 : am_mk 228 = true := by decide +kernel
set_option maxRecDepth 100000 in
theorem am_cl_228_0 : am_kl 228 0 ((am_P.1 228).take 60) = true := by decide +kernel
set_option maxRecDepth 100000 in
theorem am_cl_228_1 : am_kl 228 60 (((am_P.1 228).drop 60).take 60) = true := by decide +kernel
set_option maxRecDepth 100000 in
theorem am_cl_228_2 : am_kl 228 120 (((am_P.1 228).drop 120).take 60) = true := by decide +kernel
set_option maxRecDepth 100000 in
theorem am_cl_228_3 : am_kl 228 180 (((am_P.1 228).drop 180)) = true := by decide +kernel
theorem am_ck_228 : am_chk 228 = true := Bool.and_eq_true_iff.mpr ⟨am_cm_228, am_kl_cut 60 _ _ am_cl_228_0 (by rw [Nat.zero_add]; exact am_kl_cut 60 _ _ am_cl_228_1 (by rw [List.drop_drop]; exact am_kl_cut 60 _ _ am_cl_228_2 (by rw [List.drop_drop]; exact am_cl_228_3)))⟩
set_option maxRecDepth 100000 in
theorem am_ck_229 : (List.range' 229 2).all am_chk = true := by decide +kernel
set_option maxRecDepth 100000 in
theorem am_cm_231 : am_mk 231 = true := by decide +kernel
set_option maxRecDepth 100000 in
theorem am_cl_231_0 : am_kl 231 0 ((am_P.1 231).take 60) = true := by decide +kernel
set_option maxRecDepth 100000 in
theorem am_cl_231_1 : am_kl 231 60 (((am_P.1 231).drop 60)) = true := by decide +kernel
theorem am_ck_231 : am_chk 231 = true := Bool.and_eq_true_iff.mpr ⟨am_cm_231, am_kl_cut 60 _ _ am_cl_231_0 (by rw [Nat.zero_add]; exact am_cl_231_1)⟩
set_option maxRecDepth 100000 in
theorem am_ck_232 : (List.range' 232 2).all am_chk = true := by decide +kernel
set_option maxRecDepth 100000 in
theorem am_ck_234 : (List.range' 234 3).all am_chk = true := by decide +kernel
set_option maxRecDepth 100000 in
theorem am_ck_237 : (List.range' 237 2).all am_chk = true := by decide +kernel
set_option maxRecDepth 100000 in
theorem am_ck_239 : (List.range' 239 1).all am_chk = true := by decide +kernel
set_option maxRecDepth 100000 in
theorem am_ck_240 : (List.range' 240 1).all am_chk = true := by decide +kernel
set_option maxRecDepth 100000 in
theorem am_ck_241 : (List.range' 241 1).all am_chk = true := by decide +kernel
set_option maxRecDepth 100000 in
theorem am_ck_242 : (List.range' 242 2).all am_chk = true := by decide +kernel
set_option maxRecDepth 100000 in
theorem am_ck_244 : (List.range' 244 1).all am_chk = true := by decide +kernel
set_option maxRecDepth 100000 in
theorem am_ck_245 : (List.range' 245 1).all am_chk = true := by decide +kernel
set_option maxRecDepth 100000 in
theorem am_cm_246 : am_mk 246 = true := by decide +kernel
set_option maxRecDepth 100000 in
theorem am_cl_246_0 : am_kl 246 0 ((am_P.1 246).take 60) = true := by decide +kernel
set_option maxRecDepth 100000 in
theorem am_cl_246_1 : am_kl 246 60 (((am_P.1 246).drop 60)) = true := by decide +kernel
theorem am_ck_246 : am_chk 246 = true := Bool.and_eq_true_iff.mpr ⟨am_cm_246, am_kl_cut 60 _ _ am_cl_246_0 (by rw [Nat.zero_add]; exact am_cl_246_1)⟩
set_option maxRecDepth 100000 in
theorem am_ck_247 : (List.range' 247 3).all am_chk = true := by decide +kernel
set_option maxRecDepth 100000 in
theorem am_ck_250 : (List.range' 250 1).all am_chk = true := by decide +kernel
set_option maxRecDepth 100000 in
theorem am_cm_251 : am_mk 251 = true := by decide +kernel
set_option maxRecDepth 100000 in
theorem am_cl_251_0 : am_kl 251 0 ((am_P.1 251).take 60) = true := by decide +kernel
set_option maxRecDepth 100000 in
theorem am_cl_251_1 : am_kl 251 60 (((am_P.1 251).drop 60)) = true := by decide +kernel
theorem am_ck_251 : am_chk 251 = true := Bool.and_eq_true_iff.mpr ⟨am_cm_251, am_kl_cut 60 _ _ am_cl_251_0 (by rw [Nat.zero_add]; exact am_cl_251_1)⟩
set_option maxRecDepth 100000 in
theorem am_ck_252 : (List.range' 252 1).all am_chk = true := by decide +kernel
set_option maxRecDepth 100000 in
theorem am_ck_253 : (List.range' 253 1).all am_chk = true := by decide +kernel
set_option maxRecDepth 100000 in
theorem am_cm_254 : am_mk 254 = true := by decide +kernel
set_option maxRecDepth 100000 in
theorem am_cl_254_0 : am_kl 254 0 ((am_P.1 254).take 60) = true := by decide +kernel
set_option maxRecDepth 100000 in
theorem am_cl_254_1 : am_kl 254 60 (((am_P.1 254).drop 60).take 60) = true := by decide +kernel
set_option maxRecDepth 100000 in
theorem am_cl_254_2 : am_kl 254 120 (((am_P.1 254).drop 120)) = true := by decide +kernel
theorem am_ck_254 : am_chk 254 = true := Bool.and_eq_true_iff.mpr ⟨am_cm_254, am_kl_cut 60 _ _ am_cl_254_0 (by rw [Nat.zero_add]; exact am_kl_cut 60 _ _ am_cl_254_1 (by rw [List.drop_drop]; exact am_cl_254_2))⟩
set_option maxRecDepth 100000 in
theorem am_ck_255 : (List.range' 255 3).all am_chk = true := by decide +kernel
set_option maxRecDepth 100000 in
theorem am_ck_258 : (List.range' 258 1).all am_chk = true := by decide +kernel
set_option maxRecDepth 100000 in
theorem am_cm_259 : am_mk 259 = true := by decide +kernel
set_option maxRecDepth 100000 in
theorem am_cl_259_0 : am_kl 259 0 ((am_P.1 259).take 60) = true := by decide +kernel
set_option maxRecDepth 100000 in
theorem am_cl_259_1 : am_kl 259 60 (((am_P.1 259).drop 60).take 60) = true := by decide +kernel
set_option maxRecDepth 100000 in
theorem am_cl_259_2 : am_kl 259 120 (((am_P.1 259).drop 120)) = true := by decide +kernel
theorem am_ck_259 : am_chk 259 = true := Bool.and_eq_true_iff.mpr ⟨am_cm_259, am_kl_cut 60 _ _ am_cl_259_0 (by rw [Nat.zero_add]; exact am_kl_cut 60 _ _ am_cl_259_1 (by rw [List.drop_drop]; exact am_cl_259_2))⟩
set_option maxRecDepth 100000 in
theorem am_ck_260 : (List.range' 260 1).all am_chk = true := by decide +kernel
set_option maxRecDepth 100000 in
theorem am_cm_261 : am_mk 261 = true := by decide +kernel
set_option maxRecDepth 100000 in
theorem am_cl_261_0 : am_kl 261 0 ((am_P.1 261).take 60) = true := by decide +kernel
set_option maxRecDepth 100000 in
theorem am_cl_261_1 : am_kl 261 60 (((am_P.1 261).drop 60)) = true := by decide +kernel
theorem am_ck_261 : am_chk 261 = true := Bool.and_eq_true_iff.mpr ⟨am_cm_261, am_kl_cut 60 _ _ am_cl_261_0 (by rw [Nat.zero_add]; exact am_cl_261_1)⟩
set_option maxRecDepth 100000 in
theorem am_ck_262 : (List.range' 262 1).all am_chk = true := by decide +kernel
set_option maxRecDepth 100000 in
theorem am_cm_263 : am_mk 263 = true := by decide +kernel
set_option maxRecDepth 100000 in
theorem am_cl_263_0 : am_kl 263 0 ((am_P.1 263).take 60) = true := by decide +kernel
