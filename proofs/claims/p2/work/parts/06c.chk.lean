/-! the checks, piece 3 -/
theorem am_ck_152 : am_chk 152 = true := Bool.and_eq_true_iff.mpr ⟨am_cm_152, am_kl_cut 60 _ _ am_cl_152_0 (by rw [Nat.zero_add]; exact am_cl_152_1)⟩
set_option maxRecDepth 100000 in
theorem am_ck_153 : (List.range' 153 1).all am_chk = true := by decide +kernel
set_option maxRecDepth 100000 in
theorem am_ck_154 : (List.range' 154 1).all am_chk = true := by decide +kernel
set_option maxRecDepth 100000 in
theorem am_ck_155 : (List.range' 155 1).all am_chk = true := by decide +kernel
set_option maxRecDepth 100000 in
theorem am_cm_156 : am_mk 156 = true := by decide +kernel
set_option maxRecDepth 100000 in
theorem am_cl_156_0 : am_kl 156 0 ((am_P.1 156).take 60) = true := by decide +kernel
set_option maxRecDepth 100000 in
theorem am_cl_156_1 : am_kl 156 60 (((am_P.1 156).drop 60)) = true := by decide +kernel
theorem am_ck_156 : am_chk 156 = true := Bool.and_eq_true_iff.mpr ⟨am_cm_156, am_kl_cut 60 _ _ am_cl_156_0 (by rw [Nat.zero_add]; exact am_cl_156_1)⟩
set_option maxRecDepth 100000 in
theorem am_ck_157 : (List.range' 157 4).all am_chk = true := by decide +kernel
set_option maxRecDepth 100000 in
theorem am_ck_161 : (List.range' 161 1).all am_chk = true := by decide +kernel
set_option maxRecDepth 100000 in
theorem am_ck_162 : (List.range' 162 1).all am_chk = true := by decide +kernel
set_option maxRecDepth 100000 in
theorem am_ck_163 : (List.range' 163 1).all am_chk = true := by decide +kernel
set_option maxRecDepth 100000 in
theorem am_ck_164 : (List.range' 164 2).all am_chk = true := by decide +kernel
set_option maxRecDepth 100000 in
theorem am_ck_166 : (List.range' 166 4).all am_chk = true := by decide +kernel
set_option maxRecDepth 100000 in
theorem am_ck_170 : (List.range' 170 1).all am_chk = true := by decide +kernel
set_option maxRecDepth 100000 in
theorem am_ck_171 : (List.range' 171 2).all am_chk = true := by decide +kernel
set_option maxRecDepth 100000 in
theorem am_ck_173 : (List.range' 173 3).all am_chk = true := by decide +kernel
set_option maxRecDepth 100000 in
theorem am_ck_176 : (List.range' 176 1).all am_chk = true := by decide +kernel
set_option maxRecDepth 100000 in
theorem am_ck_177 : (List.range' 177 2).all am_chk = true := by decide +kernel
set_option maxRecDepth 100000 in
theorem am_ck_179 : (List.range' 179 2).all am_chk = true := by decide +kernel
set_option maxRecDepth 100000 in
theorem am_ck_181 : (List.range' 181 1).all am_chk = true := by decide +kernel
set_option maxRecDepth 100000 in
theorem am_cm_182 : am_mk 182 = true := by decide +kernel
set_option maxRecDepth 100000 in
theorem am_cl_182_0 : am_kl 182 0 ((am_P.1 182).take 60) = true := by decide +kernel
set_option maxRecDepth 100000 in
theorem am_cl_182_1 : am_kl 182 60 (((am_P.1 182).drop 60)) = true := by decide +kernel
theorem am_ck_182 : am_chk 182 = true := Bool.and_eq_true_iff.mpr ⟨am_cm_182, am_kl_cut 60 _ _ am_cl_182_0 (by rw [Nat.zero_add]; exact am_cl_182_1)⟩
set_option maxRecDepth 100000 in
theorem am_ck_183 : (List.range' 183 2).all am_chk = true := by decide +kernel
set_option maxRecDepth 100000 in
theorem am_ck_185 : (List.range' 185 1).all am_chk = true := by decide +kernel
set_option maxRecDepth 100000 in
theorem am_cm_186 : am_mk 186 = true := by decide +kernel
set_option maxRecDepth 100000 in
theorem am_cl_186_0 : am_kl 186 0 ((am_P.1 186).take 60) = true := by decide +kernel
set_option maxRecDepth 100000 in
theorem am_cl_186_1 : am_kl 186 60 (((am_P.1 186).drop 60).take 60) = true := by decide +kernel
set_option maxRecDepth 100000 in
theorem am_cl_186_2 : am_kl 186 120 (((am_P.1 186).drop 120)) = true := by decide +kernel
theorem am_ck_186 : am_chk 186 = true := Bool.and_eq_true_iff.mpr ⟨am_cm_186, am_kl_cut 60 _ _ am_cl_186_0 (by rw [Nat.zero_add]; exact am_kl_cut 60 _ _ am_cl_186_1 (by rw [List.drop_drop]; exact am_cl_186_2))⟩
set_option maxRecDepth 100000 in
theorem am_ck_187 : (List.range' 187 3).all am_chk = true := by decide +kernel
set_option maxRecDepth 100000 in
theorem am_cm_190 : am_mk 190 = true := by decide +kernel
set_option maxRecDepth 100000 in
theorem am_cl_190_0 : am_kl 190 0 ((am_P.1 190).take 60) = true := by decide +kernel
set_option maxRecDepth 100000 in
theorem am_cl_190_1 : am_kl 190 60 (((am_P.1 190).drop 60)) = true := by decide +kernel
theorem am_ck_190 : am_chk 190 = true := Bool.and_eq_true_iff.mpr ⟨am_cm_190, am_kl_cut 60 _ _ am_cl_190_0 (by rw [Nat.zero_add]; exact am_cl_190_1)⟩
set_option maxRecDepth 100000 in
theorem am_ck_191 : (List.range' 191 5).all am_chk = true := by decide +kernel
set_option maxRecDepth 100000 in
theorem am_cm_196 : am_mk 196 = true := by decide +kernel
set_option maxRecDepth 100000 in
theorem am_cl_196_0 : am_kl 196 0 ((am_P.1 196).take 60) = true := by decide +kernel
set_option maxRecDepth 100000 in
theorem am_cl_196_1 : am_kl 196 60 (((am_P.1 196).drop 60)) = true := by decide +kernel
theorem am_ck_196 : am_chk 196 = true := Bool.and_eq_true_iff.mpr ⟨am_cm_196, am_kl_cut 60 _ _ am_cl_196_0 (by rw [Nat.zero_add]; exact am_cl_196_1)⟩
set_option maxRecDepth 100000 in
theorem am_cm_197 : am_mk 197 = true := by decide +kernel
set_option maxRecDepth 100000 in
theorem am_cl_197_0 : am_kl 197 0 ((am_P.1 197).take 60) = true := by decide +kernel
set_option maxRecDepth 100000 in
theorem am_cl_197_1 : am_kl 197 60 (((am_P.1 197).drop 60).take 60) = true := by decide +kernel
set_option maxRecDepth 100000 in
theorem am_cl_197_2 : am_kl 197 120 (((am_P.1 197).drop 120)) = true := by decide +kernel
theorem am_ck_197 : am_chk 197 = true := Bool.and_eq_true_iff.mpr ⟨am_cm_197, am_kl_cut 60 _ _ am_cl_197_0 (by rw [Nat.zero_add]; exact am_kl_cut 60 _ _ am_cl_197_1 (by rw [List.drop_drop]; exact am_cl_197_2))⟩
set_option maxRecDepth 100000 in
theorem am_ck_198 : (List.range' 198 1).all am_chk = true := by decide +kernel
set_option maxRecDepth 100000 in
theorem am_ck_199 : (List.range' 199 2).all am_chk = true := by decide +kernel
set_option maxRecDepth 100000 in
theorem am_cm_201 : am_mk 201 = true := by decide +kernel
set_option maxRecDepth 100000 in
theorem am_cl_201_0 : am_kl 201 0 ((am_P.1 201).take 60) = true := by decide +kernel
set_option maxRecDepth 100000 in
theorem am_cl_201_1 : am_kl 201 60 (((am_P.1 201).drop 60)) = true := by decide +kernel
theorem am_ck_201 : am_chk 201 = true := Bool.and_eq_true_iff.mpr ⟨am_cm_201, am_kl_cut 60 _ _ am_cl_201_0 (by rw [Nat.zero_add]; exact am_cl_201_1)⟩
set_option maxRecDepth 100000 in
theorem am_ck_202 : (List.range' 202 3).all am_chk = true := by decide +kernel
set_option maxRecDepth 100000 in
theorem am_ck_205 : (List.range' 205 2).all am_chk = true := by decide +kernel
set_option maxRecDepth 100000 in
theorem am_ck_207 : (List.range' 207 1).all am_chk = true := by decide +kernel
set_option maxRecDepth 100000 in
theorem am_ck_208 : (List.range' 208 2).all am_chk = true := by decide +kernel
set_option maxRecDepth 100000 in
theorem am_ck_210 : (List.range' 210 2).all am_chk = true := by decide +kernel
set_option maxRecDepth 100000 in
theorem am_cm_212 : am_mk 212 = true := by decide +kernel
set_option maxRecDepth 100000 in
theorem am_cl_212_0 : am_kl 212 0 ((am_P.1 212).take 60) = true := by decide +kernel
set_option maxRecDepth 100000 in
theorem am_cl_212_1 : am_kl 212 60 (((am_P.1 212).drop 60)) = true := by decide +kernel
theorem am_ck_212 : am_chk 212 = true := Bool.and_eq_true_iff.mpr ⟨am_cm_212, am_kl_cut 60 _ _ am_cl_212_0 (by rw [Nat.zero_add]; exact am_cl_212_1)⟩
set_option maxRecDepth 100000 in
theorem am_ck_213 : (List.range' 213 1).all am_chk = true := by decide +kernel
set_option maxRecDepth 100000 in
theorem am_ck_214 : (List.range' 214 2).all am_chk = true := by decide +kernel
set_option maxRecDepth 100000 in
theorem am_cm_216 : am_mk 216 = true := by decide +kernel
set_option maxRecDepth 100000 in
theorem am_cl_216_0 : am_kl 216 0 ((am_P.1 216).take 60) = true := by decide +kernel
set_option maxRecDepth 100000 in
theorem am_cl_216_1 : am_kl 216 60 (((am_P.1 216).drop 60)) = true := by decide +kernel
theorem am_ck_216 : am_chk 216 = true := Bool.and_eq_true_iff.mpr ⟨am_cm_216, am_kl_cut 60 _ _ am_cl_216_0 (by rw [Nat.zero_add]; exact am_cl_216_1)⟩
set_option maxRecDepth 100000 in
theorem am_ck_217 : (List.range' 217 1).all am_chk = true := by decide +kernel
set_option maxRecDepth 100000 in
theorem am_ck_218 : (List.range' 218 2).all am_chk = true := by decide +kernel
set_option maxRecDepth 100000 in
theorem am_ck_220 : (List.range' 220 1).all am_chk = true := by decide +kernel
