theorem am_ck (j : Nat) (h : j < 320) : am_chk j = true := by
  have h1 : ∀ (a k : Nat), (List.range' a k).all am_chk = true → a ≤ j → j < a + k → am_chk j = true := fun a k h h1 h2 => List.all_eq_true.mp h j (List.mem_range'_1.mpr ⟨h1, h2⟩)
  rcases Nat.lt_or_ge j 4 with hh | hh
  · exact h1 0 4 am_ck_0 (by omega) (by omega)
  rcases Nat.lt_or_ge j 5 with hh | hh
  · exact h1 4 1 am_ck_4 (by omega) (by omega)
  rcases Nat.lt_or_ge j 7 with hh | hh
  · exact h1 5 2 am_ck_5 (by omega) (by omega)
  rcases Nat.lt_or_ge j 9 with hh | hh
  · exact h1 7 2 am_ck_7 (by omega) (by omega)
  rcases Nat.lt_or_ge j 10 with hh | hh
  · rw [show j = 9 by omega]; exact am_ck_9
  rcases Nat.lt_or_ge j 11 with hh | hh
  · rw [show j = 10 by omega]; exact am_ck_10
  rcases Nat.lt_or_ge j 12 with hh | hh
  · exact h1 11 1 am_ck_11 (by omega) (by omega)
  rcases Nat.lt_or_ge j 13 with hh | hh
  · exact h1 12 1 am_ck_12 (by omega) (by omega)
  rcases Nat.lt_or_ge j 14 with hh | hh
  · rw [show j = 13 by omega]; exact am_ck_13
  rcases Nat.lt_or_ge j 15 with hh | hh
  · rw [show j = 14 by omega]; exact am_ck_14
  rcases Nat.lt_or_ge j 16 with hh | hh
  · exact h1 15 1 am_ck_15 (by omega) (by omega)
  rcases Nat.lt_or_ge j 17 with hh | hh
  · rw [show j = 16 by omega]; exact am_ck_16
  rcases Nat.lt_or_ge j 21 with hh | hh
  · exact h1 17 4 am_ck_17 (by omega) (by omega)
  rcases Nat.lt_or_ge j 22 with hh | hh
  · rw [show j = 21 by omega]; exact am_ck_21
  rcases Nat.lt_or_ge j 25 with hh | hh
  · exact h1 22 3 am_ck_22 (by omega) (by omega)
  rcases Nat.lt_or_ge j 30 with hh | hh
  · exact h1 25 5 am_ck_25 (by omega) (by omega)
  rcases Nat.lt_or_ge j 35 with hh | hh
  · exact h1 30 5 am_ck_30 (by omega) (by omega)
  rcases Nat.lt_or_ge j 36 with hh | hh
  · exact h1 35 1 am_ck_35 (by omega) (by omega)
  rcases Nat.lt_or_ge j 37 with hh | hh
  · exact h1 36 1 am_ck_36 (by omega) (by omega)
  rcases Nat.lt_or_ge j 41 with hh | hh
  · exact h1 37 4 am_ck_37 (by omega) (by omega)
  rcases Nat.lt_or_ge j 43 with hh | hh
  · exact h1 41 2 am_ck_41 (by omega) (by omega)
  rcases Nat.lt_or_ge j 44 with hh | hh
  · exact h1 43 1 am_ck_43 (by omega) (by omega)
  rcases Nat.lt_or_ge j 46 with hh | hh
  · exact h1 44 2 am_ck_44 (by omega) (by omega)
  rcases Nat.lt_or_ge j 47 with hh | hh
  · exact h1 46 1 am_ck_46 (by omega) (by omega)
  rcases Nat.lt_or_ge j 49 with hh | hh
  · exact h1 47 2 am_ck_47 (by omega) (by omega)
  rcases Nat.lt_or_ge j 52 with hh | hh
  · exact h1 49 3 am_ck_49 (by omega) (by omega)
  rcases Nat.lt_or_ge j 53 with hh | hh
  · exact h1 52 1 am_ck_52 (by omega) (by omega)
  rcases Nat.lt_or_ge j 55 with hh | hh
  · exact h1 53 2 am_ck_53 (by omega) (by omega)
  rcases Nat.lt_or_ge j 58 with hh | hh
  · exact h1 55 3 am_ck_55 (by omega) (by omega)
  rcases Nat.lt_or_ge j 59 with hh | hh
  · exact h1 58 1 am_ck_58 (by omega) (by omega)
  rcases Nat.lt_or_ge j 60 with hh | hh
  · exact h1 59 1 am_ck_59 (by omega) (by omega)
  rcases Nat.lt_or_ge j 61 with hh | hh
  · exact h1 60 1 am_ck_60 (by omega) (by omega)
  rcases Nat.lt_or_ge j 62 with hh | hh
  · exact h1 61 1 am_ck_61 (by omega) (by omega)
  rcases Nat.lt_or_ge j 63 with hh | hh
  · rw [show j = 62 by omega]; exact am_ck_62
  rcases Nat.lt_or_ge j 64 with hh | hh
  · exact h1 63 1 am_ck_63 (by omega) (by omega)
  rcases Nat.lt_or_ge j 65 with hh | hh
  · rw [show j = 64 by omega]; exact am_ck_64
  rcases Nat.lt_or_ge j 66 with hh | hh
  · rw [show j = 65 by omega]; exact am_ck_65
  rcases Nat.lt_or_ge j 68 with hh | hh
  · exact h1 66 2 am_ck_66 (by omega) (by omega)
  rcases Nat.lt_or_ge j 70 with hh | hh
  · exact h1 68 2 am_ck_68 (by omega) (by omega)
  rcases Nat.lt_or_ge j 72 with hh | hh
  · exact h1 70 2 am_ck_70 (by omega) (by omega)
  rcases Nat.lt_or_ge j 77 with hh | hh
  · exact h1 72 5 am_ck_72 (by omega) (by omega)
  rcases Nat.lt_or_ge j 78 with hh | hh
  · rw [show j = 77 by omega]; exact am_ck_77
  rcases Nat.lt_or_ge j 79 with hh | hh
  · exact h1 78 1 am_ck_78 (by omega) (by omega)
  rcases Nat.lt_or_ge j 80 with hh | hh
  · exact h1 79 1 am_ck_79 (by omega) (by omega)
  rcases Nat.lt_or_ge j 81 with hh | hh
  · rw [show j = 80 by omega]; exact am_ck_80
  rcases Nat.lt_or_ge j 82 with hh | hh
  · exact h1 81 1 am_ck_81 (by omega) (by omega)
  rcases Nat.lt_or_ge j 83 with hh | hh
  · exact h1 82 1 am_ck_82 (by omega) (by omega)
  rcases Nat.lt_or_ge j 84 with hh | hh
  · exact h1 83 1 am_ck_83 (by omega) (by omega)
  rcases Nat.lt_or_ge j 85 with hh | hh
  · rw [show j = 84 by omega]; exact am_ck_84
  rcases Nat.lt_or_ge j 86 with hh | hh
  · exact h1 85 1 am_ck_85 (by omega) (by omega)
  rcases Nat.lt_or_ge j 87 with hh | hh
  · exact h1 86 1 am_ck_86 (by omega) (by omega)
  rcases Nat.lt_or_ge j 88 with hh | hh
  · exact h1 87 1 am_ck_87 (by omega) (by omega)
  rcases Nat.lt_or_ge j 89 with hh | hh
  · exact h1 88 1 am_ck_88 (by omega) (by omega)
  rcases Nat.lt_or_ge j 91 with hh | hh
  · exact h1 89 2 am_ck_89 (by omega) (by omega)
  rcases Nat.lt_or_ge j 92 with hh | hh
  · exact h1 91 1 am_ck_91 (by omega) (by omega)
  rcases Nat.lt_or_ge j 93 with hh | hh
  · exact h1 92 1 am_ck_92 (by omega) (by omega)
  rcases Nat.lt_or_ge j 97 with hh | hh
  · exact h1 93 4 am_ck_93 (by omega) (by omega)
  rcases Nat.lt_or_ge j 101 with hh | hh
  · exact h1 97 4 am_ck_97 (by omega) (by omega)
  rcases Nat.lt_or_ge j 104 with hh | hh
  · exact h1 101 3 am_ck_101 (by omega) (by omega)
  rcases Nat.lt_or_ge j 105 with hh | hh
  · exact h1 104 1 am_ck_104 (by omega) (by omega)
  rcases Nat.lt_or_ge j 106 with hh | hh
  · exact h1 105 1 am_ck_105 (by omega) (by omega)
  rcases Nat.lt_or_ge j 107 with hh | hh
  · exact h1 106 1 am_ck_106 (by omega) (by omega)
  rcases Nat.lt_or_ge j 108 with hh | hh
  · rw [show j = 107 by omega]; exact am_ck_107
  rcases Nat.lt_or_ge j 109 with hh | hh
  · exact h1 108 1 am_ck_108 (by omega) (by omega)
  rcases Nat.lt_or_ge j 110 with hh | hh
  · rw [show j = 109 by omega]; exact am_ck_109
  rcases Nat.lt_or_ge j 111 with hh | hh
  · rw [show j = 110 by omega]; exact am_ck_110
  rcases Nat.lt_or_ge j 112 with hh | hh
  · exact h1 111 1 am_ck_111 (by omega) (by omega)
  rcases Nat.lt_or_ge j 113 with hh | hh
  · exact h1 112 1 am_ck_112 (by omega) (by omega)
  rcases Nat.lt_or_ge j 115 with hh | hh
  · exact h1 113 2 am_ck_113 (by omega) (by omega)
  rcases Nat.lt_or_ge j 116 with hh | hh
  · exact h1 115 1 am_ck_115 (by omega) (by omega)
  rcases Nat.lt_or_ge j 120 with hh | hh
  · exact h1 116 4 am_ck_116 (by omega) (by omega)
  rcases Nat.lt_or_ge j 123 with hh | hh
  · exact h1 120 3 am_ck_120 (by omega) (by omega)
  rcases Nat.lt_or_ge j 125 with hh | hh
  · exact h1 123 2 am_ck_123 (by omega) (by omega)
  rcases Nat.lt_or_ge j 128 with hh | hh
  · exact h1 125 3 am_ck_125 (by omega) (by omega)
  rcases Nat.lt_or_ge j 133 with hh | hh
  · exact h1 128 5 am_ck_128 (by omega) (by omega)
  rcases Nat.lt_or_ge j 135 with hh | hh
  · exact h1 133 2 am_ck_133 (by omega) (by omega)
  rcases Nat.lt_or_ge j 136 with hh | hh
  · exact h1 135 1 am_ck_135 (by omega) (by omega)
  rcases Nat.lt_or_ge j 137 with hh | hh
  · rw [show j = 136 by omega]; exact am_ck_136
  rcases Nat.lt_or_ge j 141 with hh | hh
  · exact h1 137 4 am_ck_137 (by omega) (by omega)
  rcases Nat.lt_or_ge j 143 with hh | hh
  · exact h1 141 2 am_ck_141 (by omega) (by omega)
  rcases Nat.lt_or_ge j 144 with hh | hh
  · exact h1 143 1 am_ck_143 (by omega) (by omega)
  rcases Nat.lt_or_ge j 145 with hh | hh
  · rw [show j = 144 by omega]; exact am_ck_144
  rcases Nat.lt_or_ge j 148 with hh | hh
  · exact h1 145 3 am_ck_145 (by omega) (by omega)
  rcases Nat.lt_or_ge j 150 with hh | hh
  · exact h1 148 2 am_ck_148 (by omega) (by omega)
  rcases Nat.lt_or_ge j 151 with hh | hh
  · exact h1 150 1 am_ck_150 (by omega) (by omega)
  rcases Nat.lt_or_ge j 152 with hh | hh
  · exact h1 151 1 am_ck_151 (by omega) (by omega)
  rcases Nat.lt_or_ge j 153 with hh | hh
  · rw [show j = 152 by omega]; exact am_ck_152
  rcases Nat.lt_or_ge j 154 with hh | hh
  · exact h1 153 1 am_ck_153 (by omega) (by omega)
  rcases Nat.lt_or_ge j 155 with hh | hh
  · exact h1 154 1 am_ck_154 (by omega) (by omega)
  rcases Nat.lt_or_ge j 156 with hh | hh
  · exact h1 155 1 am_ck_155 (by omega) (by omega)
  rcases Nat.lt_or_ge j 157 with hh | hh
  · rw [show j = 156 by omega]; exact am_ck_156
  rcases Nat.lt_or_ge j 161 with hh | hh
  · exact h1 157 4 am_ck_157 (by omega) (by omega)
  rcases Nat.lt_or_ge j 162 with hh | hh
  · exact h1 161 1 am_ck_161 (by omega) (by omega)
  rcases Nat.lt_or_ge j 163 with hh | hh
  · exact h1 162 1 am_ck_162 (by omega) (by omega)
  rcases Nat.lt_or_ge j 164 with hh | hh
  · exact h1 163 1 am_ck_163 (by omega) (by omega)
  rcases Nat.lt_or_ge j 166 with hh | hh
  · exact h1 164 2 am_ck_164 (by omega) (by omega)
  rcases Nat.lt_or_ge j 170 with hh | hh
  · exact h1 166 4 am_ck_166 (by omega) (by omega)
  rcases Nat.lt_or_ge j 171 with hh | hh
  · exact h1 170 1 am_ck_170 (by omega) (by omega)
  rcases Nat.lt_or_ge j 173 with hh | hh
  · exact h1 171 2 am_ck_171 (by omega) (by omega)
  rcases Nat.lt_or_ge j 176 with hh | hh
  · exact h1 173 3 am_ck_173 (by omega) (by omega)
  rcases Nat.lt_or_ge j 177 with hh | hh
  · exact h1 176 1 am_ck_176 (by omega) (by omega)
  rcases Nat.lt_or_ge j 179 with hh | hh
  · exact h1 177 2 am_ck_177 (by omega) (by omega)
  rcases Nat.lt_or_ge j 181 with hh | hh
  · exact h1 179 2 am_ck_179 (by omega) (by omega)
  rcases Nat.lt_or_ge j 182 with hh | hh
  · exact h1 181 1 am_ck_181 (by omega) (by omega)
  rcases Nat.lt_or_ge j 183 with hh | hh
  · rw [show j = 182 by omega]; exact am_ck_182
  rcases Nat.lt_or_ge j 185 with hh | hh
  · exact h1 183 2 am_ck_183 (by omega) (by omega)
  rcases Nat.lt_or_ge j 186 with hh | hh
  · exact h1 185 1 am_ck_185 (by omega) (by omega)
  rcases Nat.lt_or_ge j 187 with hh | hh
  · rw [show j = 186 by omega]; exact am_ck_186
  rcases Nat.lt_or_ge j 190 with hh | hh
  · exact h1 187 3 am_ck_187 (by omega) (by omega)
  rcases Nat.lt_or_ge j 191 with hh | hh
  · rw [show j = 190 by omega]; exact am_ck_190
  rcases Nat.lt_or_ge j 196 with hh | hh
  · exact h1 191 5 am_ck_191 (by omega) (by omega)
  rcases Nat.lt_or_ge j 197 with hh | hh
  · rw [show j = 196 by omega]; exact am_ck_196
  rcases Nat.lt_or_ge j 198 with hh | hh
  · rw [show j = 197 by omega]; exact am_ck_197
  rcases Nat.lt_or_ge j 199 with hh | hh
  · exact h1 198 1 am_ck_198 (by omega) (by omega)
  rcases Nat.lt_or_ge j 201 with hh | hh
  · exact h1 199 2 am_ck_199 (by omega) (by omega)
  rcases Nat.lt_or_ge j 202 with hh | hh
  · rw [show j = 201 by omega]; exact am_ck_201
  rcases Nat.lt_or_ge j 205 with hh | hh
  · exact h1 202 3 am_ck_202 (by omega) (by omega)
  rcases Nat.lt_or_ge j 207 with hh | hh
  · exact h1 205 2 am_ck_205 (by omega) (by omega)
  rcases Nat.lt_or_ge j 208 with hh | hh
  · exact h1 207 1 am_ck_207 (by omega) (by omega)
  rcases Nat.lt_or_ge j 210 with hh | hh
  · exact h1 208 2 am_ck_208 (by omega) (by omega)
  rcases Nat.lt_or_ge j 212 with hh | hh
  · exact h1 210 2 am_ck_210 (by omega) (by omega)
  rcases Nat.lt_or_ge j 213 with hh | hh
  · rw [show j = 212 by omega]; exact am_ck_212
  rcases Nat.lt_or_ge j 214 with hh | hh
  · exact h1 213 1 am_ck_213 (by omega) (by omega)
  rcases Nat.lt_or_ge j 216 with hh | hh
  · exact h1 214 2 am_ck_214 (by omega) (by omega)
  rcases Nat.lt_or_ge j 217 with hh | hh
  · rw [show j = 216 by omega]; exact am_ck_216
  rcases Nat.lt_or_ge j 218 with hh | hh
  · exact h1 217 1 am_ck_217 (by omega) (by omega)
  rcases Nat.lt_or_ge j 220 with hh | hh
  · exact h1 218 2 am_ck_218 (by omega) (by omega)
  rcases Nat.lt_or_ge j 221 with hh | hh
  · exact h1 220 1 am_ck_220 (by omega) (by omega)
  rcases Nat.lt_or_ge j 222 with hh | hh
  · rw [show j = 221 by omega]; exact am_ck_221
  rcases Nat.lt_or_ge j 223 with hh | hh
  · exact h1 222 1 am_ck_222 (by omega) (by omega)
  rcases Nat.lt_or_ge j 224 with hh | hh
  · exact h1 223 1 am_ck_223 (by omega) (by omega)
  rcases Nat.lt_or_ge j 225 with hh | hh
  · rw [show j = 224 by omega]; exact am_ck_224
  rcases Nat.lt_or_ge j 226 with hh | hh
  · rw [show j = 225 by omega]; exact am_ck_225
  rcases Nat.lt_or_ge j 227 with hh | hh
  · rw [show j = 226 by omega]; exact am_ck_226
  rcases Nat.lt_or_ge j 228 with hh | hh
  · exact h1 227 1 am_ck_227 (by omega) (by omega)
  rcases Nat.lt_or_ge j 229 with hh | hh
  · rw [show j = 228 by omega]; exact am_ck_228
  rcases Nat.lt_or_ge j 231 with hh | hh
  · exact h1 229 2 am_ck_229 (by omega) (by omega)
  rcases Nat.lt_or_ge j 232 with hh | hh
  · rw [show j = 231 by omega]; exact am_ck_231
  rcases Nat.lt_or_ge j 234 with hh | hh
  · exact h1 232 2 am_ck_232 (by omega) (by omega)
  rcases Nat.lt_or_ge j 237 with hh | hh
  · exact h1 234 3 am_ck_234 (by omega) (by omega)
  rcases Nat.lt_or_ge j 239 with hh | hh
  · exact h1 237 2 am_ck_237 (by omega) (by omega)
  rcases Nat.lt_or_ge j 240 with hh | hh
  · exact h1 239 1 am_ck_239 (by omega) (by omega)
  rcases Nat.lt_or_ge j 241 with hh | hh
  · exact h1 240 1 am_ck_240 (by omega) (by omega)
  rcases Nat.lt_or_ge j 242 with hh | hh
  · exact h1 241 1 am_ck_241 (by omega) (by omega)
  rcases Nat.lt_or_ge j 244 with hh | hh
  · exact h1 242 2 am_ck_242 (by omega) (by omega)
  rcases Nat.lt_or_ge j 245 with hh | hh
  · exact h1 244 1 am_ck_244 (by omega) (by omega)
  rcases Nat.lt_or_ge j 246 with hh | hh
  · exact h1 245 1 am_ck_245 (by omega) (by omega)
  rcases Nat.lt_or_ge j 247 with hh | hh
  · rw [show j = 246 by omega]; exact am_ck_246
  rcases Nat.lt_or_ge j 250 with hh | hh
  · exact h1 247 3 am_ck_247 (by omega) (by omega)
  rcases Nat.lt_or_ge j 251 with hh | hh
  · exact h1 250 1 am_ck_250 (by omega) (by omega)
  rcases Nat.lt_or_ge j 252 with hh | hh
  · rw [show j = 251 by omega]; exact am_ck_251
  rcases Nat.lt_or_ge j 253 with hh | hh
  · exact h1 252 1 am_ck_252 (by omega) (by omega)
  rcases Nat.lt_or_ge j 254 with hh | hh
  · exact h1 253 1 am_ck_253 (by omega) (by omega)
  rcases Nat.lt_or_ge j 255 with hh | hh
  · rw [show j = 254 by omega]; exact am_ck_254
  rcases Nat.lt_or_ge j 258 with hh | hh
  · exact h1 255 3 am_ck_255 (by omega) (by omega)
  rcases Nat.lt_or_ge j 259 with hh | hh
  · exact h1 258 1 am_ck_258 (by omega) (by omega)
  rcases Nat.lt_or_ge j 260 with hh | hh
  · rw [show j = 259 by omega]; exact am_ck_259
  rcases Nat.lt_or_ge j 261 with hh | hh
  · exact h1 260 1 am_ck_260 (by omega) (by omega)
  rcases Nat.lt_or_ge j 262 with hh | hh
  · rw [show j = 261 by omega]; exact am_ck_261
  rcases Nat.lt_or_ge j 263 with hh | hh
  · exact h1 262 1 am_ck_262 (by omega) (by omega)
  rcases Nat.lt_or_ge j 264 with hh | hh
  · rw [show j = 263 by omega]; exact am_ck_263
  rcases Nat.lt_or_ge j 265 with hh | hh
  · rw [show j = 264 by omega]; exact am_ck_264
  rcases Nat.lt_or_ge j 266 with hh | hh
  · exact h1 265 1 am_ck_265 (by omega) (by omega)
  rcases Nat.lt_or_ge j 268 with hh | hh
  · exact h1 266 2 am_ck_266 (by omega) (by omega)
  rcases Nat.lt_or_ge j 269 with hh | hh
  · exact h1 268 1 am_ck_268 (by omega) (by omega)
  rcases Nat.lt_or_ge j 270 with hh | hh
  · exact h1 269 1 am_ck_269 (by omega) (by omega)
  rcases Nat.lt_or_ge j 271 with hh | hh
  · rw [show j = 270 by omega]; exact am_ck_270
  rcases Nat.lt_or_ge j 272 with hh | hh
  · exact h1 271 1 am_ck_271 (by omega) (by omega)
  rcases Nat.lt_or_ge j 273 with hh | hh
  · exact h1 272 1 am_ck_272 (by omega) (by omega)
  rcases Nat.lt_or_ge j 274 with hh | hh
  · exact h1 273 1 am_ck_273 (by omega) (by omega)
  rcases Nat.lt_or_ge j 275 with hh | hh
  · rw [show j = 274 by omega]; exact am_ck_274
  rcases Nat.lt_or_ge j 276 with hh | hh
  · exact h1 275 1 am_ck_275 (by omega) (by omega)
  rcases Nat.lt_or_ge j 277 with hh | hh
  · rw [show j = 276 by omega]; exact am_ck_276
  rcases Nat.lt_or_ge j 279 with hh | hh
  · exact h1 277 2 am_ck_277 (by omega) (by omega)
  rcases Nat.lt_or_ge j 282 with hh | hh
  · exact h1 279 3 am_ck_279 (by omega) (by omega)
  rcases Nat.lt_or_ge j 284 with hh | hh
  · exact h1 282 2 am_ck_282 (by omega) (by omega)
  rcases Nat.lt_or_ge j 286 with hh | hh
  · exact h1 284 2 am_ck_284 (by omega) (by omega)
  rcases Nat.lt_or_ge j 287 with hh | hh
  · exact h1 286 1 am_ck_286 (by omega) (by omega)
  rcases Nat.lt_or_ge j 288 with hh | hh
  · rw [show j = 287 by omega]; exact am_ck_287
  rcases Nat.lt_or_ge j 290 with hh | hh
  · exact h1 288 2 am_ck_288 (by omega) (by omega)
  rcases Nat.lt_or_ge j 291 with hh | hh
  · exact h1 290 1 am_ck_290 (by omega) (by omega)
  rcases Nat.lt_or_ge j 292 with hh | hh
  · rw [show j = 291 by omega]; exact am_ck_291
  rcases Nat.lt_or_ge j 293 with hh | hh
  · rw [show j = 292 by omega]; exact am_ck_292
  rcases Nat.lt_or_ge j 295 with hh | hh
  · exact h1 293 2 am_ck_293 (by omega) (by omega)
  rcases Nat.lt_or_ge j 297 with hh | hh
  · exact h1 295 2 am_ck_295 (by omega) (by omega)
  rcases Nat.lt_or_ge j 298 with hh | hh
  · rw [show j = 297 by omega]; exact am_ck_297
  rcases Nat.lt_or_ge j 304 with hh | hh
  · exact h1 298 6 am_ck_298 (by omega) (by omega)
  rcases Nat.lt_or_ge j 307 with hh | hh
  · exact h1 304 3 am_ck_304 (by omega) (by omega)
  rcases Nat.lt_or_ge j 310 with hh | hh
  · exact h1 307 3 am_ck_307 (by omega) (by omega)
  rcases Nat.lt_or_ge j 314 with hh | hh
  · exact h1 310 4 am_ck_310 (by omega) (by omega)
  rcases Nat.lt_or_ge j 318 with hh | hh
  · exact h1 314 4 am_ck_314 (by omega) (by omega)
  rcases Nat.lt_or_ge j 319 with hh | hh
  · exact h1 318 1 am_ck_318 (by omega) (by omega)
  · rw [show j = 319 by omega]; exact am_ck_319
