theorem pm_fitO {C : String} {b : Nat} : pm_fit (.object C) (.ref b) = true := by simp [pm_fit, narrow, fits]
theorem pm_fitA {t : FieldType} {b : Nat} : pm_fit (.array t) (.ref b) = true := by simp [pm_fit, narrow, fits]
theorem pm_swo {x : Int32} {n : Nat} (hn : n < 2 ^ 30) (h : ∀ j, j ≤ n → x = nI j → False) : x.toInt < 0 ∨ (n : Int) < x.toInt := by
  by_cases h0 : x < 0
  · left
    have := Int32.lt_iff_toInt_lt.mp h0
    simpa using this
  · obtain ⟨j, hj, rfl⟩ := nI_of h0
    right
    rw [nI_toInt hj]
    rcases Nat.lt_or_ge n j with h1 | h1
    · exact_mod_cast h1
    · exact absurd rfl (h j h1)
theorem lf_0_9 : pm_fl 0 9 = some (0, 3, 0) := by decide
theorem lf_0_15 : pm_fl 0 15 = some (0, 0, 0) := by decide
theorem lf_0_18 : pm_fl 0 18 = some (0, 1, 0) := by decide
theorem lf_0_21 : pm_fl 0 21 = some (0, 2, 0) := by decide
theorem lf_0_25 : pm_fl 0 25 = some (0, 5, 0) := by decide
theorem lf_0_29 : pm_fl 0 29 = some (0, 6, 0) := by decide
theorem lf_0_32 : pm_fl 0 32 = some (0, 7, 0) := by decide
theorem lf_0_38 : pm_fl 0 38 = some (0, 8, 0) := by decide
theorem lf_1_15 : pm_fl 1 15 = some (1, 0, 0) := by decide
theorem lf_1_21 : pm_fl 1 21 = some (1, 1, 0) := by decide
theorem lf_2_7 : pm_fl 2 7 = some (2, 0, 0) := by decide
theorem lf_2_13 : pm_fl 2 13 = some (2, 1, 0) := by decide
theorem lf_2_17 : pm_fl 2 17 = some (2, 2, 0) := by decide
theorem lf_2_20 : pm_fl 2 20 = some (2, 3, 0) := by decide
theorem lf_3_9 : pm_fl 3 9 = some (3, 4, 0) := by decide
theorem lf_3_15 : pm_fl 3 15 = some (3, 5, 0) := by decide
theorem lf_3_18 : pm_fl 3 18 = some (3, 0, 0) := by decide
theorem lf_3_21 : pm_fl 3 21 = some (3, 1, 0) := by decide
theorem lf_3_25 : pm_fl 3 25 = some (3, 2, 0) := by decide
theorem lf_3_28 : pm_fl 3 28 = some (3, 3, 0) := by decide
theorem lf_4_9 : pm_fl 4 9 = some (4, 0, 0) := by decide
theorem lf_4_15 : pm_fl 4 15 = some (4, 1, 0) := by decide
theorem lf_4_18 : pm_fl 4 18 = some (4, 2, 0) := by decide
theorem lf_4_21 : pm_fl 4 21 = some (4, 3, 0) := by decide
theorem lf_4_24 : pm_fl 4 24 = some (4, 4, 0) := by decide
theorem lf_4_27 : pm_fl 4 27 = some (4, 5, 0) := by decide
theorem lf_4_30 : pm_fl 4 30 = some (4, 6, 0) := by decide
theorem lf_4_33 : pm_fl 4 33 = some (4, 7, 0) := by decide
theorem lf_4_44 : pm_fl 4 44 = some (4, 10, 0) := by decide
theorem lf_4_59 : pm_fl 4 59 = some (4, 11, 0) := by decide
theorem lf_4_62 : pm_fl 4 62 = some (4, 9, 0) := by decide
theorem lf_4_66 : pm_fl 4 66 = some (5, 0, 1) := by decide
theorem lf_4_72 : pm_fl 4 72 = some (1, 1, 1) := by decide
theorem lf_4_93 : pm_fl 4 93 = some (4, 8, 0) := by decide
theorem lf_4_110 : pm_fl 4 110 = some (5, 2, 1) := by decide
theorem lf_5_14 : pm_fl 5 14 = some (5, 0, 0) := by decide
theorem lf_5_26 : pm_fl 5 26 = some (5, 1, 0) := by decide
theorem lf_5_33 : pm_fl 5 33 = some (5, 2, 0) := by decide
theorem lf_5_41 : pm_fl 5 41 = some (1, 1, 1) := by decide
theorem lf_6_14 : pm_fl 6 14 = some (6, 1, 0) := by decide
theorem lf_6_20 : pm_fl 6 20 = some (6, 0, 0) := by decide
theorem lf_6_24 : pm_fl 6 24 = some (6, 2, 0) := by decide
theorem lf_6_27 : pm_fl 6 27 = some (6, 3, 0) := by decide
theorem lf_6_31 : pm_fl 6 31 = some (1, 1, 1) := by decide
theorem lf_6_34 : pm_fl 6 34 = some (6, 4, 0) := by decide
theorem lf_6_37 : pm_fl 6 37 = some (6, 6, 0) := by decide
theorem lf_6_40 : pm_fl 6 40 = some (6, 7, 0) := by decide
theorem lf_6_53 : pm_fl 6 53 = some (6, 5, 0) := by decide
theorem lf_6_82 : pm_fl 6 82 = some (0, 2, 1) := by decide
theorem lf_6_102 : pm_fl 6 102 = some (5, 0, 1) := by decide
theorem lf_6_125 : pm_fl 6 125 = some (5, 2, 1) := by decide
theorem lf_7_11 : pm_fl 7 11 = some (7, 0, 0) := by decide
theorem lf_7_25 : pm_fl 7 25 = some (7, 2, 0) := by decide
theorem lf_7_29 : pm_fl 7 29 = some (0, 3, 1) := by decide
theorem lf_7_33 : pm_fl 7 33 = some (0, 5, 1) := by decide
theorem lf_7_37 : pm_fl 7 37 = some (7, 1, 0) := by decide
theorem lf_8_11 : pm_fl 8 11 = some (8, 1, 0) := by decide
theorem lf_8_19 : pm_fl 8 19 = some (8, 3, 0) := by decide
theorem lf_8_23 : pm_fl 8 23 = some (8, 6, 0) := by decide
theorem lf_8_32 : pm_fl 8 32 = some (8, 7, 0) := by decide
theorem lf_8_36 : pm_fl 8 36 = some (8, 8, 0) := by decide
theorem lf_8_39 : pm_fl 8 39 = some (8, 0, 0) := by decide
theorem lf_8_49 : pm_fl 8 49 = some (8, 5, 0) := by decide
theorem lf_8_53 : pm_fl 8 53 = some (8, 2, 0) := by decide
theorem lf_8_70 : pm_fl 8 70 = some (8, 4, 0) := by decide
theorem lf_8_73 : pm_fl 8 73 = some (8, 9, 0) := by decide
theorem lf_8_76 : pm_fl 8 76 = some (5, 2, 1) := by decide
theorem lf_8_79 : pm_fl 8 79 = some (8, 10, 0) := by decide
theorem lf_8_85 : pm_fl 8 85 = some (1, 1, 1) := by decide
theorem lf_8_136 : pm_fl 8 136 = some (2, 0, 1) := by decide
theorem lf_8_140 : pm_fl 8 140 = some (2, 1, 1) := by decide
theorem lf_8_143 : pm_fl 8 143 = some (2, 2, 1) := by decide
theorem lf_9_11 : pm_fl 9 11 = some (9, 1, 0) := by decide
theorem lf_9_22 : pm_fl 9 22 = some (9, 2, 0) := by decide
theorem lf_9_26 : pm_fl 9 26 = some (9, 0, 0) := by decide
theorem lf_9_30 : pm_fl 9 30 = some (9, 4, 0) := by decide
theorem lf_9_34 : pm_fl 9 34 = some (3, 4, 1) := by decide
theorem lf_9_41 : pm_fl 9 41 = some (1, 1, 1) := by decide
theorem lf_9_48 : pm_fl 9 48 = some (0, 4, 1) := by decide
theorem lf_9_60 : pm_fl 9 60 = some (3, 0, 1) := by decide
theorem lf_9_63 : pm_fl 9 63 = some (3, 1, 1) := by decide
theorem lf_9_82 : pm_fl 9 82 = some (3, 2, 1) := by decide
theorem lf_9_88 : pm_fl 9 88 = some (0, 5, 1) := by decide
theorem lf_9_105 : pm_fl 9 105 = some (0, 3, 1) := by decide
theorem lf_9_108 : pm_fl 9 108 = some (3, 5, 1) := by decide
theorem lf_9_111 : pm_fl 9 111 = some (9, 6, 0) := by decide
theorem lf_9_114 : pm_fl 9 114 = some (9, 5, 0) := by decide
theorem lf_9_117 : pm_fl 9 117 = some (9, 3, 0) := by decide
theorem lf_9_121 : pm_fl 9 121 = some (9, 7, 0) := by decide
theorem lf_10_9 : pm_fl 10 9 = some (10, 0, 0) := by decide
theorem lf_10_20 : pm_fl 10 20 = some (10, 1, 0) := by decide
theorem lf_10_24 : pm_fl 10 24 = some (0, 0, 1) := by decide
theorem lf_10_33 : pm_fl 10 33 = some (4, 10, 1) := by decide
theorem lf_10_42 : pm_fl 10 42 = some (0, 2, 1) := by decide
theorem lf_10_64 : pm_fl 10 64 = some (5, 0, 1) := by decide
theorem lf_10_69 : pm_fl 10 69 = some (1, 1, 1) := by decide
theorem lf_11_14 : pm_fl 11 14 = some (11, 0, 0) := by decide
theorem lf_11_18 : pm_fl 11 18 = some (11, 1, 0) := by decide
theorem lf_11_26 : pm_fl 11 26 = some (11, 2, 0) := by decide
theorem lf_11_33 : pm_fl 11 33 = some (11, 3, 0) := by decide
theorem lf_11_40 : pm_fl 11 40 = some (11, 4, 0) := by decide
theorem lf_11_44 : pm_fl 11 44 = some (11, 5, 0) := by decide
theorem lf_11_50 : pm_fl 11 50 = some (11, 6, 0) := by decide
theorem lf_11_59 : pm_fl 11 59 = some (11, 7, 0) := by decide
theorem lf_11_68 : pm_fl 11 68 = some (11, 8, 0) := by decide
theorem lf_11_75 : pm_fl 11 75 = some (11, 9, 0) := by decide
theorem lf_11_79 : pm_fl 11 79 = some (11, 10, 0) := by decide
theorem lf_11_82 : pm_fl 11 82 = some (11, 11, 0) := by decide
theorem lf_11_86 : pm_fl 11 86 = some (11, 12, 0) := by decide
theorem lf_11_89 : pm_fl 11 89 = some (1, 1, 1) := by decide
theorem lf_11_116 : pm_fl 11 116 = some (5, 2, 1) := by decide
theorem lf_11_139 : pm_fl 11 139 = some (0, 1, 1) := by decide
theorem lf_11_144 : pm_fl 11 144 = some (0, 2, 1) := by decide
theorem lf_11_147 : pm_fl 11 147 = some (5, 0, 1) := by decide
theorem lf_11_150 : pm_fl 11 150 = some (0, 3, 1) := by decide
theorem lf_11_153 : pm_fl 11 153 = some (0, 5, 1) := by decide
theorem lf_11_157 : pm_fl 11 157 = some (0, 4, 1) := by decide
theorem lf_11_181 : pm_fl 11 181 = some (10, 1, 1) := by decide
theorem lf_11_203 : pm_fl 11 203 = some (4, 10, 1) := by decide
theorem lf_11_208 : pm_fl 11 208 = some (6, 7, 1) := by decide
theorem lf_11_211 : pm_fl 11 211 = some (6, 1, 1) := by decide
theorem lf_11_221 : pm_fl 11 221 = some (8, 2, 1) := by decide
theorem lf_11_231 : pm_fl 11 231 = some (8, 7, 1) := by decide
theorem lf_11_237 : pm_fl 11 237 = some (8, 10, 1) := by decide
theorem lf_11_240 : pm_fl 11 240 = some (8, 9, 1) := by decide
theorem lf_11_253 : pm_fl 11 253 = some (9, 4, 1) := by decide
theorem lf_11_268 : pm_fl 11 268 = some (3, 4, 1) := by decide
theorem lf_11_281 : pm_fl 11 281 = some (3, 0, 1) := by decide
theorem lf_11_284 : pm_fl 11 284 = some (3, 1, 1) := by decide
theorem lf_11_288 : pm_fl 11 288 = some (0, 0, 1) := by decide
theorem lf_11_289 : pm_fl 11 289 = some (3, 2, 1) := by decide
theorem lf_11_292 : pm_fl 11 292 = some (3, 5, 1) := by decide
theorem lf_11_295 : pm_fl 11 295 = some (9, 3, 1) := by decide
theorem lf_11_299 : pm_fl 11 299 = some (3, 3, 1) := by decide
theorem lf_11_301 : pm_fl 11 301 = some (7, 1, 1) := by decide
theorem lf_11_308 : pm_fl 11 308 = some (9, 5, 1) := by decide
theorem lf_11_311 : pm_fl 11 311 = some (9, 6, 1) := by decide
theorem lf_11_314 : pm_fl 11 314 = some (9, 7, 1) := by decide
theorem lf_12_1 : pm_fl 12 1 = some (12, 0, 0) := by decide
theorem lf_12_13 : pm_fl 12 13 = some (12, 1, 0) := by decide
theorem lf_12_17 : pm_fl 12 17 = some (12, 3, 0) := by decide
theorem lf_12_20 : pm_fl 12 20 = some (12, 6, 0) := by decide
theorem lf_12_23 : pm_fl 12 23 = some (12, 7, 0) := by decide
theorem lf_12_26 : pm_fl 12 26 = some (12, 8, 0) := by decide
theorem lf_12_30 : pm_fl 12 30 = some (12, 9, 0) := by decide
theorem lf_12_33 : pm_fl 12 33 = some (12, 10, 0) := by decide
theorem lf_12_36 : pm_fl 12 36 = some (12, 11, 0) := by decide
theorem lf_12_40 : pm_fl 12 40 = some (12, 12, 0) := by decide
theorem lf_12_43 : pm_fl 12 43 = some (12, 13, 0) := by decide
theorem lf_12_46 : pm_fl 12 46 = some (12, 14, 0) := by decide
theorem lf_12_49 : pm_fl 12 49 = some (12, 15, 0) := by decide
theorem lf_12_52 : pm_fl 12 52 = some (12, 17, 0) := by decide
theorem lf_12_55 : pm_fl 12 55 = some (12, 18, 0) := by decide
theorem lf_12_58 : pm_fl 12 58 = some (12, 20, 0) := by decide
theorem lf_12_61 : pm_fl 12 61 = some (12, 21, 0) := by decide
theorem lf_12_64 : pm_fl 12 64 = some (12, 22, 0) := by decide
theorem lf_12_67 : pm_fl 12 67 = some (12, 23, 0) := by decide
theorem lf_12_70 : pm_fl 12 70 = some (12, 24, 0) := by decide
theorem lf_12_73 : pm_fl 12 73 = some (12, 25, 0) := by decide
theorem lf_12_76 : pm_fl 12 76 = some (12, 26, 0) := by decide
theorem lf_12_79 : pm_fl 12 79 = some (12, 27, 0) := by decide
theorem lf_12_82 : pm_fl 12 82 = some (12, 31, 0) := by decide
theorem lf_12_85 : pm_fl 12 85 = some (12, 33, 0) := by decide
theorem lf_12_88 : pm_fl 12 88 = some (12, 34, 0) := by decide
theorem lf_12_91 : pm_fl 12 91 = some (12, 35, 0) := by decide
theorem lf_12_94 : pm_fl 12 94 = some (12, 36, 0) := by decide
theorem lf_12_97 : pm_fl 12 97 = some (12, 37, 0) := by decide
theorem lf_12_100 : pm_fl 12 100 = some (12, 42, 0) := by decide
theorem lf_12_103 : pm_fl 12 103 = some (12, 43, 0) := by decide
theorem lf_12_106 : pm_fl 12 106 = some (12, 44, 0) := by decide
theorem lf_12_109 : pm_fl 12 109 = some (12, 45, 0) := by decide
theorem lf_12_112 : pm_fl 12 112 = some (12, 46, 0) := by decide
theorem lf_12_115 : pm_fl 12 115 = some (12, 52, 0) := by decide
theorem lf_12_118 : pm_fl 12 118 = some (12, 55, 0) := by decide
theorem lf_12_121 : pm_fl 12 121 = some (12, 56, 0) := by decide
theorem lf_12_124 : pm_fl 12 124 = some (12, 57, 0) := by decide
theorem lf_12_127 : pm_fl 12 127 = some (12, 61, 0) := by decide
theorem lf_12_130 : pm_fl 12 130 = some (12, 62, 0) := by decide
theorem lf_12_133 : pm_fl 12 133 = some (12, 2, 0) := by decide
theorem lf_12_144 : pm_fl 12 144 = some (12, 4, 0) := by decide
theorem lf_12_158 : pm_fl 12 158 = some (12, 5, 0) := by decide
theorem lf_12_182 : pm_fl 12 182 = some (12, 32, 0) := by decide
theorem lf_12_209 : pm_fl 12 209 = some (12, 47, 0) := by decide
theorem lf_12_232 : pm_fl 12 232 = some (12, 41, 0) := by decide
theorem lf_12_238 : pm_fl 12 238 = some (12, 38, 0) := by decide
theorem lf_12_242 : pm_fl 12 242 = some (12, 39, 0) := by decide
theorem lf_12_245 : pm_fl 12 245 = some (12, 40, 0) := by decide
theorem lf_12_251 : pm_fl 12 251 = some (12, 49, 0) := by decide
theorem lf_12_254 : pm_fl 12 254 = some (12, 50, 0) := by decide
theorem lf_12_257 : pm_fl 12 257 = some (12, 48, 0) := by decide
theorem lf_12_265 : pm_fl 12 265 = some (12, 53, 0) := by decide
theorem lf_12_281 : pm_fl 12 281 = some (12, 51, 0) := by decide
theorem lf_12_284 : pm_fl 12 284 = some (12, 16, 0) := by decide
theorem lf_12_299 : pm_fl 12 299 = some (12, 54, 0) := by decide
theorem lf_12_313 : pm_fl 12 313 = some (12, 63, 0) := by decide
theorem lf_12_322 : pm_fl 12 322 = some (12, 60, 0) := by decide
theorem lf_12_325 : pm_fl 12 325 = some (12, 58, 0) := by decide
theorem lf_12_328 : pm_fl 12 328 = some (12, 59, 0) := by decide
theorem lf_12_331 : pm_fl 12 331 = some (12, 19, 0) := by decide
theorem lf_12_343 : pm_fl 12 343 = some (12, 29, 0) := by decide
theorem lf_12_349 : pm_fl 12 349 = some (12, 28, 0) := by decide
theorem lf_12_352 : pm_fl 12 352 = some (12, 30, 0) := by decide
theorem lm_0_35 : pm_ml 0 35 = some (mX0_releaseIfSettled, 0, 0) := rfl
theorem lm_1_25 : pm_ml 1 25 = some (mX1_at, 0, 0) := rfl
theorem lm_1_29 : pm_ml 1 29 = some (mX1_add, 0, 0) := rfl
theorem lm_1_33 : pm_ml 1 33 = some (mX1_clear, 0, 0) := rfl
theorem lm_1_36 : pm_ml 1 36 = some (mX1_append, 0, 0) := rfl
theorem lm_2_23 : pm_ml 2 23 = some (mX2_set, 0, 0) := rfl
theorem lm_2_27 : pm_ml 2 27 = some (mX1_alike, 0, 0) := rfl
theorem lm_2_33 : pm_ml 2 33 = some (mX1_at, 0, 0) := rfl
theorem lm_2_37 : pm_ml 2 37 = some (mX2_order, 0, 0) := rfl
theorem lm_4_36 : pm_ml 4 36 = some (mX11_gamma, 1, 1) := rfl
theorem lm_4_40 : pm_ml 4 40 = some (mX4_begin, 0, 0) := rfl
theorem lm_4_49 : pm_ml 4 49 = some (mX4_followRow, 0, 0) := rfl
theorem lm_4_53 : pm_ml 4 53 = some (mX4_followLetter, 0, 0) := rfl
theorem lm_4_56 : pm_ml 4 56 = some (mX4_tryOwn, 0, 0) := rfl
theorem lm_4_75 : pm_ml 4 75 = some (mX11_width, 1, 1) := rfl
theorem lm_4_78 : pm_ml 4 78 = some (mX4_tryCopies, 0, 0) := rfl
theorem lm_4_82 : pm_ml 4 82 = some (mX4_tryWhole, 0, 0) := rfl
theorem lm_4_85 : pm_ml 4 85 = some (mX4_longestWhole, 0, 0) := rfl
theorem lm_4_89 : pm_ml 4 89 = some (mX4_greedyFrom, 0, 0) := rfl
theorem lm_4_101 : pm_ml 4 101 = some (mJ_fill, 1, 0) := rfl
theorem lm_4_107 : pm_ml 4 107 = some (mX1_at, 0, 0) := rfl
theorem lm_4_113 : pm_ml 4 113 = some (mX5_end, 0, 0) := rfl
theorem lm_4_116 : pm_ml 4 116 = some (mX5_start, 0, 0) := rfl
theorem lm_4_119 : pm_ml 4 119 = some (mX4_tryPart, 0, 0) := rfl
theorem lm_4_126 : pm_ml 4 126 = some (mX5_length, 0, 0) := rfl
theorem lm_5_11 : pm_ml 5 11 = some (mX1_init, 2, 0) := rfl
theorem lm_5_30 : pm_ml 5 30 = some (mX1_clear, 0, 0) := rfl
theorem lm_5_37 : pm_ml 5 37 = some (mX1_append, 0, 0) := rfl
theorem lm_5_44 : pm_ml 5 44 = some (mX5_start, 0, 0) := rfl
theorem lm_5_48 : pm_ml 5 48 = some (mX1_shorten, 0, 0) := rfl
theorem lm_5_51 : pm_ml 5 51 = some (mX5_length, 0, 0) := rfl
theorem lm_5_54 : pm_ml 5 54 = some (mX5_init, 2, 0) := rfl
theorem lm_5_57 : pm_ml 5 57 = some (mX5_append, 0, 0) := rfl
theorem lm_6_11 : pm_ml 6 11 = some (mX1_init, 2, 0) := rfl
theorem lm_6_43 : pm_ml 6 43 = some (mX1_clear, 0, 0) := rfl
theorem lm_6_46 : pm_ml 6 46 = some (mX6_readBook, 0, 0) := rfl
theorem lm_6_50 : pm_ml 6 50 = some (mX6_readSize, 0, 0) := rfl
theorem lm_6_54 : pm_ml 6 54 = some (mX6_readPart, 0, 0) := rfl
theorem lm_6_58 : pm_ml 6 58 = some (mX6_readFill, 0, 0) := rfl
theorem lm_6_61 : pm_ml 6 61 = some (mX6_readBits, 0, 0) := rfl
theorem lm_6_65 : pm_ml 6 65 = some (mX7_findOrNothing, 0, 0) := rfl
theorem lm_6_71 : pm_ml 6 71 = some (mX6_note, 0, 0) := rfl
theorem lm_6_75 : pm_ml 6 75 = some (mX6_readGamma, 0, 0) := rfl
theorem lm_6_79 : pm_ml 6 79 = some (mX6_readOwn, 0, 0) := rfl
theorem lm_6_88 : pm_ml 6 88 = some (mX6_readTold, 0, 0) := rfl
theorem lm_6_92 : pm_ml 6 92 = some (mX6_readFar, 0, 0) := rfl
theorem lm_6_95 : pm_ml 6 95 = some (mX6_readWhole, 0, 0) := rfl
theorem lm_6_99 : pm_ml 6 99 = some (mX1_add, 0, 0) := rfl
theorem lm_6_107 : pm_ml 6 107 = some (mX11_width, 1, 1) := rfl
theorem lm_6_110 : pm_ml 6 110 = some (mX5_endAround, 0, 0) := rfl
theorem lm_6_113 : pm_ml 6 113 = some (mX6_takeCopy, 0, 0) := rfl
theorem lm_6_117 : pm_ml 6 117 = some (mX1_append, 0, 0) := rfl
theorem lm_6_121 : pm_ml 6 121 = some (mX0_isRanked, 0, 0) := rfl
theorem lm_6_128 : pm_ml 6 128 = some (mX5_length, 0, 0) := rfl
theorem lm_6_131 : pm_ml 6 131 = some (mX5_start, 0, 0) := rfl
theorem lm_6_134 : pm_ml 6 134 = some (mX1_at, 0, 0) := rfl
theorem lm_7_19 : pm_ml 7 19 = some (mX5_init, 2, 0) := rfl
theorem lm_7_22 : pm_ml 7 22 = some (mX0_init, 2, 0) := rfl
theorem lm_7_40 : pm_ml 7 40 = some (mX7_isFull, 0, 0) := rfl
theorem lm_7_44 : pm_ml 7 44 = some (mX5_copy, 0, 0) := rfl
theorem lm_7_48 : pm_ml 7 48 = some (mX7_find, 0, 0) := rfl
theorem lm_8_29 : pm_ml 8 29 = some (mX5_init, 2, 0) := rfl
theorem lm_8_43 : pm_ml 8 43 = some (mX1_init, 2, 0) := rfl
theorem lm_8_46 : pm_ml 8 46 = some (mX2_init, 2, 0) := rfl
theorem lm_8_57 : pm_ml 8 57 = some (mX1_become, 0, 0) := rfl
theorem lm_8_60 : pm_ml 8 60 = some (mX4_plan, 0, 0) := rfl
theorem lm_8_66 : pm_ml 8 66 = some (mX4_least, 0, 0) := rfl
theorem lm_8_82 : pm_ml 8 82 = some (mX5_clear, 0, 0) := rfl
theorem lm_8_88 : pm_ml 8 88 = some (mX8_findAt, 0, 0) := rfl
theorem lm_8_92 : pm_ml 8 92 = some (mX8_longestAlike, 0, 0) := rfl
theorem lm_8_96 : pm_ml 8 96 = some (mX2_set, 0, 0) := rfl
theorem lm_8_100 : pm_ml 8 100 = some (mX8_insertProbe, 0, 0) := rfl
theorem lm_8_103 : pm_ml 8 103 = some (mX1_alike, 0, 0) := rfl
theorem lm_8_113 : pm_ml 8 113 = some (mX2_orderBySpread, 0, 0) := rfl
theorem lm_8_120 : pm_ml 8 120 = some (mX2_become, 0, 0) := rfl
theorem lm_8_123 : pm_ml 8 123 = some (mX8_least, 0, 0) := rfl
theorem lm_8_126 : pm_ml 8 126 = some (mX8_gainOf, 0, 0) := rfl
theorem lm_8_130 : pm_ml 8 130 = some (mX2_order, 0, 0) := rfl
theorem lm_8_133 : pm_ml 8 133 = some (mX8_appendPiece, 0, 0) := rfl
theorem lm_8_146 : pm_ml 8 146 = some (mX5_append, 0, 0) := rfl
theorem lm_8_150 : pm_ml 8 150 = some (mX5_dropLast, 0, 0) := rfl
theorem lm_8_153 : pm_ml 8 153 = some (mX11_gamma, 1, 1) := rfl
theorem lm_9_19 : pm_ml 9 19 = some (mX1_init, 2, 0) := rfl
theorem lm_9_37 : pm_ml 9 37 = some (mX9_put, 0, 0) := rfl
theorem lm_9_44 : pm_ml 9 44 = some (mX1_become, 0, 0) := rfl
theorem lm_9_53 : pm_ml 9 53 = some (mX9_isFull, 0, 0) := rfl
theorem lm_9_57 : pm_ml 9 57 = some (mX3_init, 2, 0) := rfl
theorem lm_9_67 : pm_ml 9 67 = some (mX9_answerOffer, 0, 0) := rfl
theorem lm_9_71 : pm_ml 9 71 = some (mX9_hearYes, 0, 0) := rfl
theorem lm_9_74 : pm_ml 9 74 = some (mX9_hearNo, 0, 0) := rfl
theorem lm_9_78 : pm_ml 9 78 = some (mX9_takeLetter, 0, 0) := rfl
theorem lm_9_85 : pm_ml 9 85 = some (mX0_awaitLetters, 0, 0) := rfl
theorem lm_9_92 : pm_ml 9 92 = some (mX7_heldBooks, 0, 0) := rfl
theorem lm_9_98 : pm_ml 9 98 = some (mX9_post, 0, 0) := rfl
theorem lm_9_102 : pm_ml 9 102 = some (mX0_hold, 0, 0) := rfl
theorem lm_9_124 : pm_ml 9 124 = some (mX0_settleLetter, 0, 0) := rfl
theorem lm_10_15 : pm_ml 10 15 = some (mX1_clear, 0, 0) := rfl
theorem lm_10_29 : pm_ml 10 29 = some (mX10_put, 0, 0) := rfl
theorem lm_10_38 : pm_ml 10 38 = some (mX10_putGamma, 0, 0) := rfl
theorem lm_10_46 : pm_ml 10 46 = some (mX10_putPart, 0, 0) := rfl
theorem lm_10_50 : pm_ml 10 50 = some (mX4_lengthAt, 0, 0) := rfl
theorem lm_10_54 : pm_ml 10 54 = some (mX4_kindAt, 0, 0) := rfl
theorem lm_10_57 : pm_ml 10 57 = some (mX4_placeAt, 0, 0) := rfl
theorem lm_10_60 : pm_ml 10 60 = some (mX10_putBytes, 0, 0) := rfl
theorem lm_10_70 : pm_ml 10 70 = some (mX11_width, 1, 1) := rfl
theorem lm_10_73 : pm_ml 10 73 = some (mX1_at, 0, 0) := rfl
theorem lm_10_76 : pm_ml 10 76 = some (mX11_gamma, 1, 1) := rfl
theorem lm_10_79 : pm_ml 10 79 = some (mX1_add, 0, 0) := rfl
theorem lm_10_82 : pm_ml 10 82 = some (mX1_raise, 0, 0) := rfl
theorem lm_11_11 : pm_ml 11 11 = some (mX1_init, 2, 0) := rfl
theorem lm_11_23 : pm_ml 11 23 = some (mX5_init, 2, 0) := rfl
theorem lm_11_32 : pm_ml 11 32 = some (mX7_init, 2, 0) := rfl
theorem lm_11_39 : pm_ml 11 39 = some (mX4_init, 2, 0) := rfl
theorem lm_11_49 : pm_ml 11 49 = some (mX10_init, 2, 1) := rfl
theorem lm_11_56 : pm_ml 11 56 = some (mX6_init, 2, 0) := rfl
theorem lm_11_65 : pm_ml 11 65 = some (mX8_init, 2, 0) := rfl
theorem lm_11_74 : pm_ml 11 74 = some (mX9_init, 2, 0) := rfl
theorem lm_11_92 : pm_ml 11 92 = some (mX11_feedNumber, 0, 0) := rfl
theorem lm_11_95 : pm_ml 11 95 = some (mX1_add, 0, 0) := rfl
theorem lm_11_98 : pm_ml 11 98 = some (mX1_shorten, 0, 0) := rfl
theorem lm_11_101 : pm_ml 11 101 = some (mX1_become, 0, 0) := rfl
theorem lm_11_105 : pm_ml 11 105 = some (mX1_at, 0, 0) := rfl
theorem lm_11_109 : pm_ml 11 109 = some (mX11_draftPiece, 0, 0) := rfl
theorem lm_11_113 : pm_ml 11 113 = some (mX1_clear, 0, 0) := rfl
theorem lm_11_119 : pm_ml 11 119 = some (mX5_append, 0, 0) := rfl
theorem lm_11_123 : pm_ml 11 123 = some (mX5_fits, 0, 0) := rfl
theorem lm_11_127 : pm_ml 11 127 = some (mX7_isFull, 0, 0) := rfl
theorem lm_11_131 : pm_ml 11 131 = some (mX7_append, 0, 0) := rfl
theorem lm_11_134 : pm_ml 11 134 = some (mX5_clear, 0, 0) := rfl
theorem lm_11_135 : pm_ml 11 135 = some (mX7_find, 0, 0) := rfl
theorem lm_11_160 : pm_ml 11 160 = some (mX5_start, 0, 0) := rfl
theorem lm_11_163 : pm_ml 11 163 = some (mX5_length, 0, 0) := rfl
theorem lm_11_166 : pm_ml 11 166 = some (mX1_append, 0, 0) := rfl
theorem lm_11_167 : pm_ml 11 167 = some (mX7_findOrNothing, 0, 0) := rfl
theorem lm_11_170 : pm_ml 11 170 = some (mX0_isRanked, 0, 0) := rfl
theorem lm_11_173 : pm_ml 11 173 = some (mX4_plan, 0, 0) := rfl
theorem lm_11_177 : pm_ml 11 177 = some (mX10_write, 0, 0) := rfl
theorem lm_11_184 : pm_ml 11 184 = some (mX4_least, 0, 0) := rfl
theorem lm_11_187 : pm_ml 11 187 = some (mX4_greedyTotal, 0, 0) := rfl
theorem lm_11_191 : pm_ml 11 191 = some (mX4_startOfPart, 0, 0) := rfl
theorem lm_11_194 : pm_ml 11 194 = some (mX4_kindAt, 0, 0) := rfl
theorem lm_11_197 : pm_ml 11 197 = some (mX4_placeAt, 0, 0) := rfl
theorem lm_11_200 : pm_ml 11 200 = some (mX4_lengthAt, 0, 0) := rfl
theorem lm_11_204 : pm_ml 11 204 = some (mX6_read, 0, 0) := rfl
theorem lm_11_214 : pm_ml 11 214 = some (mX11_addSample, 0, 0) := rfl
theorem lm_11_217 : pm_ml 11 217 = some (mX8_keepSample, 0, 0) := rfl
theorem lm_11_224 : pm_ml 11 224 = some (mX8_begin, 0, 0) := rfl
theorem lm_11_227 : pm_ml 11 227 = some (mX8_takeNext, 0, 0) := rfl
theorem lm_11_234 : pm_ml 11 234 = some (mX8_keepGains, 0, 0) := rfl
theorem lm_11_243 : pm_ml 11 243 = some (mX8_keptGain, 0, 0) := rfl
theorem lm_11_246 : pm_ml 11 246 = some (mX8_least, 0, 0) := rfl
theorem lm_11_249 : pm_ml 11 249 = some (mX9_post, 0, 0) := rfl
theorem lm_11_256 : pm_ml 11 256 = some (mX11_sendLetter, 0, 0) := rfl
theorem lm_11_260 : pm_ml 11 260 = some (mX9_isFull, 0, 0) := rfl
theorem lm_11_261 : pm_ml 11 261 = some (mX9_postLetter, 0, 0) := rfl
theorem lm_11_265 : pm_ml 11 265 = some (mX9_find, 0, 0) := rfl
theorem lm_11_273 : pm_ml 11 273 = some (mX9_arrive, 0, 0) := rfl
theorem lm_11_277 : pm_ml 11 277 = some (mX9_noteLoss, 0, 0) := rfl
theorem lm_11_302 : pm_ml 11 302 = some (mX9_messagesUnderWay, 0, 0) := rfl
theorem lm_11_305 : pm_ml 11 305 = some (mX7_heldBooks, 0, 0) := rfl
theorem lm_11_317 : pm_ml 11 317 = some (mX11_width, 1, 0) := rfl
theorem lm_12_136 : pm_ml 12 136 = some (mX12_four, 0, 0) := rfl
theorem lm_12_140 : pm_ml 12 140 = some (mX12_in, 1, 0) := rfl
theorem lm_12_147 : pm_ml 12 147 = some (mX12_end, 0, 0) := rfl
theorem lm_12_151 : pm_ml 12 151 = some (mX12_begin, 0, 0) := rfl
theorem lm_12_154 : pm_ml 12 154 = some (mX12_rowLong, 0, 0) := rfl
theorem lm_12_161 : pm_ml 12 161 = some (mX12_isBook, 0, 0) := rfl
theorem lm_12_165 : pm_ml 12 165 = some (mX12_addPiece, 0, 0) := rfl
theorem lm_12_169 : pm_ml 12 169 = some (mX12_pieceLong, 0, 0) := rfl
theorem lm_12_172 : pm_ml 12 172 = some (mX12_areSuch, 0, 0) := rfl
theorem lm_12_175 : pm_ml 12 175 = some (mX12_copyBook, 0, 0) := rfl
theorem lm_12_179 : pm_ml 12 179 = some (mX12_bitsOf, 1, 0) := rfl
theorem lm_12_185 : pm_ml 12 185 = some (mX12_pieceAt, 0, 0) := rfl
theorem lm_12_189 : pm_ml 12 189 = some (mX12_g, 1, 0) := rfl
theorem lm_12_192 : pm_ml 12 192 = some (mX12_offer, 0, 0) := rfl
theorem lm_12_196 : pm_ml 12 196 = some (mX12_toldLong, 0, 0) := rfl
theorem lm_12_200 : pm_ml 12 200 = some (mX12_farLong, 0, 0) := rfl
theorem lm_12_203 : pm_ml 12 203 = some (mX12_isRanked, 0, 0) := rfl
theorem lm_12_206 : pm_ml 12 206 = some (mX12_isWhole, 0, 0) := rfl
theorem lm_12_212 : pm_ml 12 212 = some (mX12_write, 0, 0) := rfl
theorem lm_12_215 : pm_ml 12 215 = some (mX12_writeG, 0, 0) := rfl
theorem lm_12_218 : pm_ml 12 218 = some (mX12_take, 0, 0) := rfl
theorem lm_12_222 : pm_ml 12 222 = some (mX12_takeTape, 0, 0) := rfl
theorem lm_12_226 : pm_ml 12 226 = some (mX12_isBookOrNone, 0, 0) := rfl
theorem lm_12_229 : pm_ml 12 229 = some (mX12_findLeast, 0, 0) := rfl
theorem lm_12_235 : pm_ml 12 235 = some (mX12_writePart, 0, 0) := rfl
theorem lm_12_248 : pm_ml 12 248 = some (mX12_greedyPrice, 0, 0) := rfl
theorem lm_12_260 : pm_ml 12 260 = some (mX12_wrong, 0, 0) := rfl
theorem lm_12_262 : pm_ml 12 262 = some (mX12_read, 0, 0) := rfl
theorem lm_12_268 : pm_ml 12 268 = some (mX12_readG, 0, 0) := rfl
theorem lm_12_272 : pm_ml 12 272 = some (mX12_readOwn, 0, 0) := rfl
theorem lm_12_275 : pm_ml 12 275 = some (mX12_getFrom, 0, 0) := rfl
theorem lm_12_278 : pm_ml 12 278 = some (mX12_readPart, 0, 0) := rfl
theorem lm_12_287 : pm_ml 12 287 = some (mX12_priceOfAll, 0, 0) := rfl
theorem lm_12_290 : pm_ml 12 290 = some (mX12_isSame, 0, 0) := rfl
theorem lm_12_293 : pm_ml 12 293 = some (mX12_isIn, 0, 0) := rfl
theorem lm_12_296 : pm_ml 12 296 = some (mX12_isFirst, 0, 0) := rfl
theorem lm_12_302 : pm_ml 12 302 = some (mX12_isBetter, 0, 0) := rfl
theorem lm_12_306 : pm_ml 12 306 = some (mX12_inMany, 0, 0) := rfl
theorem lm_12_309 : pm_ml 12 309 = some (mX12_propose, 0, 0) := rfl
theorem lm_12_316 : pm_ml 12 316 = some (mX12_findCandidates, 0, 0) := rfl
theorem lm_12_319 : pm_ml 12 319 = some (mX12_nextPiece, 0, 0) := rfl
theorem lm_12_334 : pm_ml 12 334 = some (mX12_sendMessage, 0, 0) := rfl
theorem lm_12_337 : pm_ml 12 337 = some (mX12_heldMany, 0, 0) := rfl
theorem lm_12_340 : pm_ml 12 340 = some (mX12_answer, 0, 0) := rfl
theorem lm_12_346 : pm_ml 12 346 = some (mX12_settle, 0, 0) := rfl
theorem lm_12_355 : pm_ml 12 355 = some (mX12_release, 0, 0) := rfl
theorem lm_12_358 : pm_ml 12 358 = some (mX12_takeOffer, 0, 0) := rfl
theorem lm_12_361 : pm_ml 12 361 = some (mX12_takeLetter, 0, 0) := rfl
theorem lm_13_9 : pm_ml 13 9 = some (mX11_init, 2, 0) := rfl
theorem lm_13_12 : pm_ml 13 12 = some (mX12_init, 2, 0) := rfl
theorem lm_13_13 : pm_ml 13 13 = some (mX11_feed, 0, 0) := rfl
theorem lm_13_17 : pm_ml 13 17 = some (mX12_feed, 0, 0) := rfl
theorem lm_13_18 : pm_ml 13 18 = some (mX11_trim, 0, 0) := rfl
theorem lm_13_22 : pm_ml 13 22 = some (mX12_trim, 0, 0) := rfl
theorem lm_13_23 : pm_ml 13 23 = some (mX11_again, 0, 0) := rfl
theorem lm_13_27 : pm_ml 13 27 = some (mX12_again, 0, 0) := rfl
theorem lm_13_28 : pm_ml 13 28 = some (mX11_out, 0, 0) := rfl
theorem lm_13_31 : pm_ml 13 31 = some (mX12_out, 0, 0) := rfl
theorem lm_13_32 : pm_ml 13 32 = some (mX11_piece, 0, 0) := rfl
theorem lm_13_35 : pm_ml 13 35 = some (mX12_piece, 0, 0) := rfl
theorem lm_13_36 : pm_ml 13 36 = some (mX11_book, 0, 0) := rfl
theorem lm_13_39 : pm_ml 13 39 = some (mX12_book, 0, 0) := rfl
theorem lm_13_40 : pm_ml 13 40 = some (mX11_about, 0, 0) := rfl
theorem lm_13_44 : pm_ml 13 44 = some (mX12_about, 0, 0) := rfl
theorem lm_13_45 : pm_ml 13 45 = some (mX11_tell, 0, 0) := rfl
theorem lm_13_48 : pm_ml 13 48 = some (mX12_tell, 0, 0) := rfl
theorem lm_13_49 : pm_ml 13 49 = some (mX11_isOf, 0, 0) := rfl
theorem lm_13_52 : pm_ml 13 52 = some (mX12_isOf, 0, 0) := rfl
theorem lm_13_53 : pm_ml 13 53 = some (mX11_pack, 0, 0) := rfl
theorem lm_13_56 : pm_ml 13 56 = some (mX12_pack, 0, 0) := rfl
theorem lm_13_57 : pm_ml 13 57 = some (mX11_greedy, 0, 0) := rfl
theorem lm_13_60 : pm_ml 13 60 = some (mX12_greedy, 0, 0) := rfl
theorem lm_13_61 : pm_ml 13 61 = some (mX11_bits, 0, 0) := rfl
theorem lm_13_64 : pm_ml 13 64 = some (mX12_bits, 0, 0) := rfl
theorem lm_13_65 : pm_ml 13 65 = some (mX11_part, 0, 0) := rfl
theorem lm_13_68 : pm_ml 13 68 = some (mX12_part, 0, 0) := rfl
theorem lm_13_69 : pm_ml 13 69 = some (mX11_rest, 0, 0) := rfl
theorem lm_13_72 : pm_ml 13 72 = some (mX12_rest, 0, 0) := rfl
theorem lm_13_73 : pm_ml 13 73 = some (mX11_unpack, 0, 0) := rfl
theorem lm_13_76 : pm_ml 13 76 = some (mX12_unpack, 0, 0) := rfl
theorem lm_13_77 : pm_ml 13 77 = some (mX11_fault, 0, 0) := rfl
theorem lm_13_80 : pm_ml 13 80 = some (mX12_fault, 0, 0) := rfl
theorem lm_13_81 : pm_ml 13 81 = some (mX11_sample, 0, 0) := rfl
theorem lm_13_84 : pm_ml 13 84 = some (mX12_sample, 0, 0) := rfl
theorem lm_13_85 : pm_ml 13 85 = some (mX11_forget, 0, 0) := rfl
theorem lm_13_88 : pm_ml 13 88 = some (mX12_forget, 0, 0) := rfl
theorem lm_13_89 : pm_ml 13 89 = some (mX11_train, 0, 0) := rfl
theorem lm_13_92 : pm_ml 13 92 = some (mX12_train, 0, 0) := rfl
theorem lm_13_93 : pm_ml 13 93 = some (mX11_gained, 0, 0) := rfl
theorem lm_13_96 : pm_ml 13 96 = some (mX12_gained, 0, 0) := rfl
theorem lm_13_97 : pm_ml 13 97 = some (mX11_price, 0, 0) := rfl
theorem lm_13_100 : pm_ml 13 100 = some (mX12_price, 0, 0) := rfl
theorem lm_13_101 : pm_ml 13 101 = some (mX11_offer, 0, 0) := rfl
theorem lm_13_104 : pm_ml 13 104 = some (mX12_offer_, 0, 0) := rfl
theorem lm_13_105 : pm_ml 13 105 = some (mX11_send, 0, 0) := rfl
theorem lm_13_108 : pm_ml 13 108 = some (mX12_send, 0, 0) := rfl
theorem lm_13_109 : pm_ml 13 109 = some (mX11_over, 0, 0) := rfl
theorem lm_13_112 : pm_ml 13 112 = some (mX12_over, 0, 0) := rfl
theorem lm_13_113 : pm_ml 13 113 = some (mX11_deliver, 0, 0) := rfl
theorem lm_13_116 : pm_ml 13 116 = some (mX12_deliver, 0, 0) := rfl
theorem lm_13_117 : pm_ml 13 117 = some (mX11_lose, 0, 0) := rfl
theorem lm_13_120 : pm_ml 13 120 = some (mX12_lose, 0, 0) := rfl
theorem lm_13_121 : pm_ml 13 121 = some (mX11_twice, 0, 0) := rfl
theorem lm_13_124 : pm_ml 13 124 = some (mX12_twice, 0, 0) := rfl
theorem lm_13_125 : pm_ml 13 125 = some (mX11_message, 0, 0) := rfl
theorem lm_13_128 : pm_ml 13 128 = some (mX12_message, 0, 0) := rfl
theorem lm_13_129 : pm_ml 13 129 = some (mX11_latest, 0, 0) := rfl
theorem lm_13_132 : pm_ml 13 132 = some (mX12_latest, 0, 0) := rfl
theorem lm_13_133 : pm_ml 13 133 = some (mX11_count, 0, 0) := rfl
theorem lm_13_136 : pm_ml 13 136 = some (mX12_count, 0, 0) := rfl
