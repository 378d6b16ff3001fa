/-! ===== the law: each case ===== -/
section LAW
variable {x b L n u i : Nat} {xs : Nat → Int32} {sh : hs_} {F : hF_} {R : hR_} {A : hF_} {B : hR_} {T : TT} {Q : Option Value → pm_H → Prop}
theorem lw_feed (hB : BS x b L n xs sh F R A B T) (hi : i + 6 ≤ L) (hQ : ∀ n' u' sh' F' R' A' B', BS x b L n' xs sh' F' R' A' B' (s_feed T (xs (i + 1)) (xs (i + 2)) (xs (i + 3)) (xs (i + 4)) (xs (i + 5))).2 → n' ≤ n + 8 → u' ≤ u + 5000 → rw_ 9 mL_law 878 [.ref b, .ref x, .ref (x + 78), .int (nI i)] [] (mkh n' u' sh' F' R' A' B') Q) : rw_ 9 mL_law 168 [.ref b, .ref x, .ref (x + 78), .int (nI i)] [] (mkh n u sh F R A B) Q := by
  obtain ⟨⟨ba, ma, hX⟩, hM, hMS, h2, ⟨hs, hbx, hL⟩, hxs⟩ := id hB
  simp only [rL_law_168, rL_law_168_n, rL_law_169, rL_law_169_n, rL_law_170, rL_law_171, rL_law_172, nI_add, up2_eq, va_rf, eq_self, or_true, true_or, Option.toList_some, Option.toList_none, List.cons_append, List.nil_append, if_true, if_false]
  rw [rL_law_173 hs (by decide) (by omega) (by omega), hxs _ (by omega)]
  simp only [rL_law_174, rL_law_174_n, rL_law_175, rL_law_176, rL_law_177, nI_add, up2_eq, va_rf, eq_self, or_true, true_or, Option.toList_some, Option.toList_none, List.cons_append, List.nil_append, if_true, if_false]
  rw [rL_law_178 hs (by decide) (by omega) (by omega), hxs _ (by omega)]
  simp only [rL_law_179, rL_law_179_n, rL_law_180, rL_law_181, rL_law_182, nI_add, up2_eq, va_rf, eq_self, or_true, true_or, Option.toList_some, Option.toList_none, List.cons_append, List.nil_append, if_true, if_false]
  rw [rL_law_183 hs (by decide) (by omega) (by omega), hxs _ (by omega)]
  simp only [rL_law_184, rL_law_184_n, rL_law_185, rL_law_186, rL_law_187, nI_add, up2_eq, va_rf, eq_self, or_true, true_or, Option.toList_some, Option.toList_none, List.cons_append, List.nil_append, if_true, if_false]
  rw [rL_law_188 hs (by decide) (by omega) (by omega), hxs _ (by omega)]
  simp only [rL_law_189, rL_law_189_n, rL_law_190, rL_law_191, rL_law_192, nI_add, up2_eq, va_rf, eq_self, or_true, true_or, Option.toList_some, Option.toList_none, List.cons_append, List.nil_append, if_true, if_false]
  rw [rL_law_193 hs (by decide) (by omega) (by omega), hxs _ (by omega)]
  rw [rL_law_194 hX.2.1.s0]
  refine c_feed hX h2.1 ?_
  intro n1 u1 sh1 F1 R1 A1 B1 ba1 ma1 hX1 fr1 hn1 hu1
  obtain ⟨hM1, hMS1, hs1, hxs1⟩ := BS_mid hB fr1
  simp only [up2_eq, va_rf, eq_self, or_true, true_or, Option.toList_some, Option.toList_none, List.cons_append, List.nil_append, if_true, if_false]
  simp only [rL_law_197, rL_law_197_n, rL_law_198, rL_law_198_n, rL_law_199, rL_law_200, rL_law_201, nI_add, up2_eq, va_rf, eq_self, or_true, true_or, Option.toList_some, Option.toList_none, List.cons_append, List.nil_append, if_true, if_false]
  rw [rL_law_202 hs1 (by decide) (by omega) (by omega), hxs1 _ (by omega)]
  simp only [rL_law_203, rL_law_203_n, rL_law_204, rL_law_205, rL_law_206, nI_add, up2_eq, va_rf, eq_self, or_true, true_or, Option.toList_some, Option.toList_none, List.cons_append, List.nil_append, if_true, if_false]
  rw [rL_law_207 hs1 (by decide) (by omega) (by omega), hxs1 _ (by omega)]
  simp only [rL_law_208, rL_law_208_n, rL_law_209, rL_law_210, rL_law_211, nI_add, up2_eq, va_rf, eq_self, or_true, true_or, Option.toList_some, Option.toList_none, List.cons_append, List.nil_append, if_true, if_false]
  rw [rL_law_212 hs1 (by decide) (by omega) (by omega), hxs1 _ (by omega)]
  simp only [rL_law_213, rL_law_213_n, rL_law_214, rL_law_215, rL_law_216, nI_add, up2_eq, va_rf, eq_self, or_true, true_or, Option.toList_some, Option.toList_none, List.cons_append, List.nil_append, if_true, if_false]
  rw [rL_law_217 hs1 (by decide) (by omega) (by omega), hxs1 _ (by omega)]
  simp only [rL_law_218, rL_law_218_n, rL_law_219, rL_law_220, rL_law_221, nI_add, up2_eq, va_rf, eq_self, or_true, true_or, Option.toList_some, Option.toList_none, List.cons_append, List.nil_append, if_true, if_false]
  rw [rL_law_222 hs1 (by decide) (by omega) (by omega), hxs1 _ (by omega)]
  rw [rL_law_223 hM1.1]
  refine m_feed hM1 hMS1 h2.1 ?_
  intro F2 A2 hMS2 fr2
  simp only [rL_law_226, up2_eq, va_rf, eq_self, or_true, true_or, Option.toList_some, Option.toList_none, List.cons_append, List.nil_append, if_true, if_false]
  exact hQ n1 u1 sh1 F2 R1 A2 B1 (BS_end hX1 hM1 hMS2 fr2 (k2_feed h2) hs1 hbx hL hxs1) hn1 hu1
theorem lw_trim (hB : BS x b L n xs sh F R A B T) (hi : i + 6 ≤ L) (hQ : ∀ n' u' sh' F' R' A' B', BS x b L n' xs sh' F' R' A' B' (s_trim T (xs (i + 1))).2 → n' ≤ n + 8 → u' ≤ u + 5000 → rw_ 9 mL_law 878 [.ref b, .ref x, .ref (x + 78), .int (nI i)] [] (mkh n' u' sh' F' R' A' B') Q) : rw_ 9 mL_law 231 [.ref b, .ref x, .ref (x + 78), .int (nI i)] [] (mkh n u sh F R A B) Q := by
  obtain ⟨⟨ba, ma, hX⟩, hM, hMS, h2, ⟨hs, hbx, hL⟩, hxs⟩ := id hB
  simp only [rL_law_231, rL_law_231_n, rL_law_232, rL_law_232_n, rL_law_233, rL_law_234, rL_law_235, nI_add, up2_eq, va_rf, eq_self, or_true, true_or, Option.toList_some, Option.toList_none, List.cons_append, List.nil_append, if_true, if_false]
  rw [rL_law_236 hs (by decide) (by omega) (by omega), hxs _ (by omega)]
  rw [rL_law_237 hX.2.1.s0]
  refine c_trim hX h2.1 ?_
  intro n1 u1 sh1 F1 R1 A1 B1 ba1 ma1 hX1 fr1 hn1 hu1
  obtain ⟨hM1, hMS1, hs1, hxs1⟩ := BS_mid hB fr1
  simp only [up2_eq, va_rf, eq_self, or_true, true_or, Option.toList_some, Option.toList_none, List.cons_append, List.nil_append, if_true, if_false]
  simp only [rL_law_240, rL_law_240_n, rL_law_241, rL_law_241_n, rL_law_242, rL_law_243, rL_law_244, nI_add, up2_eq, va_rf, eq_self, or_true, true_or, Option.toList_some, Option.toList_none, List.cons_append, List.nil_append, if_true, if_false]
  rw [rL_law_245 hs1 (by decide) (by omega) (by omega), hxs1 _ (by omega)]
  rw [rL_law_246 hM1.1]
  refine m_trim hM1 hMS1 h2.1 ?_
  intro F2 A2 hMS2 fr2
  simp only [rL_law_249, up2_eq, va_rf, eq_self, or_true, true_or, Option.toList_some, Option.toList_none, List.cons_append, List.nil_append, if_true, if_false]
  exact hQ n1 u1 sh1 F2 R1 A2 B1 (BS_end hX1 hM1 hMS2 fr2 (k2_trim h2) hs1 hbx hL hxs1) hn1 hu1
theorem lw_again (hB : BS x b L n xs sh F R A B T) (hi : i + 6 ≤ L) (hQ : ∀ n' u' sh' F' R' A' B', BS x b L n' xs sh' F' R' A' B' (s_again T).2 → n' ≤ n + 8 → u' ≤ u + 5000 → rw_ 9 mL_law 878 [.ref b, .ref x, .ref (x + 78), .int (nI i)] [] (mkh n' u' sh' F' R' A' B') Q) : rw_ 9 mL_law 254 [.ref b, .ref x, .ref (x + 78), .int (nI i)] [] (mkh n u sh F R A B) Q := by
  obtain ⟨⟨ba, ma, hX⟩, hM, hMS, h2, ⟨hs, hbx, hL⟩, hxs⟩ := id hB
  simp only [rL_law_254, rL_law_254_n, nI_add, up2_eq, va_rf, eq_self, or_true, true_or, Option.toList_some, Option.toList_none, List.cons_append, List.nil_append, if_true, if_false]
  rw [rL_law_255 hX.2.1.s0]
  refine c_again hX h2.1 ?_
  intro n1 u1 sh1 F1 R1 A1 B1 ba1 ma1 hX1 fr1 hn1 hu1
  obtain ⟨hM1, hMS1, hs1, hxs1⟩ := BS_mid hB fr1
  simp only [up2_eq, va_rf, eq_self, or_true, true_or, Option.toList_some, Option.toList_none, List.cons_append, List.nil_append, if_true, if_false]
  simp only [rL_law_258, rL_law_258_n, nI_add, up2_eq, va_rf, eq_self, or_true, true_or, Option.toList_some, Option.toList_none, List.cons_append, List.nil_append, if_true, if_false]
  rw [rL_law_259 hM1.1]
  refine m_again hM1 hMS1 h2.1 ?_
  intro F2 A2 hMS2 fr2
  simp only [rL_law_262, up2_eq, va_rf, eq_self, or_true, true_or, Option.toList_some, Option.toList_none, List.cons_append, List.nil_append, if_true, if_false]
  exact hQ n1 u1 sh1 F2 R1 A2 B1 (BS_end hX1 hM1 hMS2 fr2 (k2_again h2) hs1 hbx hL hxs1) hn1 hu1
theorem lw_out (hB : BS x b L n xs sh F R A B T) (hi : i + 6 ≤ L) (hQ : ∀ n' u' sh' F' R' A' B', BS x b L n' xs sh' F' R' A' B' T → n' ≤ n + 8 → u' ≤ u + 5000 → rw_ 9 mL_law 878 [.ref b, .ref x, .ref (x + 78), .int (nI i)] [] (mkh n' u' sh' F' R' A' B') Q) : rw_ 9 mL_law 267 [.ref b, .ref x, .ref (x + 78), .int (nI i)] [] (mkh n u sh F R A B) Q := by
  obtain ⟨⟨ba, ma, hX⟩, hM, hMS, h2, ⟨hs, hbx, hL⟩, hxs⟩ := id hB
  simp only [rL_law_267, rL_law_267_n, rL_law_268, rL_law_268_n, rL_law_269, rL_law_270, rL_law_271, nI_add, up2_eq, va_rf, eq_self, or_true, true_or, Option.toList_some, Option.toList_none, List.cons_append, List.nil_append, if_true, if_false]
  rw [rL_law_272 hs (by decide) (by omega) (by omega), hxs _ (by omega)]
  rw [rL_law_273 hX.2.1.s0]
  refine c_out hX h2.1 ?_
  intro n1 u1 sh1 F1 R1 A1 B1 ba1 ma1 hX1 fr1 hn1 hu1
  obtain ⟨hM1, hMS1, hs1, hxs1⟩ := BS_mid hB fr1
  simp only [up2_eq, va_rf, eq_self, or_true, true_or, Option.toList_some, Option.toList_none, List.cons_append, List.nil_append, if_true, if_false]
  simp only [rL_law_276, rL_law_276_n, rL_law_277, rL_law_277_n, rL_law_278, rL_law_279, rL_law_280, nI_add, up2_eq, va_rf, eq_self, or_true, true_or, Option.toList_some, Option.toList_none, List.cons_append, List.nil_append, if_true, if_false]
  rw [rL_law_281 hs1 (by decide) (by omega) (by omega), hxs1 _ (by omega)]
  rw [rL_law_282 hM1.1]
  refine m_out hM1 hMS1 h2.1 ?_
  intro F2 A2 hMS2 fr2
  simp only [rL_law_285, up2_eq, va_rf, eq_self, or_true, true_or, Option.toList_some, Option.toList_none, List.cons_append, List.nil_append, if_true, if_false]
  exact hQ n1 u1 sh1 F2 R1 A2 B1 (BS_end hX1 hM1 hMS2 fr2 h2 hs1 hbx hL hxs1) hn1 hu1
theorem lw_piece (hB : BS x b L n xs sh F R A B T) (hi : i + 6 ≤ L) (hQ : ∀ n' u' sh' F' R' A' B', BS x b L n' xs sh' F' R' A' B' (s_piece T).2 → n' ≤ n + 8 → u' ≤ u + 5000 → rw_ 9 mL_law 878 [.ref b, .ref x, .ref (x + 78), .int (nI i)] [] (mkh n' u' sh' F' R' A' B') Q) : rw_ 9 mL_law 290 [.ref b, .ref x, .ref (x + 78), .int (nI i)] [] (mkh n u sh F R A B) Q := by
  obtain ⟨⟨ba, ma, hX⟩, hM, hMS, h2, ⟨hs, hbx, hL⟩, hxs⟩ := id hB
  simp only [rL_law_290, rL_law_290_n, nI_add, up2_eq, va_rf, eq_self, or_true, true_or, Option.toList_some, Option.toList_none, List.cons_append, List.nil_append, if_true, if_false]
  rw [rL_law_291 hX.2.1.s0]
  refine c_piece hX h2.1 ?_
  intro n1 u1 sh1 F1 R1 A1 B1 ba1 ma1 hX1 fr1 hn1 hu1
  obtain ⟨hM1, hMS1, hs1, hxs1⟩ := BS_mid hB fr1
  simp only [up2_eq, va_rf, eq_self, or_true, true_or, Option.toList_some, Option.toList_none, List.cons_append, List.nil_append, if_true, if_false]
  simp only [rL_law_294, rL_law_294_n, nI_add, up2_eq, va_rf, eq_self, or_true, true_or, Option.toList_some, Option.toList_none, List.cons_append, List.nil_append, if_true, if_false]
  rw [rL_law_295 hM1.1]
  refine m_piece hM1 hMS1 h2.1 ?_
  intro F2 A2 hMS2 fr2
  simp only [rL_law_298, up2_eq, va_rf, eq_self, or_true, true_or, Option.toList_some, Option.toList_none, List.cons_append, List.nil_append, if_true, if_false]
  exact hQ n1 u1 sh1 F2 R1 A2 B1 (BS_end hX1 hM1 hMS2 fr2 (k2_piece h2) hs1 hbx hL hxs1) hn1 hu1
theorem lw_book (hB : BS x b L n xs sh F R A B T) (hi : i + 6 ≤ L) (hQ : ∀ n' u' sh' F' R' A' B', BS x b L n' xs sh' F' R' A' B' (s_book T (xs (i + 1))).2 → n' ≤ n + 8 → u' ≤ u + 5000 → rw_ 9 mL_law 878 [.ref b, .ref x, .ref (x + 78), .int (nI i)] [] (mkh n' u' sh' F' R' A' B') Q) : rw_ 9 mL_law 303 [.ref b, .ref x, .ref (x + 78), .int (nI i)] [] (mkh n u sh F R A B) Q := by
  obtain ⟨⟨ba, ma, hX⟩, hM, hMS, h2, ⟨hs, hbx, hL⟩, hxs⟩ := id hB
  simp only [rL_law_303, rL_law_303_n, rL_law_304, rL_law_304_n, rL_law_305, rL_law_306, rL_law_307, nI_add, up2_eq, va_rf, eq_self, or_true, true_or, Option.toList_some, Option.toList_none, List.cons_append, List.nil_append, if_true, if_false]
  rw [rL_law_308 hs (by decide) (by omega) (by omega), hxs _ (by omega)]
  rw [rL_law_309 hX.2.1.s0]
  refine c_book hX h2.1 ?_
  intro n1 u1 sh1 F1 R1 A1 B1 ba1 ma1 hX1 fr1 hn1 hu1
  obtain ⟨hM1, hMS1, hs1, hxs1⟩ := BS_mid hB fr1
  simp only [up2_eq, va_rf, eq_self, or_true, true_or, Option.toList_some, Option.toList_none, List.cons_append, List.nil_append, if_true, if_false]
  simp only [rL_law_312, rL_law_312_n, rL_law_313, rL_law_313_n, rL_law_314, rL_law_315, rL_law_316, nI_add, up2_eq, va_rf, eq_self, or_true, true_or, Option.toList_some, Option.toList_none, List.cons_append, List.nil_append, if_true, if_false]
  rw [rL_law_317 hs1 (by decide) (by omega) (by omega), hxs1 _ (by omega)]
  rw [rL_law_318 hM1.1]
  refine m_book hM1 hMS1 h2.1 ?_
  intro F2 A2 hMS2 fr2
  simp only [rL_law_321, up2_eq, va_rf, eq_self, or_true, true_or, Option.toList_some, Option.toList_none, List.cons_append, List.nil_append, if_true, if_false]
  exact hQ n1 u1 sh1 F2 R1 A2 B1 (BS_end hX1 hM1 hMS2 fr2 (k2_book h2) hs1 hbx hL hxs1) hn1 hu1
theorem lw_about (hB : BS x b L n xs sh F R A B T) (hi : i + 6 ≤ L) (hQ : ∀ n' u' sh' F' R' A' B', BS x b L n' xs sh' F' R' A' B' T → n' ≤ n + 8 → u' ≤ u + 5000 → rw_ 9 mL_law 878 [.ref b, .ref x, .ref (x + 78), .int (nI i)] [] (mkh n' u' sh' F' R' A' B') Q) : rw_ 9 mL_law 326 [.ref b, .ref x, .ref (x + 78), .int (nI i)] [] (mkh n u sh F R A B) Q := by
  obtain ⟨⟨ba, ma, hX⟩, hM, hMS, h2, ⟨hs, hbx, hL⟩, hxs⟩ := id hB
  simp only [rL_law_326, rL_law_326_n, rL_law_327, rL_law_327_n, rL_law_328, rL_law_329, rL_law_330, nI_add, up2_eq, va_rf, eq_self, or_true, true_or, Option.toList_some, Option.toList_none, List.cons_append, List.nil_append, if_true, if_false]
  rw [rL_law_331 hs (by decide) (by omega) (by omega), hxs _ (by omega)]
  simp only [rL_law_332, rL_law_332_n, rL_law_333, rL_law_334, rL_law_335, nI_add, up2_eq, va_rf, eq_self, or_true, true_or, Option.toList_some, Option.toList_none, List.cons_append, List.nil_append, if_true, if_false]
  rw [rL_law_336 hs (by decide) (by omega) (by omega), hxs _ (by omega)]
  rw [rL_law_337 hX.2.1.s0]
  refine c_about hX h2.1 ?_
  intro n1 u1 sh1 F1 R1 A1 B1 ba1 ma1 hX1 fr1 hn1 hu1
  obtain ⟨hM1, hMS1, hs1, hxs1⟩ := BS_mid hB fr1
  simp only [up2_eq, va_rf, eq_self, or_true, true_or, Option.toList_some, Option.toList_none, List.cons_append, List.nil_append, if_true, if_false]
  simp only [rL_law_340, rL_law_340_n, rL_law_341, rL_law_341_n, rL_law_342, rL_law_343, rL_law_344, nI_add, up2_eq, va_rf, eq_self, or_true, true_or, Option.toList_some, Option.toList_none, List.cons_append, List.nil_append, if_true, if_false]
  rw [rL_law_345 hs1 (by decide) (by omega) (by omega), hxs1 _ (by omega)]
  simp only [rL_law_346, rL_law_346_n, rL_law_347, rL_law_348, rL_law_349, nI_add, up2_eq, va_rf, eq_self, or_true, true_or, Option.toList_some, Option.toList_none, List.cons_append, List.nil_append, if_true, if_false]
  rw [rL_law_350 hs1 (by decide) (by omega) (by omega), hxs1 _ (by omega)]
  rw [rL_law_351 hM1.1]
  refine m_about hM1 hMS1 h2.1 ?_
  intro F2 A2 hMS2 fr2
  simp only [rL_law_354, up2_eq, va_rf, eq_self, or_true, true_or, Option.toList_some, Option.toList_none, List.cons_append, List.nil_append, if_true, if_false]
  exact hQ n1 u1 sh1 F2 R1 A2 B1 (BS_end hX1 hM1 hMS2 fr2 h2 hs1 hbx hL hxs1) hn1 hu1
theorem lw_tell (hB : BS x b L n xs sh F R A B T) (hi : i + 6 ≤ L) (hQ : ∀ n' u' sh' F' R' A' B', BS x b L n' xs sh' F' R' A' B' (s_tell T (xs (i + 1)) (xs (i + 2))).2 → n' ≤ n + 8 → u' ≤ u + 5000 → rw_ 9 mL_law 878 [.ref b, .ref x, .ref (x + 78), .int (nI i)] [] (mkh n' u' sh' F' R' A' B') Q) : rw_ 9 mL_law 359 [.ref b, .ref x, .ref (x + 78), .int (nI i)] [] (mkh n u sh F R A B) Q := by
  obtain ⟨⟨ba, ma, hX⟩, hM, hMS, h2, ⟨hs, hbx, hL⟩, hxs⟩ := id hB
  simp only [rL_law_359, rL_law_359_n, rL_law_360, rL_law_360_n, rL_law_361, rL_law_362, rL_law_363, nI_add, up2_eq, va_rf, eq_self, or_true, true_or, Option.toList_some, Option.toList_none, List.cons_append, List.nil_append, if_true, if_false]
  rw [rL_law_364 hs (by decide) (by omega) (by omega), hxs _ (by omega)]
  simp only [rL_law_365, rL_law_365_n, rL_law_366, rL_law_367, rL_law_368, nI_add, up2_eq, va_rf, eq_self, or_true, true_or, Option.toList_some, Option.toList_none, List.cons_append, List.nil_append, if_true, if_false]
  rw [rL_law_369 hs (by decide) (by omega) (by omega), hxs _ (by omega)]
  rw [rL_law_370 hX.2.1.s0]
  refine c_tell hX h2.1 ?_
  intro n1 u1 sh1 F1 R1 A1 B1 ba1 ma1 hX1 fr1 hn1 hu1
  obtain ⟨hM1, hMS1, hs1, hxs1⟩ := BS_mid hB fr1
  simp only [up2_eq, va_rf, eq_self, or_true, true_or, Option.toList_some, Option.toList_none, List.cons_append, List.nil_append, if_true, if_false]
  simp only [rL_law_373, rL_law_373_n, rL_law_374, rL_law_374_n, rL_law_375, rL_law_376, rL_law_377, nI_add, up2_eq, va_rf, eq_self, or_true, true_or, Option.toList_some, Option.toList_none, List.cons_append, List.nil_append, if_true, if_false]
  rw [rL_law_378 hs1 (by decide) (by omega) (by omega), hxs1 _ (by omega)]
  simp only [rL_law_379, rL_law_379_n, rL_law_380, rL_law_381, rL_law_382, nI_add, up2_eq, va_rf, eq_self, or_true, true_or, Option.toList_some, Option.toList_none, List.cons_append, List.nil_append, if_true, if_false]
  rw [rL_law_383 hs1 (by decide) (by omega) (by omega), hxs1 _ (by omega)]
  rw [rL_law_384 hM1.1]
  refine m_tell hM1 hMS1 h2.1 ?_
  intro F2 A2 hMS2 fr2
  simp only [rL_law_387, up2_eq, va_rf, eq_self, or_true, true_or, Option.toList_some, Option.toList_none, List.cons_append, List.nil_append, if_true, if_false]
  exact hQ n1 u1 sh1 F2 R1 A2 B1 (BS_end hX1 hM1 hMS2 fr2 (k2_tell h2) hs1 hbx hL hxs1) hn1 hu1
theorem lw_isOf (hB : BS x b L n xs sh F R A B T) (hi : i + 6 ≤ L) (hQ : ∀ n' u' sh' F' R' A' B', BS x b L n' xs sh' F' R' A' B' T → n' ≤ n + 8 → u' ≤ u + 5000 → rw_ 9 mL_law 878 [.ref b, .ref x, .ref (x + 78), .int (nI i)] [] (mkh n' u' sh' F' R' A' B') Q) : rw_ 9 mL_law 392 [.ref b, .ref x, .ref (x + 78), .int (nI i)] [] (mkh n u sh F R A B) Q := by
  obtain ⟨⟨ba, ma, hX⟩, hM, hMS, h2, ⟨hs, hbx, hL⟩, hxs⟩ := id hB
  simp only [rL_law_392, rL_law_392_n, rL_law_393, rL_law_393_n, rL_law_394, rL_law_395, rL_law_396, nI_add, up2_eq, va_rf, eq_self, or_true, true_or, Option.toList_some, Option.toList_none, List.cons_append, List.nil_append, if_true, if_false]
  rw [rL_law_397 hs (by decide) (by omega) (by omega), hxs _ (by omega)]
  simp only [rL_law_398, rL_law_398_n, rL_law_399, rL_law_400, rL_law_401, nI_add, up2_eq, va_rf, eq_self, or_true, true_or, Option.toList_some, Option.toList_none, List.cons_append, List.nil_append, if_true, if_false]
  rw [rL_law_402 hs (by decide) (by omega) (by omega), hxs _ (by omega)]
  rw [rL_law_403 hX.2.1.s0]
  refine c_isOf hX h2.1 ?_
  intro n1 u1 sh1 F1 R1 A1 B1 ba1 ma1 hX1 fr1 hn1 hu1
  obtain ⟨hM1, hMS1, hs1, hxs1⟩ := BS_mid hB fr1
  simp only [up2_eq, va_rf, eq_self, or_true, true_or, Option.toList_some, Option.toList_none, List.cons_append, List.nil_append, if_true, if_false]
  simp only [rL_law_406, rL_law_406_n, rL_law_407, rL_law_407_n, rL_law_408, rL_law_409, rL_law_410, nI_add, up2_eq, va_rf, eq_self, or_true, true_or, Option.toList_some, Option.toList_none, List.cons_append, List.nil_append, if_true, if_false]
  rw [rL_law_411 hs1 (by decide) (by omega) (by omega), hxs1 _ (by omega)]
  simp only [rL_law_412, rL_law_412_n, rL_law_413, rL_law_414, rL_law_415, nI_add, up2_eq, va_rf, eq_self, or_true, true_or, Option.toList_some, Option.toList_none, List.cons_append, List.nil_append, if_true, if_false]
  rw [rL_law_416 hs1 (by decide) (by omega) (by omega), hxs1 _ (by omega)]
  rw [rL_law_417 hM1.1]
  refine m_isOf hM1 hMS1 h2.1 ?_
  intro F2 A2 hMS2 fr2
  simp only [rL_law_420, up2_eq, va_rf, eq_self, or_true, true_or, Option.toList_some, Option.toList_none, List.cons_append, List.nil_append, if_true, if_false]
  exact hQ n1 u1 sh1 F2 R1 A2 B1 (BS_end hX1 hM1 hMS2 fr2 h2 hs1 hbx hL hxs1) hn1 hu1
theorem lw_pack (hB : BS x b L n xs sh F R A B T) (hi : i + 6 ≤ L) (hQ : ∀ n' u' sh' F' R' A' B', BS x b L n' xs sh' F' R' A' B' (s_pack T (xs (i + 1))).2 → n' ≤ n + 8 → u' ≤ u + 5000 → rw_ 9 mL_law 878 [.ref b, .ref x, .ref (x + 78), .int (nI i)] [] (mkh n' u' sh' F' R' A' B') Q) : rw_ 9 mL_law 425 [.ref b, .ref x, .ref (x + 78), .int (nI i)] [] (mkh n u sh F R A B) Q := by
  obtain ⟨⟨ba, ma, hX⟩, hM, hMS, h2, ⟨hs, hbx, hL⟩, hxs⟩ := id hB
  simp only [rL_law_425, rL_law_425_n, rL_law_426, rL_law_426_n, rL_law_427, rL_law_428, rL_law_429, nI_add, up2_eq, va_rf, eq_self, or_true, true_or, Option.toList_some, Option.toList_none, List.cons_append, List.nil_append, if_true, if_false]
  rw [rL_law_430 hs (by decide) (by omega) (by omega), hxs _ (by omega)]
  rw [rL_law_431 hX.2.1.s0]
  refine c_pack hX h2.1 ?_
  intro n1 u1 sh1 F1 R1 A1 B1 ba1 ma1 hX1 fr1 hn1 hu1
  obtain ⟨hM1, hMS1, hs1, hxs1⟩ := BS_mid hB fr1
  simp only [up2_eq, va_rf, eq_self, or_true, true_or, Option.toList_some, Option.toList_none, List.cons_append, List.nil_append, if_true, if_false]
  simp only [rL_law_434, rL_law_434_n, rL_law_435, rL_law_435_n, rL_law_436, rL_law_437, rL_law_438, nI_add, up2_eq, va_rf, eq_self, or_true, true_or, Option.toList_some, Option.toList_none, List.cons_append, List.nil_append, if_true, if_false]
  rw [rL_law_439 hs1 (by decide) (by omega) (by omega), hxs1 _ (by omega)]
  rw [rL_law_440 hM1.1]
  refine m_pack hM1 hMS1 h2.1 ?_
  intro F2 A2 hMS2 fr2
  simp only [rL_law_443, up2_eq, va_rf, eq_self, or_true, true_or, Option.toList_some, Option.toList_none, List.cons_append, List.nil_append, if_true, if_false]
  exact hQ n1 u1 sh1 F2 R1 A2 B1 (BS_end hX1 hM1 hMS2 fr2 (k2_pack h2) hs1 hbx hL hxs1) hn1 hu1
theorem lw_greedy (hB : BS x b L n xs sh F R A B T) (hi : i + 6 ≤ L) (hQ : ∀ n' u' sh' F' R' A' B', BS x b L n' xs sh' F' R' A' B' (s_greedy T (xs (i + 1))).2 → n' ≤ n + 8 → u' ≤ u + 5000 → rw_ 9 mL_law 878 [.ref b, .ref x, .ref (x + 78), .int (nI i)] [] (mkh n' u' sh' F' R' A' B') Q) : rw_ 9 mL_law 448 [.ref b, .ref x, .ref (x + 78), .int (nI i)] [] (mkh n u sh F R A B) Q := by
  obtain ⟨⟨ba, ma, hX⟩, hM, hMS, h2, ⟨hs, hbx, hL⟩, hxs⟩ := id hB
  simp only [rL_law_448, rL_law_448_n, rL_law_449, rL_law_449_n, rL_law_450, rL_law_451, rL_law_452, nI_add, up2_eq, va_rf, eq_self, or_true, true_or, Option.toList_some, Option.toList_none, List.cons_append, List.nil_append, if_true, if_false]
  rw [rL_law_453 hs (by decide) (by omega) (by omega), hxs _ (by omega)]
  rw [rL_law_454 hX.2.1.s0]
  refine c_greedy hX h2.1 ?_
  intro n1 u1 sh1 F1 R1 A1 B1 ba1 ma1 hX1 fr1 hn1 hu1
  obtain ⟨hM1, hMS1, hs1, hxs1⟩ := BS_mid hB fr1
  simp only [up2_eq, va_rf, eq_self, or_true, true_or, Option.toList_some, Option.toList_none, List.cons_append, List.nil_append, if_true, if_false]
  simp only [rL_law_457, rL_law_457_n, rL_law_458, rL_law_458_n, rL_law_459, rL_law_460, rL_law_461, nI_add, up2_eq, va_rf, eq_self, or_true, true_or, Option.toList_some, Option.toList_none, List.cons_append, List.nil_append, if_true, if_false]
  rw [rL_law_462 hs1 (by decide) (by omega) (by omega), hxs1 _ (by omega)]
  rw [rL_law_463 hM1.1]
  refine m_greedy hM1 hMS1 h2.1 ?_
  intro F2 A2 hMS2 fr2
  simp only [rL_law_466, up2_eq, va_rf, eq_self, or_true, true_or, Option.toList_some, Option.toList_none, List.cons_append, List.nil_append, if_true, if_false]
  exact hQ n1 u1 sh1 F2 R1 A2 B1 (BS_end hX1 hM1 hMS2 fr2 (k2_greedy h2) hs1 hbx hL hxs1) hn1 hu1
theorem lw_bits (hB : BS x b L n xs sh F R A B T) (hi : i + 6 ≤ L) (hQ : ∀ n' u' sh' F' R' A' B', BS x b L n' xs sh' F' R' A' B' T → n' ≤ n + 8 → u' ≤ u + 5000 → rw_ 9 mL_law 878 [.ref b, .ref x, .ref (x + 78), .int (nI i)] [] (mkh n' u' sh' F' R' A' B') Q) : rw_ 9 mL_law 471 [.ref b, .ref x, .ref (x + 78), .int (nI i)] [] (mkh n u sh F R A B) Q := by
  obtain ⟨⟨ba, ma, hX⟩, hM, hMS, h2, ⟨hs, hbx, hL⟩, hxs⟩ := id hB
  simp only [rL_law_471, rL_law_471_n, nI_add, up2_eq, va_rf, eq_self, or_true, true_or, Option.toList_some, Option.toList_none, List.cons_append, List.nil_append, if_true, if_false]
  rw [rL_law_472 hX.2.1.s0]
  refine c_bits hX ?_
  intro n1 u1 sh1 F1 R1 A1 B1 ba1 ma1 hX1 fr1 hn1 hu1
  obtain ⟨hM1, hMS1, hs1, hxs1⟩ := BS_mid hB fr1
  simp only [up2_eq, va_rf, eq_self, or_true, true_or, Option.toList_some, Option.toList_none, List.cons_append, List.nil_append, if_true, if_false]
  simp only [rL_law_475, rL_law_475_n, nI_add, up2_eq, va_rf, eq_self, or_true, true_or, Option.toList_some, Option.toList_none, List.cons_append, List.nil_append, if_true, if_false]
  rw [rL_law_476 hM1.1]
  refine m_bits hM1 hMS1 h2.1 ?_
  intro F2 A2 hMS2 fr2
  simp only [rL_law_479, up2_eq, va_rf, eq_self, or_true, true_or, Option.toList_some, Option.toList_none, List.cons_append, List.nil_append, if_true, if_false]
  exact hQ n1 u1 sh1 F2 R1 A2 B1 (BS_end hX1 hM1 hMS2 fr2 h2 hs1 hbx hL hxs1) hn1 hu1
theorem lw_part (hB : BS x b L n xs sh F R A B T) (hi : i + 6 ≤ L) (hQ : ∀ n' u' sh' F' R' A' B', BS x b L n' xs sh' F' R' A' B' T → n' ≤ n + 8 → u' ≤ u + 5000 → rw_ 9 mL_law 878 [.ref b, .ref x, .ref (x + 78), .int (nI i)] [] (mkh n' u' sh' F' R' A' B') Q) : rw_ 9 mL_law 484 [.ref b, .ref x, .ref (x + 78), .int (nI i)] [] (mkh n u sh F R A B) Q := by
  obtain ⟨⟨ba, ma, hX⟩, hM, hMS, h2, ⟨hs, hbx, hL⟩, hxs⟩ := id hB
  simp only [rL_law_484, rL_law_484_n, rL_law_485, rL_law_485_n, rL_law_486, rL_law_487, rL_law_488, nI_add, up2_eq, va_rf, eq_self, or_true, true_or, Option.toList_some, Option.toList_none, List.cons_append, List.nil_append, if_true, if_false]
  rw [rL_law_489 hs (by decide) (by omega) (by omega), hxs _ (by omega)]
  simp only [rL_law_490, rL_law_490_n, rL_law_491, rL_law_492, rL_law_493, nI_add, up2_eq, va_rf, eq_self, or_true, true_or, Option.toList_some, Option.toList_none, List.cons_append, List.nil_append, if_true, if_false]
  rw [rL_law_494 hs (by decide) (by omega) (by omega), hxs _ (by omega)]
  rw [rL_law_495 hX.2.1.s0]
  refine c_part hX h2.1 ?_
  intro n1 u1 sh1 F1 R1 A1 B1 ba1 ma1 hX1 fr1 hn1 hu1
  obtain ⟨hM1, hMS1, hs1, hxs1⟩ := BS_mid hB fr1
  simp only [up2_eq, va_rf, eq_self, or_true, true_or, Option.toList_some, Option.toList_none, List.cons_append, List.nil_append, if_true, if_false]
  simp only [rL_law_498, rL_law_498_n, rL_law_499, rL_law_499_n, rL_law_500, rL_law_501, rL_law_502, nI_add, up2_eq, va_rf, eq_self, or_true, true_or, Option.toList_some, Option.toList_none, List.cons_append, List.nil_append, if_true, if_false]
  rw [rL_law_503 hs1 (by decide) (by omega) (by omega), hxs1 _ (by omega)]
  simp only [rL_law_504, rL_law_504_n, rL_law_505, rL_law_506, rL_law_507, nI_add, up2_eq, va_rf, eq_self, or_true, true_or, Option.toList_some, Option.toList_none, List.cons_append, List.nil_append, if_true, if_false]
  rw [rL_law_508 hs1 (by decide) (by omega) (by omega), hxs1 _ (by omega)]
  rw [rL_law_509 hM1.1]
  refine m_part hM1 hMS1 h2.1 ?_
  intro F2 A2 hMS2 fr2
  simp only [rL_law_512, up2_eq, va_rf, eq_self, or_true, true_or, Option.toList_some, Option.toList_none, List.cons_append, List.nil_append, if_true, if_false]
  exact hQ n1 u1 sh1 F2 R1 A2 B1 (BS_end hX1 hM1 hMS2 fr2 h2 hs1 hbx hL hxs1) hn1 hu1
theorem lw_rest (hB : BS x b L n xs sh F R A B T) (hi : i + 6 ≤ L) (hQ : ∀ n' u' sh' F' R' A' B', BS x b L n' xs sh' F' R' A' B' T → n' ≤ n + 8 → u' ≤ u + 5000 → rw_ 9 mL_law 878 [.ref b, .ref x, .ref (x + 78), .int (nI i)] [] (mkh n' u' sh' F' R' A' B') Q) : rw_ 9 mL_law 517 [.ref b, .ref x, .ref (x + 78), .int (nI i)] [] (mkh n u sh F R A B) Q := by
  obtain ⟨⟨ba, ma, hX⟩, hM, hMS, h2, ⟨hs, hbx, hL⟩, hxs⟩ := id hB
  simp only [rL_law_517, rL_law_517_n, rL_law_518, rL_law_518_n, rL_law_519, rL_law_520, rL_law_521, nI_add, up2_eq, va_rf, eq_self, or_true, true_or, Option.toList_some, Option.toList_none, List.cons_append, List.nil_append, if_true, if_false]
  rw [rL_law_522 hs (by decide) (by omega) (by omega), hxs _ (by omega)]
  rw [rL_law_523 hX.2.1.s0]
  refine c_rest hX h2.1 ?_
  intro n1 u1 sh1 F1 R1 A1 B1 ba1 ma1 hX1 fr1 hn1 hu1
  obtain ⟨hM1, hMS1, hs1, hxs1⟩ := BS_mid hB fr1
  simp only [up2_eq, va_rf, eq_self, or_true, true_or, Option.toList_some, Option.toList_none, List.cons_append, List.nil_append, if_true, if_false]
  simp only [rL_law_526, rL_law_526_n, rL_law_527, rL_law_527_n, rL_law_528, rL_law_529, rL_law_530, nI_add, up2_eq, va_rf, eq_self, or_true, true_or, Option.toList_some, Option.toList_none, List.cons_append, List.nil_append, if_true, if_false]
  rw [rL_law_531 hs1 (by decide) (by omega) (by omega), hxs1 _ (by omega)]
  rw [rL_law_532 hM1.1]
  refine m_rest hM1 hMS1 h2.1 ?_
  intro F2 A2 hMS2 fr2
  simp only [rL_law_535, up2_eq, va_rf, eq_self, or_true, true_or, Option.toList_some, Option.toList_none, List.cons_append, List.nil_append, if_true, if_false]
  exact hQ n1 u1 sh1 F2 R1 A2 B1 (BS_end hX1 hM1 hMS2 fr2 h2 hs1 hbx hL hxs1) hn1 hu1
theorem lw_unpack (hB : BS x b L n xs sh F R A B T) (hi : i + 6 ≤ L) (hQ : ∀ n' u' sh' F' R' A' B', BS x b L n' xs sh' F' R' A' B' (s_unpack T).2 → n' ≤ n + 8 → u' ≤ u + 5000 → rw_ 9 mL_law 878 [.ref b, .ref x, .ref (x + 78), .int (nI i)] [] (mkh n' u' sh' F' R' A' B') Q) : rw_ 9 mL_law 540 [.ref b, .ref x, .ref (x + 78), .int (nI i)] [] (mkh n u sh F R A B) Q := by
  obtain ⟨⟨ba, ma, hX⟩, hM, hMS, h2, ⟨hs, hbx, hL⟩, hxs⟩ := id hB
  simp only [rL_law_540, rL_law_540_n, nI_add, up2_eq, va_rf, eq_self, or_true, true_or, Option.toList_some, Option.toList_none, List.cons_append, List.nil_append, if_true, if_false]
  rw [rL_law_541 hX.2.1.s0]
  refine c_unpack hX h2.1 ?_
  intro n1 u1 sh1 F1 R1 A1 B1 ba1 ma1 hX1 fr1 hn1 hu1
  obtain ⟨hM1, hMS1, hs1, hxs1⟩ := BS_mid hB fr1
  simp only [up2_eq, va_rf, eq_self, or_true, true_or, Option.toList_some, Option.toList_none, List.cons_append, List.nil_append, if_true, if_false]
  simp only [rL_law_544, rL_law_544_n, nI_add, up2_eq, va_rf, eq_self, or_true, true_or, Option.toList_some, Option.toList_none, List.cons_append, List.nil_append, if_true, if_false]
  rw [rL_law_545 hM1.1]
  refine m_unpack hM1 hMS1 h2.1 ?_
  intro F2 A2 hMS2 fr2
  simp only [rL_law_548, up2_eq, va_rf, eq_self, or_true, true_or, Option.toList_some, Option.toList_none, List.cons_append, List.nil_append, if_true, if_false]
  exact hQ n1 u1 sh1 F2 R1 A2 B1 (BS_end hX1 hM1 hMS2 fr2 (k2_unpack h2) hs1 hbx hL hxs1) hn1 hu1
theorem lw_fault (hB : BS x b L n xs sh F R A B T) (hi : i + 6 ≤ L) (hQ : ∀ n' u' sh' F' R' A' B', BS x b L n' xs sh' F' R' A' B' T → n' ≤ n + 8 → u' ≤ u + 5000 → rw_ 9 mL_law 878 [.ref b, .ref x, .ref (x + 78), .int (nI i)] [] (mkh n' u' sh' F' R' A' B') Q) : rw_ 9 mL_law 553 [.ref b, .ref x, .ref (x + 78), .int (nI i)] [] (mkh n u sh F R A B) Q := by
  obtain ⟨⟨ba, ma, hX⟩, hM, hMS, h2, ⟨hs, hbx, hL⟩, hxs⟩ := id hB
  simp only [rL_law_553, rL_law_553_n, nI_add, up2_eq, va_rf, eq_self, or_true, true_or, Option.toList_some, Option.toList_none, List.cons_append, List.nil_append, if_true, if_false]
  rw [rL_law_554 hX.2.1.s0]
  refine c_fault hX ?_
  intro n1 u1 sh1 F1 R1 A1 B1 ba1 ma1 hX1 fr1 hn1 hu1
  obtain ⟨hM1, hMS1, hs1, hxs1⟩ := BS_mid hB fr1
  simp only [up2_eq, va_rf, eq_self, or_true, true_or, Option.toList_some, Option.toList_none, List.cons_append, List.nil_append, if_true, if_false]
  simp only [rL_law_557, rL_law_557_n, nI_add, up2_eq, va_rf, eq_self, or_true, true_or, Option.toList_some, Option.toList_none, List.cons_append, List.nil_append, if_true, if_false]
  rw [rL_law_558 hM1.1]
  refine m_fault hM1 hMS1 h2.1 ?_
  intro F2 A2 hMS2 fr2
  simp only [rL_law_561, up2_eq, va_rf, eq_self, or_true, true_or, Option.toList_some, Option.toList_none, List.cons_append, List.nil_append, if_true, if_false]
  exact hQ n1 u1 sh1 F2 R1 A2 B1 (BS_end hX1 hM1 hMS2 fr2 h2 hs1 hbx hL hxs1) hn1 hu1
theorem lw_sample (hB : BS x b L n xs sh F R A B T) (hi : i + 6 ≤ L) (hQ : ∀ n' u' sh' F' R' A' B', BS x b L n' xs sh' F' R' A' B' (s_sample T).2 → n' ≤ n + 8 → u' ≤ u + 5000 → rw_ 9 mL_law 878 [.ref b, .ref x, .ref (x + 78), .int (nI i)] [] (mkh n' u' sh' F' R' A' B') Q) : rw_ 9 mL_law 566 [.ref b, .ref x, .ref (x + 78), .int (nI i)] [] (mkh n u sh F R A B) Q := by
  obtain ⟨⟨ba, ma, hX⟩, hM, hMS, h2, ⟨hs, hbx, hL⟩, hxs⟩ := id hB
  simp only [rL_law_566, rL_law_566_n, nI_add, up2_eq, va_rf, eq_self, or_true, true_or, Option.toList_some, Option.toList_none, List.cons_append, List.nil_append, if_true, if_false]
  rw [rL_law_567 hX.2.1.s0]
  refine c_sample hX h2.1 ?_
  intro n1 u1 sh1 F1 R1 A1 B1 ba1 ma1 hX1 fr1 hn1 hu1
  obtain ⟨hM1, hMS1, hs1, hxs1⟩ := BS_mid hB fr1
  simp only [up2_eq, va_rf, eq_self, or_true, true_or, Option.toList_some, Option.toList_none, List.cons_append, List.nil_append, if_true, if_false]
  simp only [rL_law_570, rL_law_570_n, nI_add, up2_eq, va_rf, eq_self, or_true, true_or, Option.toList_some, Option.toList_none, List.cons_append, List.nil_append, if_true, if_false]
  rw [rL_law_571 hM1.1]
  refine m_sample hM1 hMS1 h2.1 ?_
  intro F2 A2 hMS2 fr2
  simp only [rL_law_574, up2_eq, va_rf, eq_self, or_true, true_or, Option.toList_some, Option.toList_none, List.cons_append, List.nil_append, if_true, if_false]
  exact hQ n1 u1 sh1 F2 R1 A2 B1 (BS_end hX1 hM1 hMS2 fr2 (k2_sample h2) hs1 hbx hL hxs1) hn1 hu1
theorem lw_forget (hB : BS x b L n xs sh F R A B T) (hi : i + 6 ≤ L) (hQ : ∀ n' u' sh' F' R' A' B', BS x b L n' xs sh' F' R' A' B' (up2 T.1 6 0 0, T.2) → n' ≤ n + 8 → u' ≤ u + 5000 → rw_ 9 mL_law 878 [.ref b, .ref x, .ref (x + 78), .int (nI i)] [] (mkh n' u' sh' F' R' A' B') Q) : rw_ 9 mL_law 579 [.ref b, .ref x, .ref (x + 78), .int (nI i)] [] (mkh n u sh F R A B) Q := by
  obtain ⟨⟨ba, ma, hX⟩, hM, hMS, h2, ⟨hs, hbx, hL⟩, hxs⟩ := id hB
  simp only [rL_law_579, rL_law_579_n, nI_add, up2_eq, va_rf, eq_self, or_true, true_or, Option.toList_some, Option.toList_none, List.cons_append, List.nil_append, if_true, if_false]
  rw [rL_law_580 hX.2.1.s0]
  refine c_forget hX ?_
  intro n1 u1 sh1 F1 R1 A1 B1 ba1 ma1 hX1 fr1 hn1 hu1
  obtain ⟨hM1, hMS1, hs1, hxs1⟩ := BS_mid hB fr1
  simp only [up2_eq, va_rf, eq_self, or_true, true_or, Option.toList_some, Option.toList_none, List.cons_append, List.nil_append, if_true, if_false]
  simp only [rL_law_583, rL_law_583_n, nI_add, up2_eq, va_rf, eq_self, or_true, true_or, Option.toList_some, Option.toList_none, List.cons_append, List.nil_append, if_true, if_false]
  rw [rL_law_584 hM1.1]
  refine m_forget hM1 hMS1 h2.1 ?_
  intro F2 A2 hMS2 fr2
  simp only [rL_law_587, up2_eq, va_rf, eq_self, or_true, true_or, Option.toList_some, Option.toList_none, List.cons_append, List.nil_append, if_true, if_false]
  exact hQ n1 u1 sh1 F2 R1 A2 B1 (BS_end hX1 hM1 hMS2 fr2 (k2_forget h2) hs1 hbx hL hxs1) hn1 hu1
theorem lw_train (hB : BS x b L n xs sh F R A B T) (hi : i + 6 ≤ L) (hQ : ∀ n' u' sh' F' R' A' B', BS x b L n' xs sh' F' R' A' B' (s_train T (xs (i + 1)) (xs (i + 2))).2 → n' ≤ n + 8 → u' ≤ u + 5000 → rw_ 9 mL_law 878 [.ref b, .ref x, .ref (x + 78), .int (nI i)] [] (mkh n' u' sh' F' R' A' B') Q) : rw_ 9 mL_law 592 [.ref b, .ref x, .ref (x + 78), .int (nI i)] [] (mkh n u sh F R A B) Q := by
  obtain ⟨⟨ba, ma, hX⟩, hM, hMS, h2, ⟨hs, hbx, hL⟩, hxs⟩ := id hB
  simp only [rL_law_592, rL_law_592_n, rL_law_593, rL_law_593_n, rL_law_594, rL_law_595, rL_law_596, nI_add, up2_eq, va_rf, eq_self, or_true, true_or, Option.toList_some, Option.toList_none, List.cons_append, List.nil_append, if_true, if_false]
  rw [rL_law_597 hs (by decide) (by omega) (by omega), hxs _ (by omega)]
  simp only [rL_law_598, rL_law_598_n, rL_law_599, rL_law_600, rL_law_601, nI_add, up2_eq, va_rf, eq_self, or_true, true_or, Option.toList_some, Option.toList_none, List.cons_append, List.nil_append, if_true, if_false]
  rw [rL_law_602 hs (by decide) (by omega) (by omega), hxs _ (by omega)]
  rw [rL_law_603 hX.2.1.s0]
  refine c_train hX h2.1 ?_
  intro n1 u1 sh1 F1 R1 A1 B1 ba1 ma1 hX1 fr1 hn1 hu1
  obtain ⟨hM1, hMS1, hs1, hxs1⟩ := BS_mid hB fr1
  simp only [up2_eq, va_rf, eq_self, or_true, true_or, Option.toList_some, Option.toList_none, List.cons_append, List.nil_append, if_true, if_false]
  simp only [rL_law_606, rL_law_606_n, rL_law_607, rL_law_607_n, rL_law_608, rL_law_609, rL_law_610, nI_add, up2_eq, va_rf, eq_self, or_true, true_or, Option.toList_some, Option.toList_none, List.cons_append, List.nil_append, if_true, if_false]
  rw [rL_law_611 hs1 (by decide) (by omega) (by omega), hxs1 _ (by omega)]
  simp only [rL_law_612, rL_law_612_n, rL_law_613, rL_law_614, rL_law_615, nI_add, up2_eq, va_rf, eq_self, or_true, true_or, Option.toList_some, Option.toList_none, List.cons_append, List.nil_append, if_true, if_false]
  rw [rL_law_616 hs1 (by decide) (by omega) (by omega), hxs1 _ (by omega)]
  rw [rL_law_617 hM1.1]
  refine m_train hM1 hMS1 h2.1 ?_
  intro F2 A2 hMS2 fr2
  simp only [rL_law_620, up2_eq, va_rf, eq_self, or_true, true_or, Option.toList_some, Option.toList_none, List.cons_append, List.nil_append, if_true, if_false]
  exact hQ n1 u1 sh1 F2 R1 A2 B1 (BS_end hX1 hM1 hMS2 fr2 (k2_train h2) hs1 hbx hL hxs1) hn1 hu1
theorem lw_gained (hB : BS x b L n xs sh F R A B T) (hi : i + 6 ≤ L) (hQ : ∀ n' u' sh' F' R' A' B', BS x b L n' xs sh' F' R' A' B' T → n' ≤ n + 8 → u' ≤ u + 5000 → rw_ 9 mL_law 878 [.ref b, .ref x, .ref (x + 78), .int (nI i)] [] (mkh n' u' sh' F' R' A' B') Q) : rw_ 9 mL_law 625 [.ref b, .ref x, .ref (x + 78), .int (nI i)] [] (mkh n u sh F R A B) Q := by
  obtain ⟨⟨ba, ma, hX⟩, hM, hMS, h2, ⟨hs, hbx, hL⟩, hxs⟩ := id hB
  simp only [rL_law_625, rL_law_625_n, rL_law_626, rL_law_626_n, rL_law_627, rL_law_628, rL_law_629, nI_add, up2_eq, va_rf, eq_self, or_true, true_or, Option.toList_some, Option.toList_none, List.cons_append, List.nil_append, if_true, if_false]
  rw [rL_law_630 hs (by decide) (by omega) (by omega), hxs _ (by omega)]
  rw [rL_law_631 hX.2.1.s0]
  refine c_gained hX h2.1 ?_
  intro n1 u1 sh1 F1 R1 A1 B1 ba1 ma1 hX1 fr1 hn1 hu1
  obtain ⟨hM1, hMS1, hs1, hxs1⟩ := BS_mid hB fr1
  simp only [up2_eq, va_rf, eq_self, or_true, true_or, Option.toList_some, Option.toList_none, List.cons_append, List.nil_append, if_true, if_false]
  simp only [rL_law_634, rL_law_634_n, rL_law_635, rL_law_635_n, rL_law_636, rL_law_637, rL_law_638, nI_add, up2_eq, va_rf, eq_self, or_true, true_or, Option.toList_some, Option.toList_none, List.cons_append, List.nil_append, if_true, if_false]
  rw [rL_law_639 hs1 (by decide) (by omega) (by omega), hxs1 _ (by omega)]
  rw [rL_law_640 hM1.1]
  refine m_gained hM1 hMS1 h2.1 ?_
  intro F2 A2 hMS2 fr2
  simp only [rL_law_643, up2_eq, va_rf, eq_self, or_true, true_or, Option.toList_some, Option.toList_none, List.cons_append, List.nil_append, if_true, if_false]
  exact hQ n1 u1 sh1 F2 R1 A2 B1 (BS_end hX1 hM1 hMS2 fr2 h2 hs1 hbx hL hxs1) hn1 hu1
theorem lw_price (hB : BS x b L n xs sh F R A B T) (hi : i + 6 ≤ L) (hQ : ∀ n' u' sh' F' R' A' B', BS x b L n' xs sh' F' R' A' B' T → n' ≤ n + 8 → u' ≤ u + 5000 → rw_ 9 mL_law 878 [.ref b, .ref x, .ref (x + 78), .int (nI i)] [] (mkh n' u' sh' F' R' A' B') Q) : rw_ 9 mL_law 648 [.ref b, .ref x, .ref (x + 78), .int (nI i)] [] (mkh n u sh F R A B) Q := by
  obtain ⟨⟨ba, ma, hX⟩, hM, hMS, h2, ⟨hs, hbx, hL⟩, hxs⟩ := id hB
  simp only [rL_law_648, rL_law_648_n, rL_law_649, rL_law_649_n, rL_law_650, rL_law_651, rL_law_652, nI_add, up2_eq, va_rf, eq_self, or_true, true_or, Option.toList_some, Option.toList_none, List.cons_append, List.nil_append, if_true, if_false]
  rw [rL_law_653 hs (by decide) (by omega) (by omega), hxs _ (by omega)]
  rw [rL_law_654 hX.2.1.s0]
  refine c_price hX h2.1 ?_
  intro n1 u1 sh1 F1 R1 A1 B1 ba1 ma1 hX1 fr1 hn1 hu1
  obtain ⟨hM1, hMS1, hs1, hxs1⟩ := BS_mid hB fr1
  simp only [up2_eq, va_rf, eq_self, or_true, true_or, Option.toList_some, Option.toList_none, List.cons_append, List.nil_append, if_true, if_false]
  simp only [rL_law_657, rL_law_657_n, rL_law_658, rL_law_658_n, rL_law_659, rL_law_660, rL_law_661, nI_add, up2_eq, va_rf, eq_self, or_true, true_or, Option.toList_some, Option.toList_none, List.cons_append, List.nil_append, if_true, if_false]
  rw [rL_law_662 hs1 (by decide) (by omega) (by omega), hxs1 _ (by omega)]
  rw [rL_law_663 hM1.1]
  refine m_price hM1 hMS1 h2.1 ?_
  intro F2 A2 hMS2 fr2
  simp only [rL_law_666, up2_eq, va_rf, eq_self, or_true, true_or, Option.toList_some, Option.toList_none, List.cons_append, List.nil_append, if_true, if_false]
  exact hQ n1 u1 sh1 F2 R1 A2 B1 (BS_end hX1 hM1 hMS2 fr2 h2 hs1 hbx hL hxs1) hn1 hu1
theorem lw_offer (hB : BS x b L n xs sh F R A B T) (hi : i + 6 ≤ L) (hQ : ∀ n' u' sh' F' R' A' B', BS x b L n' xs sh' F' R' A' B' (s_offer T (xs (i + 1))).2 → n' ≤ n + 8 → u' ≤ u + 5000 → rw_ 9 mL_law 878 [.ref b, .ref x, .ref (x + 78), .int (nI i)] [] (mkh n' u' sh' F' R' A' B') Q) : rw_ 9 mL_law 671 [.ref b, .ref x, .ref (x + 78), .int (nI i)] [] (mkh n u sh F R A B) Q := by
  obtain ⟨⟨ba, ma, hX⟩, hM, hMS, h2, ⟨hs, hbx, hL⟩, hxs⟩ := id hB
  simp only [rL_law_671, rL_law_671_n, rL_law_672, rL_law_672_n, rL_law_673, rL_law_674, rL_law_675, nI_add, up2_eq, va_rf, eq_self, or_true, true_or, Option.toList_some, Option.toList_none, List.cons_append, List.nil_append, if_true, if_false]
  rw [rL_law_676 hs (by decide) (by omega) (by omega), hxs _ (by omega)]
  rw [rL_law_677 hX.2.1.s0]
  refine c_offer hX h2.1 ?_
  intro n1 u1 sh1 F1 R1 A1 B1 ba1 ma1 hX1 fr1 hn1 hu1
  obtain ⟨hM1, hMS1, hs1, hxs1⟩ := BS_mid hB fr1
  simp only [up2_eq, va_rf, eq_self, or_true, true_or, Option.toList_some, Option.toList_none, List.cons_append, List.nil_append, if_true, if_false]
  simp only [rL_law_680, rL_law_680_n, rL_law_681, rL_law_681_n, rL_law_682, rL_law_683, rL_law_684, nI_add, up2_eq, va_rf, eq_self, or_true, true_or, Option.toList_some, Option.toList_none, List.cons_append, List.nil_append, if_true, if_false]
  rw [rL_law_685 hs1 (by decide) (by omega) (by omega), hxs1 _ (by omega)]
  rw [rL_law_686 hM1.1]
  refine m_offer hM1 hMS1 h2.1 ?_
  intro F2 A2 hMS2 fr2
  simp only [rL_law_689, up2_eq, va_rf, eq_self, or_true, true_or, Option.toList_some, Option.toList_none, List.cons_append, List.nil_append, if_true, if_false]
  exact hQ n1 u1 sh1 F2 R1 A2 B1 (BS_end hX1 hM1 hMS2 fr2 (k2_offer h2) hs1 hbx hL hxs1) hn1 hu1
theorem lw_send (hB : BS x b L n xs sh F R A B T) (hi : i + 6 ≤ L) (hQ : ∀ n' u' sh' F' R' A' B', BS x b L n' xs sh' F' R' A' B' (s_send T (xs (i + 1))).2 → n' ≤ n + 8 → u' ≤ u + 5000 → rw_ 9 mL_law 878 [.ref b, .ref x, .ref (x + 78), .int (nI i)] [] (mkh n' u' sh' F' R' A' B') Q) : rw_ 9 mL_law 694 [.ref b, .ref x, .ref (x + 78), .int (nI i)] [] (mkh n u sh F R A B) Q := by
  obtain ⟨⟨ba, ma, hX⟩, hM, hMS, h2, ⟨hs, hbx, hL⟩, hxs⟩ := id hB
  simp only [rL_law_694, rL_law_694_n, rL_law_695, rL_law_695_n, rL_law_696, rL_law_697, rL_law_698, nI_add, up2_eq, va_rf, eq_self, or_true, true_or, Option.toList_some, Option.toList_none, List.cons_append, List.nil_append, if_true, if_false]
  rw [rL_law_699 hs (by decide) (by omega) (by omega), hxs _ (by omega)]
  rw [rL_law_700 hX.2.1.s0]
  refine c_send hX h2.1 ?_
  intro n1 u1 sh1 F1 R1 A1 B1 ba1 ma1 hX1 fr1 hn1 hu1
  obtain ⟨hM1, hMS1, hs1, hxs1⟩ := BS_mid hB fr1
  simp only [up2_eq, va_rf, eq_self, or_true, true_or, Option.toList_some, Option.toList_none, List.cons_append, List.nil_append, if_true, if_false]
  simp only [rL_law_703, rL_law_703_n, rL_law_704, rL_law_704_n, rL_law_705, rL_law_706, rL_law_707, nI_add, up2_eq, va_rf, eq_self, or_true, true_or, Option.toList_some, Option.toList_none, List.cons_append, List.nil_append, if_true, if_false]
  rw [rL_law_708 hs1 (by decide) (by omega) (by omega), hxs1 _ (by omega)]
  rw [rL_law_709 hM1.1]
  refine m_send hM1 hMS1 h2.1 ?_
  intro F2 A2 hMS2 fr2
  simp only [rL_law_712, up2_eq, va_rf, eq_self, or_true, true_or, Option.toList_some, Option.toList_none, List.cons_append, List.nil_append, if_true, if_false]
  exact hQ n1 u1 sh1 F2 R1 A2 B1 (BS_end hX1 hM1 hMS2 fr2 (k2_send h2) hs1 hbx hL hxs1) hn1 hu1
theorem lw_over (hB : BS x b L n xs sh F R A B T) (hi : i + 6 ≤ L) (hQ : ∀ n' u' sh' F' R' A' B', BS x b L n' xs sh' F' R' A' B' (s_over T (xs (i + 1))).2 → n' ≤ n + 8 → u' ≤ u + 5000 → rw_ 9 mL_law 878 [.ref b, .ref x, .ref (x + 78), .int (nI i)] [] (mkh n' u' sh' F' R' A' B') Q) : rw_ 9 mL_law 717 [.ref b, .ref x, .ref (x + 78), .int (nI i)] [] (mkh n u sh F R A B) Q := by
  obtain ⟨⟨ba, ma, hX⟩, hM, hMS, h2, ⟨hs, hbx, hL⟩, hxs⟩ := id hB
  simp only [rL_law_717, rL_law_717_n, rL_law_718, rL_law_718_n, rL_law_719, rL_law_720, rL_law_721, nI_add, up2_eq, va_rf, eq_self, or_true, true_or, Option.toList_some, Option.toList_none, List.cons_append, List.nil_append, if_true, if_false]
  rw [rL_law_722 hs (by decide) (by omega) (by omega), hxs _ (by omega)]
  rw [rL_law_723 hX.2.1.s0]
  refine c_over hX h2.1 ?_
  intro n1 u1 sh1 F1 R1 A1 B1 ba1 ma1 hX1 fr1 hn1 hu1
  obtain ⟨hM1, hMS1, hs1, hxs1⟩ := BS_mid hB fr1
  simp only [up2_eq, va_rf, eq_self, or_true, true_or, Option.toList_some, Option.toList_none, List.cons_append, List.nil_append, if_true, if_false]
  simp only [rL_law_726, rL_law_726_n, rL_law_727, rL_law_727_n, rL_law_728, rL_law_729, rL_law_730, nI_add, up2_eq, va_rf, eq_self, or_true, true_or, Option.toList_some, Option.toList_none, List.cons_append, List.nil_append, if_true, if_false]
  rw [rL_law_731 hs1 (by decide) (by omega) (by omega), hxs1 _ (by omega)]
  rw [rL_law_732 hM1.1]
  refine m_over hM1 hMS1 h2.1 ?_
  intro F2 A2 hMS2 fr2
  simp only [rL_law_735, up2_eq, va_rf, eq_self, or_true, true_or, Option.toList_some, Option.toList_none, List.cons_append, List.nil_append, if_true, if_false]
  exact hQ n1 u1 sh1 F2 R1 A2 B1 (BS_end hX1 hM1 hMS2 fr2 (k2_over h2) hs1 hbx hL hxs1) hn1 hu1
theorem lw_deliver (hB : BS x b L n xs sh F R A B T) (hi : i + 6 ≤ L) (hQ : ∀ n' u' sh' F' R' A' B', BS x b L n' xs sh' F' R' A' B' (s_deliver T (xs (i + 1))).2 → n' ≤ n + 8 → u' ≤ u + 5000 → rw_ 9 mL_law 878 [.ref b, .ref x, .ref (x + 78), .int (nI i)] [] (mkh n' u' sh' F' R' A' B') Q) : rw_ 9 mL_law 740 [.ref b, .ref x, .ref (x + 78), .int (nI i)] [] (mkh n u sh F R A B) Q := by
  obtain ⟨⟨ba, ma, hX⟩, hM, hMS, h2, ⟨hs, hbx, hL⟩, hxs⟩ := id hB
  simp only [rL_law_740, rL_law_740_n, rL_law_741, rL_law_741_n, rL_law_742, rL_law_743, rL_law_744, nI_add, up2_eq, va_rf, eq_self, or_true, true_or, Option.toList_some, Option.toList_none, List.cons_append, List.nil_append, if_true, if_false]
  rw [rL_law_745 hs (by decide) (by omega) (by omega), hxs _ (by omega)]
  rw [rL_law_746 hX.2.1.s0]
  refine c_deliver hX h2.1 ?_
  intro n1 u1 sh1 F1 R1 A1 B1 ba1 ma1 hX1 fr1 hn1 hu1
  obtain ⟨hM1, hMS1, hs1, hxs1⟩ := BS_mid hB fr1
  simp only [up2_eq, va_rf, eq_self, or_true, true_or, Option.toList_some, Option.toList_none, List.cons_append, List.nil_append, if_true, if_false]
  simp only [rL_law_749, rL_law_749_n, rL_law_750, rL_law_750_n, rL_law_751, rL_law_752, rL_law_753, nI_add, up2_eq, va_rf, eq_self, or_true, true_or, Option.toList_some, Option.toList_none, List.cons_append, List.nil_append, if_true, if_false]
  rw [rL_law_754 hs1 (by decide) (by omega) (by omega), hxs1 _ (by omega)]
  rw [rL_law_755 hM1.1]
  refine m_deliver hM1 hMS1 h2.1 h2.2 ?_
  intro F2 A2 hMS2 fr2
  simp only [rL_law_758, up2_eq, va_rf, eq_self, or_true, true_or, Option.toList_some, Option.toList_none, List.cons_append, List.nil_append, if_true, if_false]
  exact hQ n1 u1 sh1 F2 R1 A2 B1 (BS_end hX1 hM1 hMS2 fr2 (k2_deliver h2) hs1 hbx hL hxs1) hn1 hu1
theorem lw_lose (hB : BS x b L n xs sh F R A B T) (hi : i + 6 ≤ L) (hQ : ∀ n' u' sh' F' R' A' B', BS x b L n' xs sh' F' R' A' B' (s_lose T (xs (i + 1))).2 → n' ≤ n + 8 → u' ≤ u + 5000 → rw_ 9 mL_law 878 [.ref b, .ref x, .ref (x + 78), .int (nI i)] [] (mkh n' u' sh' F' R' A' B') Q) : rw_ 9 mL_law 763 [.ref b, .ref x, .ref (x + 78), .int (nI i)] [] (mkh n u sh F R A B) Q := by
  obtain ⟨⟨ba, ma, hX⟩, hM, hMS, h2, ⟨hs, hbx, hL⟩, hxs⟩ := id hB
  simp only [rL_law_763, rL_law_763_n, rL_law_764, rL_law_764_n, rL_law_765, rL_law_766, rL_law_767, nI_add, up2_eq, va_rf, eq_self, or_true, true_or, Option.toList_some, Option.toList_none, List.cons_append, List.nil_append, if_true, if_false]
  rw [rL_law_768 hs (by decide) (by omega) (by omega), hxs _ (by omega)]
  rw [rL_law_769 hX.2.1.s0]
  refine c_lose hX h2.1 ?_
  intro n1 u1 sh1 F1 R1 A1 B1 ba1 ma1 hX1 fr1 hn1 hu1
  obtain ⟨hM1, hMS1, hs1, hxs1⟩ := BS_mid hB fr1
  simp only [up2_eq, va_rf, eq_self, or_true, true_or, Option.toList_some, Option.toList_none, List.cons_append, List.nil_append, if_true, if_false]
  simp only [rL_law_772, rL_law_772_n, rL_law_773, rL_law_773_n, rL_law_774, rL_law_775, rL_law_776, nI_add, up2_eq, va_rf, eq_self, or_true, true_or, Option.toList_some, Option.toList_none, List.cons_append, List.nil_append, if_true, if_false]
  rw [rL_law_777 hs1 (by decide) (by omega) (by omega), hxs1 _ (by omega)]
  rw [rL_law_778 hM1.1]
  refine m_lose hM1 hMS1 h2.1 ?_
  intro F2 A2 hMS2 fr2
  simp only [rL_law_781, up2_eq, va_rf, eq_self, or_true, true_or, Option.toList_some, Option.toList_none, List.cons_append, List.nil_append, if_true, if_false]
  exact hQ n1 u1 sh1 F2 R1 A2 B1 (BS_end hX1 hM1 hMS2 fr2 (k2_lose h2) hs1 hbx hL hxs1) hn1 hu1
theorem lw_twice (hB : BS x b L n xs sh F R A B T) (hi : i + 6 ≤ L) (hQ : ∀ n' u' sh' F' R' A' B', BS x b L n' xs sh' F' R' A' B' (s_twice T (xs (i + 1))).2 → n' ≤ n + 8 → u' ≤ u + 5000 → rw_ 9 mL_law 878 [.ref b, .ref x, .ref (x + 78), .int (nI i)] [] (mkh n' u' sh' F' R' A' B') Q) : rw_ 9 mL_law 786 [.ref b, .ref x, .ref (x + 78), .int (nI i)] [] (mkh n u sh F R A B) Q := by
  obtain ⟨⟨ba, ma, hX⟩, hM, hMS, h2, ⟨hs, hbx, hL⟩, hxs⟩ := id hB
  simp only [rL_law_786, rL_law_786_n, rL_law_787, rL_law_787_n, rL_law_788, rL_law_789, rL_law_790, nI_add, up2_eq, va_rf, eq_self, or_true, true_or, Option.toList_some, Option.toList_none, List.cons_append, List.nil_append, if_true, if_false]
  rw [rL_law_791 hs (by decide) (by omega) (by omega), hxs _ (by omega)]
  rw [rL_law_792 hX.2.1.s0]
  refine c_twice hX h2.1 ?_
  intro n1 u1 sh1 F1 R1 A1 B1 ba1 ma1 hX1 fr1 hn1 hu1
  obtain ⟨hM1, hMS1, hs1, hxs1⟩ := BS_mid hB fr1
  simp only [up2_eq, va_rf, eq_self, or_true, true_or, Option.toList_some, Option.toList_none, List.cons_append, List.nil_append, if_true, if_false]
  simp only [rL_law_795, rL_law_795_n, rL_law_796, rL_law_796_n, rL_law_797, rL_law_798, rL_law_799, nI_add, up2_eq, va_rf, eq_self, or_true, true_or, Option.toList_some, Option.toList_none, List.cons_append, List.nil_append, if_true, if_false]
  rw [rL_law_800 hs1 (by decide) (by omega) (by omega), hxs1 _ (by omega)]
  rw [rL_law_801 hM1.1]
  refine m_twice hM1 hMS1 h2.1 ?_
  intro F2 A2 hMS2 fr2
  simp only [rL_law_804, up2_eq, va_rf, eq_self, or_true, true_or, Option.toList_some, Option.toList_none, List.cons_append, List.nil_append, if_true, if_false]
  exact hQ n1 u1 sh1 F2 R1 A2 B1 (BS_end hX1 hM1 hMS2 fr2 (k2_twice h2) hs1 hbx hL hxs1) hn1 hu1
theorem lw_message (hB : BS x b L n xs sh F R A B T) (hi : i + 6 ≤ L) (hQ : ∀ n' u' sh' F' R' A' B', BS x b L n' xs sh' F' R' A' B' T → n' ≤ n + 8 → u' ≤ u + 5000 → rw_ 9 mL_law 878 [.ref b, .ref x, .ref (x + 78), .int (nI i)] [] (mkh n' u' sh' F' R' A' B') Q) : rw_ 9 mL_law 809 [.ref b, .ref x, .ref (x + 78), .int (nI i)] [] (mkh n u sh F R A B) Q := by
  obtain ⟨⟨ba, ma, hX⟩, hM, hMS, h2, ⟨hs, hbx, hL⟩, hxs⟩ := id hB
  simp only [rL_law_809, rL_law_809_n, rL_law_810, rL_law_810_n, rL_law_811, rL_law_812, rL_law_813, nI_add, up2_eq, va_rf, eq_self, or_true, true_or, Option.toList_some, Option.toList_none, List.cons_append, List.nil_append, if_true, if_false]
  rw [rL_law_814 hs (by decide) (by omega) (by omega), hxs _ (by omega)]
  simp only [rL_law_815, rL_law_815_n, rL_law_816, rL_law_817, rL_law_818, nI_add, up2_eq, va_rf, eq_self, or_true, true_or, Option.toList_some, Option.toList_none, List.cons_append, List.nil_append, if_true, if_false]
  rw [rL_law_819 hs (by decide) (by omega) (by omega), hxs _ (by omega)]
  rw [rL_law_820 hX.2.1.s0]
  refine c_message hX h2.1 ?_
  intro n1 u1 sh1 F1 R1 A1 B1 ba1 ma1 hX1 fr1 hn1 hu1
  obtain ⟨hM1, hMS1, hs1, hxs1⟩ := BS_mid hB fr1
  simp only [up2_eq, va_rf, eq_self, or_true, true_or, Option.toList_some, Option.toList_none, List.cons_append, List.nil_append, if_true, if_false]
  simp only [rL_law_823, rL_law_823_n, rL_law_824, rL_law_824_n, rL_law_825, rL_law_826, rL_law_827, nI_add, up2_eq, va_rf, eq_self, or_true, true_or, Option.toList_some, Option.toList_none, List.cons_append, List.nil_append, if_true, if_false]
  rw [rL_law_828 hs1 (by decide) (by omega) (by omega), hxs1 _ (by omega)]
  simp only [rL_law_829, rL_law_829_n, rL_law_830, rL_law_831, rL_law_832, nI_add, up2_eq, va_rf, eq_self, or_true, true_or, Option.toList_some, Option.toList_none, List.cons_append, List.nil_append, if_true, if_false]
  rw [rL_law_833 hs1 (by decide) (by omega) (by omega), hxs1 _ (by omega)]
  rw [rL_law_834 hM1.1]
  refine m_message hM1 hMS1 h2.1 ?_
  intro F2 A2 hMS2 fr2
  simp only [rL_law_837, up2_eq, va_rf, eq_self, or_true, true_or, Option.toList_some, Option.toList_none, List.cons_append, List.nil_append, if_true, if_false]
  exact hQ n1 u1 sh1 F2 R1 A2 B1 (BS_end hX1 hM1 hMS2 fr2 h2 hs1 hbx hL hxs1) hn1 hu1
theorem lw_latest (hB : BS x b L n xs sh F R A B T) (hi : i + 6 ≤ L) (hQ : ∀ n' u' sh' F' R' A' B', BS x b L n' xs sh' F' R' A' B' (s_latest T).2 → n' ≤ n + 8 → u' ≤ u + 5000 → rw_ 9 mL_law 878 [.ref b, .ref x, .ref (x + 78), .int (nI i)] [] (mkh n' u' sh' F' R' A' B') Q) : rw_ 9 mL_law 842 [.ref b, .ref x, .ref (x + 78), .int (nI i)] [] (mkh n u sh F R A B) Q := by
  obtain ⟨⟨ba, ma, hX⟩, hM, hMS, h2, ⟨hs, hbx, hL⟩, hxs⟩ := id hB
  simp only [rL_law_842, rL_law_842_n, nI_add, up2_eq, va_rf, eq_self, or_true, true_or, Option.toList_some, Option.toList_none, List.cons_append, List.nil_append, if_true, if_false]
  rw [rL_law_843 hX.2.1.s0]
  refine c_latest hX h2.1 ?_
  intro n1 u1 sh1 F1 R1 A1 B1 ba1 ma1 hX1 fr1 hn1 hu1
  obtain ⟨hM1, hMS1, hs1, hxs1⟩ := BS_mid hB fr1
  simp only [up2_eq, va_rf, eq_self, or_true, true_or, Option.toList_some, Option.toList_none, List.cons_append, List.nil_append, if_true, if_false]
  simp only [rL_law_846, rL_law_846_n, nI_add, up2_eq, va_rf, eq_self, or_true, true_or, Option.toList_some, Option.toList_none, List.cons_append, List.nil_append, if_true, if_false]
  rw [rL_law_847 hM1.1]
  refine m_latest hM1 hMS1 h2.1 ?_
  intro F2 A2 hMS2 fr2
  simp only [rL_law_850, up2_eq, va_rf, eq_self, or_true, true_or, Option.toList_some, Option.toList_none, List.cons_append, List.nil_append, if_true, if_false]
  exact hQ n1 u1 sh1 F2 R1 A2 B1 (BS_end hX1 hM1 hMS2 fr2 (k2_latest h2) hs1 hbx hL hxs1) hn1 hu1
theorem lw_count (hB : BS x b L n xs sh F R A B T) (hi : i + 6 ≤ L) (hQ : ∀ n' u' sh' F' R' A' B', BS x b L n' xs sh' F' R' A' B' T → n' ≤ n + 8 → u' ≤ u + 5000 → rw_ 9 mL_law 878 [.ref b, .ref x, .ref (x + 78), .int (nI i)] [] (mkh n' u' sh' F' R' A' B') Q) : rw_ 9 mL_law 855 [.ref b, .ref x, .ref (x + 78), .int (nI i)] [] (mkh n u sh F R A B) Q := by
  obtain ⟨⟨ba, ma, hX⟩, hM, hMS, h2, ⟨hs, hbx, hL⟩, hxs⟩ := id hB
  simp only [rL_law_855, rL_law_855_n, rL_law_856, rL_law_856_n, rL_law_857, rL_law_858, rL_law_859, nI_add, up2_eq, va_rf, eq_self, or_true, true_or, Option.toList_some, Option.toList_none, List.cons_append, List.nil_append, if_true, if_false]
  rw [rL_law_860 hs (by decide) (by omega) (by omega), hxs _ (by omega)]
  rw [rL_law_861 hX.2.1.s0]
  refine c_count hX h2.1 ?_
  intro n1 u1 sh1 F1 R1 A1 B1 ba1 ma1 hX1 fr1 hn1 hu1
  obtain ⟨hM1, hMS1, hs1, hxs1⟩ := BS_mid hB fr1
  simp only [up2_eq, va_rf, eq_self, or_true, true_or, Option.toList_some, Option.toList_none, List.cons_append, List.nil_append, if_true, if_false]
  simp only [rL_law_864, rL_law_864_n, rL_law_865, rL_law_865_n, rL_law_866, rL_law_867, rL_law_868, nI_add, up2_eq, va_rf, eq_self, or_true, true_or, Option.toList_some, Option.toList_none, List.cons_append, List.nil_append, if_true, if_false]
  rw [rL_law_869 hs1 (by decide) (by omega) (by omega), hxs1 _ (by omega)]
  rw [rL_law_870 hM1.1]
  refine m_count hM1 hMS1 h2.1 ?_
  intro F2 A2 hMS2 fr2
  simp only [rL_law_873, up2_eq, va_rf, eq_self, or_true, true_or, Option.toList_some, Option.toList_none, List.cons_append, List.nil_append, if_true, if_false]
  exact hQ n1 u1 sh1 F2 R1 A2 B1 (BS_end hX1 hM1 hMS2 fr2 h2 hs1 hbx hL hxs1) hn1 hu1
end LAW
