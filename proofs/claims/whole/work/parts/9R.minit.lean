/-! ===== the reference: made ===== -/
def mIn (y i : Nat) (sh0 : hs_) (R0 : hR_) (A0 : hF_) (sh : hs_) (R : hR_) (A : hF_) : Prop :=
  (∀ a, a < y + 1 → sh a = sh0 a) ∧ (∀ q a, (q < 1200 ∨ a ≠ y) → R q a = R0 q a) ∧ (∀ a, a < y + 1 → A a = A0 a) ∧ ∀ e, e ∈ mRl.take i → R e.1 y = some (y + e.2.1) ∧ sh (y + e.2.1) = some (1, e.2.2.1, e.2.2.2) ∧ ∀ j, A (y + e.2.1) j = 0
section MIN
variable {k n u u0 : Nat} {sh sh0 : hs_} {F : hF_} {R R0 : hR_} {A A0 : hF_} {B : hR_} {Q : Option Value → pm_H → Prop} {y i : Nat}
theorem mIn_step {q t l : Nat} (h : mIn y i sh0 R0 A0 sh R A) (hn : n = y + (i + 1)) (he : mRl.take (i + 1) = mRl.take i ++ [(q, i + 1, t, l)]) (hq : ∀ e, e ∈ mRl.take i → e.1 ≠ q ∧ e.2.1 < i + 1) (h12 : 1200 ≤ q) : mIn y (i + 1) sh0 R0 A0 (up1 sh n (some (1, t, l))) (up2 R q y (some n)) (up1 A n (fun _ => 0)) := by
  subst hn
  obtain ⟨a1, a2, a3, a4⟩ := h
  refine ⟨fun a ha => by rw [up1_ne (by omega)]; exact a1 a ha, fun q' a g => by rw [up2_o (by omega)]; exact a2 q' a g, fun a ha => by rw [up1_ne (by omega)]; exact a3 a ha, fun e hm => ?_⟩
  rw [he, List.mem_append, List.mem_singleton] at hm
  rcases hm with hm | rfl
  · obtain ⟨q1, q2⟩ := hq e hm
    obtain ⟨b1, b2, b3⟩ := a4 e hm
    exact ⟨by rw [up2_k q1]; exact b1, by rw [up1_ne (by omega)]; exact b2, fun j => by rw [up1_ne (by omega)]; exact b3 j⟩
  · exact ⟨up2_eq, up1_eq, fun j => by rw [up1_eq]⟩
theorem l_mi_38 (hy : sh0 y = some (0, 12, 0)) (h : mIn y 38 sh0 R0 A0 sh R A) (hn : n = y + 39) (hu : u ≤ u0 + 135396) (hQ : ∀ u' sh' R' A', mIn y 38 sh0 R0 A0 sh' R' A' → u' ≤ u0 + 135396 → Q none (mkh (y + 39) u' sh' F R' A' B)) : rw_ (k + 1) mX12_init 331 [.ref y] [] (mkh n u sh F R A B) Q := by
  subst hn
  rw [rX12_init_331]
  exact hQ _ _ _ _ h hu
theorem l_mi_37 (hy : sh0 y = some (0, 12, 0)) (h : mIn y 37 sh0 R0 A0 sh R A) (hn : n = y + 38) (hu : u ≤ u0 + 135390) (hQ : ∀ u' sh' R' A', mIn y 38 sh0 R0 A0 sh' R' A' → u' ≤ u0 + 135396 → Q none (mkh (y + 39) u' sh' F R' A' B)) : rw_ (k + 1) mX12_init 323 [.ref y] [] (mkh n u sh F R A B) Q := by
  have h1 := mIn_step (q := 1262) (t := 0) (l := 6) h hn rfl (by decide) (by decide)
  rw [rX12_init_323, rX12_init_324, rX12_init_326 (by decide), rX12_init_328 ((h1.1 y (by omega)).trans hy)]
  exact l_mi_38 hy h1 (by omega) (by omega) hQ
theorem l_mi_36 (hy : sh0 y = some (0, 12, 0)) (h : mIn y 36 sh0 R0 A0 sh R A) (hn : n = y + 37) (hu : u ≤ u0 + 135384) (hQ : ∀ u' sh' R' A', mIn y 38 sh0 R0 A0 sh' R' A' → u' ≤ u0 + 135396 → Q none (mkh (y + 39) u' sh' F R' A' B)) : rw_ (k + 1) mX12_init 315 [.ref y] [] (mkh n u sh F R A B) Q := by
  have h1 := mIn_step (q := 1261) (t := 0) (l := 6) h hn rfl (by decide) (by decide)
  rw [rX12_init_315, rX12_init_316, rX12_init_318 (by decide), rX12_init_320 ((h1.1 y (by omega)).trans hy)]
  exact l_mi_37 hy h1 (by omega) (by omega) hQ
theorem l_mi_35 (hy : sh0 y = some (0, 12, 0)) (h : mIn y 35 sh0 R0 A0 sh R A) (hn : n = y + 36) (hu : u ≤ u0 + 135375) (hQ : ∀ u' sh' R' A', mIn y 38 sh0 R0 A0 sh' R' A' → u' ≤ u0 + 135396 → Q none (mkh (y + 39) u' sh' F R' A' B)) : rw_ (k + 1) mX12_init 307 [.ref y] [] (mkh n u sh F R A B) Q := by
  have h1 := mIn_step (q := 1257) (t := 0) (l := 9) h hn rfl (by decide) (by decide)
  rw [rX12_init_307, rX12_init_308, rX12_init_310 (by decide), rX12_init_312 ((h1.1 y (by omega)).trans hy)]
  exact l_mi_36 hy h1 (by omega) (by omega) hQ
theorem l_mi_34 (hy : sh0 y = some (0, 12, 0)) (h : mIn y 34 sh0 R0 A0 sh R A) (hn : n = y + 35) (hu : u ≤ u0 + 135366) (hQ : ∀ u' sh' R' A', mIn y 38 sh0 R0 A0 sh' R' A' → u' ≤ u0 + 135396 → Q none (mkh (y + 39) u' sh' F R' A' B)) : rw_ (k + 1) mX12_init 299 [.ref y] [] (mkh n u sh F R A B) Q := by
  have h1 := mIn_step (q := 1256) (t := 0) (l := 9) h hn rfl (by decide) (by decide)
  rw [rX12_init_299, rX12_init_300, rX12_init_302 (by decide), rX12_init_304 ((h1.1 y (by omega)).trans hy)]
  exact l_mi_35 hy h1 (by omega) (by omega) hQ
theorem l_mi_33 (hy : sh0 y = some (0, 12, 0)) (h : mIn y 33 sh0 R0 A0 sh R A) (hn : n = y + 34) (hu : u ≤ u0 + 135357) (hQ : ∀ u' sh' R' A', mIn y 38 sh0 R0 A0 sh' R' A' → u' ≤ u0 + 135396 → Q none (mkh (y + 39) u' sh' F R' A' B)) : rw_ (k + 1) mX12_init 291 [.ref y] [] (mkh n u sh F R A B) Q := by
  have h1 := mIn_step (q := 1255) (t := 0) (l := 9) h hn rfl (by decide) (by decide)
  rw [rX12_init_291, rX12_init_292, rX12_init_294 (by decide), rX12_init_296 ((h1.1 y (by omega)).trans hy)]
  exact l_mi_34 hy h1 (by omega) (by omega) hQ
theorem l_mi_32 (hy : sh0 y = some (0, 12, 0)) (h : mIn y 32 sh0 R0 A0 sh R A) (hn : n = y + 33) (hu : u ≤ u0 + 135237) (hQ : ∀ u' sh' R' A', mIn y 38 sh0 R0 A0 sh' R' A' → u' ≤ u0 + 135396 → Q none (mkh (y + 39) u' sh' F R' A' B)) : rw_ (k + 1) mX12_init 283 [.ref y] [] (mkh n u sh F R A B) Q := by
  have h1 := mIn_step (q := 1252) (t := 0) (l := 120) h hn rfl (by decide) (by decide)
  rw [rX12_init_283, rX12_init_284, rX12_init_286 (by decide), rX12_init_288 ((h1.1 y (by omega)).trans hy)]
  exact l_mi_33 hy h1 (by omega) (by omega) hQ
theorem l_mi_31 (hy : sh0 y = some (0, 12, 0)) (h : mIn y 31 sh0 R0 A0 sh R A) (hn : n = y + 32) (hu : u ≤ u0 + 132837) (hQ : ∀ u' sh' R' A', mIn y 38 sh0 R0 A0 sh' R' A' → u' ≤ u0 + 135396 → Q none (mkh (y + 39) u' sh' F R' A' B)) : rw_ (k + 1) mX12_init 274 [.ref y] [] (mkh n u sh F R A B) Q := by
  have h1 := mIn_step (q := 1246) (t := 0) (l := 2400) h hn rfl (by decide) (by decide)
  rw [rX12_init_274, rX12_init_275, rX12_init_278 (by decide), rX12_init_280 ((h1.1 y (by omega)).trans hy)]
  exact l_mi_32 hy h1 (by omega) (by omega) hQ
theorem l_mi_30 (hy : sh0 y = some (0, 12, 0)) (h : mIn y 30 sh0 R0 A0 sh R A) (hn : n = y + 31) (hu : u ≤ u0 + 132716) (hQ : ∀ u' sh' R' A', mIn y 38 sh0 R0 A0 sh' R' A' → u' ≤ u0 + 135396 → Q none (mkh (y + 39) u' sh' F R' A' B)) : rw_ (k + 1) mX12_init 266 [.ref y] [] (mkh n u sh F R A B) Q := by
  have h1 := mIn_step (q := 1245) (t := 0) (l := 121) h hn rfl (by decide) (by decide)
  rw [rX12_init_266, rX12_init_267, rX12_init_269 (by decide), rX12_init_271 ((h1.1 y (by omega)).trans hy)]
  exact l_mi_31 hy h1 (by omega) (by omega) hQ
theorem l_mi_29 (hy : sh0 y = some (0, 12, 0)) (h : mIn y 29 sh0 R0 A0 sh R A) (hn : n = y + 30) (hu : u ≤ u0 + 132596) (hQ : ∀ u' sh' R' A', mIn y 38 sh0 R0 A0 sh' R' A' → u' ≤ u0 + 135396 → Q none (mkh (y + 39) u' sh' F R' A' B)) : rw_ (k + 1) mX12_init 258 [.ref y] [] (mkh n u sh F R A B) Q := by
  have h1 := mIn_step (q := 1244) (t := 0) (l := 120) h hn rfl (by decide) (by decide)
  rw [rX12_init_258, rX12_init_259, rX12_init_261 (by decide), rX12_init_263 ((h1.1 y (by omega)).trans hy)]
  exact l_mi_30 hy h1 (by omega) (by omega) hQ
theorem l_mi_28 (hy : sh0 y = some (0, 12, 0)) (h : mIn y 28 sh0 R0 A0 sh R A) (hn : n = y + 29) (hu : u ≤ u0 + 132476) (hQ : ∀ u' sh' R' A', mIn y 38 sh0 R0 A0 sh' R' A' → u' ≤ u0 + 135396 → Q none (mkh (y + 39) u' sh' F R' A' B)) : rw_ (k + 1) mX12_init 250 [.ref y] [] (mkh n u sh F R A B) Q := by
  have h1 := mIn_step (q := 1243) (t := 0) (l := 120) h hn rfl (by decide) (by decide)
  rw [rX12_init_250, rX12_init_251, rX12_init_253 (by decide), rX12_init_255 ((h1.1 y (by omega)).trans hy)]
  exact l_mi_29 hy h1 (by omega) (by omega) hQ
theorem l_mi_27 (hy : sh0 y = some (0, 12, 0)) (h : mIn y 27 sh0 R0 A0 sh R A) (hn : n = y + 28) (hu : u ≤ u0 + 132356) (hQ : ∀ u' sh' R' A', mIn y 38 sh0 R0 A0 sh' R' A' → u' ≤ u0 + 135396 → Q none (mkh (y + 39) u' sh' F R' A' B)) : rw_ (k + 1) mX12_init 242 [.ref y] [] (mkh n u sh F R A B) Q := by
  have h1 := mIn_step (q := 1242) (t := 0) (l := 120) h hn rfl (by decide) (by decide)
  rw [rX12_init_242, rX12_init_243, rX12_init_245 (by decide), rX12_init_247 ((h1.1 y (by omega)).trans hy)]
  exact l_mi_28 hy h1 (by omega) (by omega) hQ
theorem l_mi_26 (hy : sh0 y = some (0, 12, 0)) (h : mIn y 26 sh0 R0 A0 sh R A) (hn : n = y + 27) (hu : u ≤ u0 + 132115) (hQ : ∀ u' sh' R' A', mIn y 38 sh0 R0 A0 sh' R' A' → u' ≤ u0 + 135396 → Q none (mkh (y + 39) u' sh' F R' A' B)) : rw_ (k + 1) mX12_init 233 [.ref y] [] (mkh n u sh F R A B) Q := by
  have h1 := mIn_step (q := 1237) (t := 0) (l := 241) h hn rfl (by decide) (by decide)
  rw [rX12_init_233, rX12_init_234, rX12_init_237 (by decide), rX12_init_239 ((h1.1 y (by omega)).trans hy)]
  exact l_mi_27 hy h1 (by omega) (by omega) hQ
theorem l_mi_25 (hy : sh0 y = some (0, 12, 0)) (h : mIn y 25 sh0 R0 A0 sh R A) (hn : n = y + 26) (hu : u ≤ u0 + 131874) (hQ : ∀ u' sh' R' A', mIn y 38 sh0 R0 A0 sh' R' A' → u' ≤ u0 + 135396 → Q none (mkh (y + 39) u' sh' F R' A' B)) : rw_ (k + 1) mX12_init 224 [.ref y] [] (mkh n u sh F R A B) Q := by
  have h1 := mIn_step (q := 1236) (t := 0) (l := 241) h hn rfl (by decide) (by decide)
  rw [rX12_init_224, rX12_init_225, rX12_init_228 (by decide), rX12_init_230 ((h1.1 y (by omega)).trans hy)]
  exact l_mi_26 hy h1 (by omega) (by omega) hQ
theorem l_mi_24 (hy : sh0 y = some (0, 12, 0)) (h : mIn y 24 sh0 R0 A0 sh R A) (hn : n = y + 25) (hu : u ≤ u0 + 131633) (hQ : ∀ u' sh' R' A', mIn y 38 sh0 R0 A0 sh' R' A' → u' ≤ u0 + 135396 → Q none (mkh (y + 39) u' sh' F R' A' B)) : rw_ (k + 1) mX12_init 215 [.ref y] [] (mkh n u sh F R A B) Q := by
  have h1 := mIn_step (q := 1235) (t := 0) (l := 241) h hn rfl (by decide) (by decide)
  rw [rX12_init_215, rX12_init_216, rX12_init_219 (by decide), rX12_init_221 ((h1.1 y (by omega)).trans hy)]
  exact l_mi_25 hy h1 (by omega) (by omega) hQ
theorem l_mi_23 (hy : sh0 y = some (0, 12, 0)) (h : mIn y 23 sh0 R0 A0 sh R A) (hn : n = y + 24) (hu : u ≤ u0 + 131392) (hQ : ∀ u' sh' R' A', mIn y 38 sh0 R0 A0 sh' R' A' → u' ≤ u0 + 135396 → Q none (mkh (y + 39) u' sh' F R' A' B)) : rw_ (k + 1) mX12_init 206 [.ref y] [] (mkh n u sh F R A B) Q := by
  have h1 := mIn_step (q := 1234) (t := 0) (l := 241) h hn rfl (by decide) (by decide)
  rw [rX12_init_206, rX12_init_207, rX12_init_210 (by decide), rX12_init_212 ((h1.1 y (by omega)).trans hy)]
  exact l_mi_24 hy h1 (by omega) (by omega) hQ
theorem l_mi_22 (hy : sh0 y = some (0, 12, 0)) (h : mIn y 22 sh0 R0 A0 sh R A) (hn : n = y + 23) (hu : u ≤ u0 + 131151) (hQ : ∀ u' sh' R' A', mIn y 38 sh0 R0 A0 sh' R' A' → u' ≤ u0 + 135396 → Q none (mkh (y + 39) u' sh' F R' A' B)) : rw_ (k + 1) mX12_init 197 [.ref y] [] (mkh n u sh F R A B) Q := by
  have h1 := mIn_step (q := 1233) (t := 0) (l := 241) h hn rfl (by decide) (by decide)
  rw [rX12_init_197, rX12_init_198, rX12_init_201 (by decide), rX12_init_203 ((h1.1 y (by omega)).trans hy)]
  exact l_mi_23 hy h1 (by omega) (by omega) hQ
theorem l_mi_21 (hy : sh0 y = some (0, 12, 0)) (h : mIn y 21 sh0 R0 A0 sh R A) (hn : n = y + 22) (hu : u ≤ u0 + 130911) (hQ : ∀ u' sh' R' A', mIn y 38 sh0 R0 A0 sh' R' A' → u' ≤ u0 + 135396 → Q none (mkh (y + 39) u' sh' F R' A' B)) : rw_ (k + 1) mX12_init 188 [.ref y] [] (mkh n u sh F R A B) Q := by
  have h1 := mIn_step (q := 1231) (t := 0) (l := 240) h hn rfl (by decide) (by decide)
  rw [rX12_init_188, rX12_init_189, rX12_init_192 (by decide), rX12_init_194 ((h1.1 y (by omega)).trans hy)]
  exact l_mi_22 hy h1 (by omega) (by omega) hQ
theorem l_mi_20 (hy : sh0 y = some (0, 12, 0)) (h : mIn y 20 sh0 R0 A0 sh R A) (hn : n = y + 21) (hu : u ≤ u0 + 106911) (hQ : ∀ u' sh' R' A', mIn y 38 sh0 R0 A0 sh' R' A' → u' ≤ u0 + 135396 → Q none (mkh (y + 39) u' sh' (up2 F 1227 y (-1)) R' A' B)) : rw_ (k + 1) mX12_init 174 [.ref y] [] (mkh n u sh F R A B) Q := by
  have h1 := mIn_step (q := 1226) (t := 0) (l := 24000) h hn rfl (by decide) (by decide)
  rw [rX12_init_174, rX12_init_175, rX12_init_178 (by decide), rX12_init_180 ((h1.1 y (by omega)).trans hy)]
  have hy2 : up1 sh n (some (1, 0, 24000)) y = some (0, 12, 0) := (h1.1 y (by omega)).trans hy
  rw [rX12_init_183, rX12_init_184, rX12_init_185 hy2]
  exact l_mi_21 hy h1 (by omega) (by omega) hQ
theorem l_mi_19 (hy : sh0 y = some (0, 12, 0)) (h : mIn y 19 sh0 R0 A0 sh R A) (hn : n = y + 20) (hu : u ≤ u0 + 106711) (hQ : ∀ u' sh' R' A', mIn y 38 sh0 R0 A0 sh' R' A' → u' ≤ u0 + 135396 → Q none (mkh (y + 39) u' sh' (up2 F 1227 y (-1)) R' A' B)) : rw_ (k + 1) mX12_init 165 [.ref y] [] (mkh n u sh F R A B) Q := by
  have h1 := mIn_step (q := 1225) (t := 0) (l := 200) h hn rfl (by decide) (by decide)
  rw [rX12_init_165, rX12_init_166, rX12_init_169 (by decide), rX12_init_171 ((h1.1 y (by omega)).trans hy)]
  exact l_mi_20 hy h1 (by omega) (by omega) hQ
theorem l_mi_18 (hy : sh0 y = some (0, 12, 0)) (h : mIn y 18 sh0 R0 A0 sh R A) (hn : n = y + 19) (hu : u ≤ u0 + 106511) (hQ : ∀ u' sh' R' A', mIn y 38 sh0 R0 A0 sh' R' A' → u' ≤ u0 + 135396 → Q none (mkh (y + 39) u' sh' (up2 F 1227 y (-1)) R' A' B)) : rw_ (k + 1) mX12_init 156 [.ref y] [] (mkh n u sh F R A B) Q := by
  have h1 := mIn_step (q := 1224) (t := 0) (l := 200) h hn rfl (by decide) (by decide)
  rw [rX12_init_156, rX12_init_157, rX12_init_160 (by decide), rX12_init_162 ((h1.1 y (by omega)).trans hy)]
  exact l_mi_19 hy h1 (by omega) (by omega) hQ
theorem l_mi_17 (hy : sh0 y = some (0, 12, 0)) (h : mIn y 17 sh0 R0 A0 sh R A) (hn : n = y + 18) (hu : u ≤ u0 + 106311) (hQ : ∀ u' sh' R' A', mIn y 38 sh0 R0 A0 sh' R' A' → u' ≤ u0 + 135396 → Q none (mkh (y + 39) u' sh' (up2 F 1227 y (-1)) R' A' B)) : rw_ (k + 1) mX12_init 147 [.ref y] [] (mkh n u sh F R A B) Q := by
  have h1 := mIn_step (q := 1223) (t := 0) (l := 200) h hn rfl (by decide) (by decide)
  rw [rX12_init_147, rX12_init_148, rX12_init_151 (by decide), rX12_init_153 ((h1.1 y (by omega)).trans hy)]
  exact l_mi_18 hy h1 (by omega) (by omega) hQ
theorem l_mi_16 (hy : sh0 y = some (0, 12, 0)) (h : mIn y 16 sh0 R0 A0 sh R A) (hn : n = y + 17) (hu : u ≤ u0 + 106111) (hQ : ∀ u' sh' R' A', mIn y 38 sh0 R0 A0 sh' R' A' → u' ≤ u0 + 135396 → Q none (mkh (y + 39) u' sh' (up2 F 1227 y (-1)) R' A' B)) : rw_ (k + 1) mX12_init 138 [.ref y] [] (mkh n u sh F R A B) Q := by
  have h1 := mIn_step (q := 1222) (t := 0) (l := 200) h hn rfl (by decide) (by decide)
  rw [rX12_init_138, rX12_init_139, rX12_init_142 (by decide), rX12_init_144 ((h1.1 y (by omega)).trans hy)]
  exact l_mi_17 hy h1 (by omega) (by omega) hQ
theorem l_mi_15 (hy : sh0 y = some (0, 12, 0)) (h : mIn y 15 sh0 R0 A0 sh R A) (hn : n = y + 16) (hu : u ≤ u0 + 105911) (hQ : ∀ u' sh' R' A', mIn y 38 sh0 R0 A0 sh' R' A' → u' ≤ u0 + 135396 → Q none (mkh (y + 39) u' sh' (up2 F 1227 y (-1)) R' A' B)) : rw_ (k + 1) mX12_init 129 [.ref y] [] (mkh n u sh F R A B) Q := by
  have h1 := mIn_step (q := 1221) (t := 0) (l := 200) h hn rfl (by decide) (by decide)
  rw [rX12_init_129, rX12_init_130, rX12_init_133 (by decide), rX12_init_135 ((h1.1 y (by omega)).trans hy)]
  exact l_mi_16 hy h1 (by omega) (by omega) hQ
theorem l_mi_14 (hy : sh0 y = some (0, 12, 0)) (h : mIn y 14 sh0 R0 A0 sh R A) (hn : n = y + 15) (hu : u ≤ u0 + 105711) (hQ : ∀ u' sh' R' A', mIn y 38 sh0 R0 A0 sh' R' A' → u' ≤ u0 + 135396 → Q none (mkh (y + 39) u' sh' (up2 F 1227 y (-1)) R' A' B)) : rw_ (k + 1) mX12_init 120 [.ref y] [] (mkh n u sh F R A B) Q := by
  have h1 := mIn_step (q := 1220) (t := 0) (l := 200) h hn rfl (by decide) (by decide)
  rw [rX12_init_120, rX12_init_121, rX12_init_124 (by decide), rX12_init_126 ((h1.1 y (by omega)).trans hy)]
  exact l_mi_15 hy h1 (by omega) (by omega) hQ
theorem l_mi_13 (hy : sh0 y = some (0, 12, 0)) (h : mIn y 13 sh0 R0 A0 sh R A) (hn : n = y + 14) (hu : u ≤ u0 + 105391) (hQ : ∀ u' sh' R' A', mIn y 38 sh0 R0 A0 sh' R' A' → u' ≤ u0 + 135396 → Q none (mkh (y + 39) u' sh' (up2 F 1227 y (-1)) R' A' B)) : rw_ (k + 1) mX12_init 111 [.ref y] [] (mkh n u sh F R A B) Q := by
  have h1 := mIn_step (q := 1218) (t := 0) (l := 320) h hn rfl (by decide) (by decide)
  rw [rX12_init_111, rX12_init_112, rX12_init_115 (by decide), rX12_init_117 ((h1.1 y (by omega)).trans hy)]
  exact l_mi_14 hy h1 (by omega) (by omega) hQ
theorem l_mi_12 (hy : sh0 y = some (0, 12, 0)) (h : mIn y 12 sh0 R0 A0 sh R A) (hn : n = y + 13) (hu : u ≤ u0 + 105383) (hQ : ∀ u' sh' R' A', mIn y 38 sh0 R0 A0 sh' R' A' → u' ≤ u0 + 135396 → Q none (mkh (y + 39) u' sh' (up2 F 1227 y (-1)) R' A' B)) : rw_ (k + 1) mX12_init 103 [.ref y] [] (mkh n u sh F R A B) Q := by
  have h1 := mIn_step (q := 1217) (t := 0) (l := 8) h hn rfl (by decide) (by decide)
  rw [rX12_init_103, rX12_init_104, rX12_init_106 (by decide), rX12_init_108 ((h1.1 y (by omega)).trans hy)]
  exact l_mi_13 hy h1 (by omega) (by omega) hQ
theorem l_mi_11 (hy : sh0 y = some (0, 12, 0)) (h : mIn y 11 sh0 R0 A0 sh R A) (hn : n = y + 12) (hu : u ≤ u0 + 105359) (hQ : ∀ u' sh' R' A', mIn y 38 sh0 R0 A0 sh' R' A' → u' ≤ u0 + 135396 → Q none (mkh (y + 39) u' sh' (up2 F 1227 y (-1)) R' A' B)) : rw_ (k + 1) mX12_init 95 [.ref y] [] (mkh n u sh F R A B) Q := by
  have h1 := mIn_step (q := 1215) (t := 0) (l := 24) h hn rfl (by decide) (by decide)
  rw [rX12_init_95, rX12_init_96, rX12_init_98 (by decide), rX12_init_100 ((h1.1 y (by omega)).trans hy)]
  exact l_mi_12 hy h1 (by omega) (by omega) hQ
theorem l_mi_10 (hy : sh0 y = some (0, 12, 0)) (h : mIn y 10 sh0 R0 A0 sh R A) (hn : n = y + 11) (hu : u ≤ u0 + 105334) (hQ : ∀ u' sh' R' A', mIn y 38 sh0 R0 A0 sh' R' A' → u' ≤ u0 + 135396 → Q none (mkh (y + 39) u' sh' (up2 F 1227 y (-1)) R' A' B)) : rw_ (k + 1) mX12_init 87 [.ref y] [] (mkh n u sh F R A B) Q := by
  have h1 := mIn_step (q := 1214) (t := 0) (l := 25) h hn rfl (by decide) (by decide)
  rw [rX12_init_87, rX12_init_88, rX12_init_90 (by decide), rX12_init_92 ((h1.1 y (by omega)).trans hy)]
  exact l_mi_11 hy h1 (by omega) (by omega) hQ
theorem l_mi_09 (hy : sh0 y = some (0, 12, 0)) (h : mIn y 9 sh0 R0 A0 sh R A) (hn : n = y + 10) (hu : u ≤ u0 + 105310) (hQ : ∀ u' sh' R' A', mIn y 38 sh0 R0 A0 sh' R' A' → u' ≤ u0 + 135396 → Q none (mkh (y + 39) u' sh' (up2 F 1227 y (-1)) R' A' B)) : rw_ (k + 1) mX12_init 79 [.ref y] [] (mkh n u sh F R A B) Q := by
  have h1 := mIn_step (q := 1213) (t := 0) (l := 24) h hn rfl (by decide) (by decide)
  rw [rX12_init_79, rX12_init_80, rX12_init_82 (by decide), rX12_init_84 ((h1.1 y (by omega)).trans hy)]
  exact l_mi_10 hy h1 (by omega) (by omega) hQ
theorem l_mi_08 (hy : sh0 y = some (0, 12, 0)) (h : mIn y 8 sh0 R0 A0 sh R A) (hn : n = y + 9) (hu : u ≤ u0 + 105286) (hQ : ∀ u' sh' R' A', mIn y 38 sh0 R0 A0 sh' R' A' → u' ≤ u0 + 135396 → Q none (mkh (y + 39) u' sh' (up2 F 1227 y (-1)) R' A' B)) : rw_ (k + 1) mX12_init 71 [.ref y] [] (mkh n u sh F R A B) Q := by
  have h1 := mIn_step (q := 1212) (t := 1) (l := 24) h hn rfl (by decide) (by decide)
  rw [rX12_init_71, rX12_init_72, rX12_init_74 (by decide), rX12_init_76 ((h1.1 y (by omega)).trans hy)]
  exact l_mi_09 hy h1 (by omega) (by omega) hQ
theorem l_mi_07 (hy : sh0 y = some (0, 12, 0)) (h : mIn y 7 sh0 R0 A0 sh R A) (hn : n = y + 8) (hu : u ≤ u0 + 105262) (hQ : ∀ u' sh' R' A', mIn y 38 sh0 R0 A0 sh' R' A' → u' ≤ u0 + 135396 → Q none (mkh (y + 39) u' sh' (up2 F 1227 y (-1)) R' A' B)) : rw_ (k + 1) mX12_init 63 [.ref y] [] (mkh n u sh F R A B) Q := by
  have h1 := mIn_step (q := 1211) (t := 1) (l := 24) h hn rfl (by decide) (by decide)
  rw [rX12_init_63, rX12_init_64, rX12_init_66 (by decide), rX12_init_68 ((h1.1 y (by omega)).trans hy)]
  exact l_mi_08 hy h1 (by omega) (by omega) hQ
theorem l_mi_06 (hy : sh0 y = some (0, 12, 0)) (h : mIn y 6 sh0 R0 A0 sh R A) (hn : n = y + 7) (hu : u ≤ u0 + 105238) (hQ : ∀ u' sh' R' A', mIn y 38 sh0 R0 A0 sh' R' A' → u' ≤ u0 + 135396 → Q none (mkh (y + 39) u' sh' (up2 F 1227 y (-1)) R' A' B)) : rw_ (k + 1) mX12_init 55 [.ref y] [] (mkh n u sh F R A B) Q := by
  have h1 := mIn_step (q := 1210) (t := 0) (l := 24) h hn rfl (by decide) (by decide)
  rw [rX12_init_55, rX12_init_56, rX12_init_58 (by decide), rX12_init_60 ((h1.1 y (by omega)).trans hy)]
  exact l_mi_07 hy h1 (by omega) (by omega) hQ
theorem l_mi_05 (hy : sh0 y = some (0, 12, 0)) (h : mIn y 5 sh0 R0 A0 sh R A) (hn : n = y + 6) (hu : u ≤ u0 + 1238) (hQ : ∀ u' sh' R' A', mIn y 38 sh0 R0 A0 sh' R' A' → u' ≤ u0 + 135396 → Q none (mkh (y + 39) u' sh' (up2 F 1227 y (-1)) R' A' B)) : rw_ (k + 1) mX12_init 47 [.ref y] [] (mkh n u sh F R A B) Q := by
  have h1 := mIn_step (q := 1209) (t := 0) (l := 104000) h hn rfl (by decide) (by decide)
  rw [rX12_init_47, rX12_init_48, rX12_init_50 (by decide), rX12_init_52 ((h1.1 y (by omega)).trans hy)]
  exact l_mi_06 hy h1 (by omega) (by omega) hQ
theorem l_mi_04 (hy : sh0 y = some (0, 12, 0)) (h : mIn y 4 sh0 R0 A0 sh R A) (hn : n = y + 5) (hu : u ≤ u0 + 692) (hQ : ∀ u' sh' R' A', mIn y 38 sh0 R0 A0 sh' R' A' → u' ≤ u0 + 135396 → Q none (mkh (y + 39) u' sh' (up2 F 1227 y (-1)) R' A' B)) : rw_ (k + 1) mX12_init 38 [.ref y] [] (mkh n u sh F R A B) Q := by
  have h1 := mIn_step (q := 1208) (t := 0) (l := 546) h hn rfl (by decide) (by decide)
  rw [rX12_init_38, rX12_init_39, rX12_init_42 (by decide), rX12_init_44 ((h1.1 y (by omega)).trans hy)]
  exact l_mi_05 hy h1 (by omega) (by omega) hQ
theorem l_mi_03 (hy : sh0 y = some (0, 12, 0)) (h : mIn y 3 sh0 R0 A0 sh R A) (hn : n = y + 4) (hu : u ≤ u0 + 666) (hQ : ∀ u' sh' R' A', mIn y 38 sh0 R0 A0 sh' R' A' → u' ≤ u0 + 135396 → Q none (mkh (y + 39) u' sh' (up2 F 1227 y (-1)) R' A' B)) : rw_ (k + 1) mX12_init 30 [.ref y] [] (mkh n u sh F R A B) Q := by
  have h1 := mIn_step (q := 1207) (t := 0) (l := 26) h hn rfl (by decide) (by decide)
  rw [rX12_init_30, rX12_init_31, rX12_init_33 (by decide), rX12_init_35 ((h1.1 y (by omega)).trans hy)]
  exact l_mi_04 hy h1 (by omega) (by omega) hQ
theorem l_mi_02 (hy : sh0 y = some (0, 12, 0)) (h : mIn y 2 sh0 R0 A0 sh R A) (hn : n = y + 3) (hu : u ≤ u0 + 640) (hQ : ∀ u' sh' R' A', mIn y 38 sh0 R0 A0 sh' R' A' → u' ≤ u0 + 135396 → Q none (mkh (y + 39) u' sh' (up2 F 1227 y (-1)) R' A' B)) : rw_ (k + 1) mX12_init 22 [.ref y] [] (mkh n u sh F R A B) Q := by
  have h1 := mIn_step (q := 1206) (t := 0) (l := 26) h hn rfl (by decide) (by decide)
  rw [rX12_init_22, rX12_init_23, rX12_init_25 (by decide), rX12_init_27 ((h1.1 y (by omega)).trans hy)]
  exact l_mi_03 hy h1 (by omega) (by omega) hQ
theorem l_mi_01 (hy : sh0 y = some (0, 12, 0)) (h : mIn y 1 sh0 R0 A0 sh R A) (hn : n = y + 2) (hu : u ≤ u0 + 240) (hQ : ∀ u' sh' R' A', mIn y 38 sh0 R0 A0 sh' R' A' → u' ≤ u0 + 135396 → Q none (mkh (y + 39) u' sh' (up2 F 1227 y (-1)) R' A' B)) : rw_ (k + 1) mX12_init 13 [.ref y] [] (mkh n u sh F R A B) Q := by
  have h1 := mIn_step (q := 1203) (t := 0) (l := 400) h hn rfl (by decide) (by decide)
  rw [rX12_init_13, rX12_init_14, rX12_init_17 (by decide), rX12_init_19 ((h1.1 y (by omega)).trans hy)]
  exact l_mi_02 hy h1 (by omega) (by omega) hQ
theorem l_mi_00 (hy : sh0 y = some (0, 12, 0)) (h : mIn y 0 sh0 R0 A0 sh R A) (hn : n = y + 1) (hu : u ≤ u0 + 0) (hQ : ∀ u' sh' R' A', mIn y 38 sh0 R0 A0 sh' R' A' → u' ≤ u0 + 135396 → Q none (mkh (y + 39) u' sh' (up2 F 1227 y (-1)) R' A' B)) : rw_ (k + 1) mX12_init 4 [.ref y] [] (mkh n u sh F R A B) Q := by
  have h1 := mIn_step (q := 1201) (t := 0) (l := 240) h hn rfl (by decide) (by decide)
  rw [rX12_init_4, rX12_init_5, rX12_init_8 (by decide), rX12_init_10 ((h1.1 y (by omega)).trans hy)]
  exact l_mi_01 hy h1 (by omega) (by omega) hQ
theorem k_init12 (hy : sh y = some (0, 12, 0)) (hQ : ∀ u' sh' R' A', isM sh' R' y → (∀ a, a < y + 1 → sh' a = sh a) → (∀ q a, (q < 1200 ∨ a ≠ y) → R' q a = R q a) → (∀ a, a < y + 1 → A' a = A a) → (∀ k, 1 ≤ k → k ≤ 38 → ∀ j, A' (y + k) j = 0) → u' ≤ u + 135396 → Q none (mkh (y + 39) u' sh' (up2 F 1227 y (-1)) R' A' B)) : rc_ (k + 1) mX12_init [.ref y] (mkh (y + 1) u sh F R A B) Q := by
  rw [eX12_init, rX12_init_0, rX12_init_1]
  refine l_mi_00 (u0 := u) (sh0 := sh) (R0 := R) (A0 := A) hy ⟨fun _ _ => rfl, fun _ _ _ => rfl, fun _ _ => rfl, fun e he => absurd he (by simp)⟩ rfl (Nat.le_refl _) ?_
  intro u' sh' R' A' h hu
  obtain ⟨a1, a2, a3, a4⟩ := h
  have e38 : mRl.take 38 = mRl := rfl
  rw [e38] at a4
  refine hQ u' sh' R' A' ⟨(a1 y (by omega)).trans hy, fun e he => ⟨(a4 e he).1, (a4 e he).2.1⟩⟩ a1 a2 a3 (fun k k1 k2 j => ?_) hu
  have hk : ∃ e, e ∈ mRl ∧ e.2.1 = k := by
    have : ∀ k, k < 39 → 1 ≤ k → ∃ e, e ∈ mRl ∧ e.2.1 = k := by decide
    exact this k (by omega) k1
  obtain ⟨e, he, rfl⟩ := hk
  exact (a4 e he).2.2 j
/-- the state of a new post -/
def T0 : TT := (up2 (up2 (fun _ _ => 0) 18 25 2) 19 25 1, fun _ _ _ => 0, fun _ _ => 0)
theorem MS_T0 {F' A' : hF_} (hF : ∀ q, 1200 ≤ q → q ≠ 1227 → F' q y = 0) (h27 : F' 1227 y = -1) (hA : ∀ k, 1 ≤ k → k ≤ 38 → ∀ j, A' (y + k) j = 0) : MS F' A' y T0 := by
  refine ⟨⟨⟨hF _ (by decide) (by decide), fun j hj => absurd hj (Nat.not_lt_zero _)⟩, hF _ (by decide) (by decide), fun j hj => absurd hj (Nat.not_lt_zero _)⟩, ⟨hF _ (by decide) (by decide), ⟨hA 4 (by decide) (by decide) _, fun j hj => absurd hj (Nat.not_lt_zero _), fun j hj => absurd hj (Nat.not_lt_zero _)⟩, fun j hj => absurd hj (Nat.not_lt_zero _), fun b _ _ => ⟨hA 7 (by decide) (by decide) _, hA 8 (by decide) (by decide) _, hA 9 (by decide) (by decide) _, hA 10 (by decide) (by decide) _, hA 11 (by decide) (by decide) _, hA 12 (by decide) (by decide) _⟩, hA 11 (by decide) (by decide) _⟩, ⟨hF _ (by decide) (by decide), fun z => absurd rfl z, ⟨0, by omega, hF _ (by decide) (by decide), rfl, fun j hj => absurd hj (Nat.not_lt_zero _)⟩, hF _ (by decide) (by decide)⟩, ⟨hF _ (by decide) (by decide), fun j hj => absurd hj (Nat.not_lt_zero _), fun j hj => absurd hj (Nat.not_lt_zero _)⟩, ⟨hF _ (by decide) (by decide), fun z => absurd rfl z⟩, ⟨hF _ (by decide) (by decide), h27, hF _ (by decide) (by decide), hF _ (by decide) (by decide), hF _ (by decide) (by decide), fun j hj => absurd hj (Nat.not_lt_zero _)⟩⟩
end MIN
