/-! ===== the reference: pack ===== -/
def bv8 (bt : Nat → Bool) (q : Nat) : Nat → Nat
  | 0 => 0
  | b + 1 => 2 * bv8 bt q b + b2 (bt (8 * q + b)) 1
theorem bv8_byt {bt : Nat → Bool} {q : Nat} : bv8 bt q 8 = byt bt q := by
  unfold byt
  rw [b2_mul (w := 128), b2_mul (w := 64), b2_mul (w := 32), b2_mul (w := 16), b2_mul (w := 8), b2_mul (w := 4), b2_mul (w := 2)]
  simp only [bv8, Nat.add_zero]
  omega
theorem bv8_lt {bt : Nat → Bool} {q : Nat} : ∀ b, bv8 bt q b < 2 ^ b
  | 0 => by show 0 < 1; omega
  | b + 1 => by
    have h1 := bv8_lt (bt := bt) (q := q) b
    have h2 := b2_le1 (b := bt (8 * q + b))
    unfold bv8
    rw [Nat.pow_succ]
    omega
section MPK
variable {k n u : Nat} {sh : hs_} {F F' : hF_} {R : hR_} {A A' : hF_} {B : hR_} {Q : Option Value → pm_H → Prop} {y : Nat} {st S : wst} {T : TT} {b m c s : Nat} {E f : Nat → Nat} {bi : Int32} {rk : Bool} {x1 x2 x3 x4 x5 : Value}
theorem bx_b5 {i : Int32} {nb : Nat} (h : bx i nb = some b) (hn : nb ≤ 24) : i + nI 1 = nI (b5 b) ∧ b5 b ≤ 24 := by
  unfold bx at h
  by_cases e : i = -1
  · rw [if_pos e] at h
    have e2 : 25 = b := Option.some.inj h
    subst e2
    rw [e]
    exact ⟨by decide, by decide⟩
  · rw [if_neg e] at h
    obtain ⟨h1, h2, rfl⟩ := ix_some h
    unfold b5
    rw [if_neg (by omega), nI_add]
    exact ⟨rfl, by omega⟩
/-- parts are written, and noted -/
def frK12 (y : Nat) (F : hF_) (A : hF_) (F' : hF_) (A' : hF_) : Prop := (∀ q a, ¬ ((q = 1247 ∨ q = 1241) ∧ a = y) → F' q a = F q a) ∧ ∀ a, a ≠ y + 32 → ¬ (y + 28 ≤ a ∧ a ≤ y + 30) → A' a = A a
def isPk12 (A : hF_) (y m np : Nat) (kd ln : Nat → Nat) (pa : Nat → Int32) : Prop := ∀ q, q < np → sop ln m q < m ∧ A (y + 28) q = nI (kd (sop ln m q)) ∧ A (y + 29) q = pa (sop ln m q) ∧ A (y + 30) q = nI (ln (sop ln m q))
theorem l_pk {kd pp ln bl : Nat → Nat} {pa : Nat → Int32} (hM : isM sh R y) (h32 : F 1232 y = nI m) (hm : m ≤ 120) (hB : mBo A y bi c s E f rk) (hE : okE E c s) (hc : c ≤ 20) (hs : s ≤ 320) (hl : ∀ j, j < m → A (y + 22) j = nI (bl j) ∧ bl j < 256) (hpl : ∀ j, j < m → A (y + 25) j = nI (kd j) ∧ A (y + 26) j = pa j ∧ A (y + 27) j = nI (ln j)) (hok : ∀ j, j < m → kd j < 4 ∧ (kd j ≠ 0 → pa j = nI (pp j) ∧ pp j < 2 ^ 13) ∧ 1 ≤ ln j ∧ j + ln j ≤ m ∧ (kd j = 1 ∨ kd j = 2 → 3 ≤ ln j)) (hS : S.2 ≤ 2000)
    (hQ : ∀ F' A' np x3, frK12 y F A F' A' → isW12 F' A' y S → np ≤ m → F' 1241 y = nI np → sop ln m np = m → isPk12 A' y m np kd ln pa → rw_ (k + 3) mX12_pack 141 [.ref y, .int bi, x2, x3, x4, x5] [] (mkh n u sh F' R A' B) Q) :
    ∀ d i np st F1 A1, m ≤ i + d → i ≤ m → np ≤ i → sop ln m np = i → frK12 y F A F1 A1 → isW12 F1 A1 y st → F1 1241 y = nI np → isPk12 A1 y m np kd ln pa → wrL kd pp ln bl s m d i st = S → rw_ (k + 3) mX12_pack 60 [.ref y, .int bi, x2, .int (nI i), x4, x5] [] (mkh n u sh F1 R A1 B) Q := by
  have r25 := hM.r 1235 25 0 241 (by decide)
  have s25 := hM.s 1235 25 0 241 (by decide)
  have r26 := hM.r 1236 26 0 241 (by decide)
  have s26 := hM.s 1236 26 0 241 (by decide)
  have r27 := hM.r 1237 27 0 241 (by decide)
  have s27 := hM.s 1237 27 0 241 (by decide)
  have r28 := hM.r 1242 28 0 120 (by decide)
  have s28 := hM.s 1242 28 0 120 (by decide)
  have r29 := hM.r 1243 29 0 120 (by decide)
  have s29 := hM.s 1243 29 0 120 (by decide)
  have r30 := hM.r 1244 30 0 120 (by decide)
  have s30 := hM.s 1244 30 0 120 (by decide)
  intro d
  induction d with
  | zero =>
    intro i np st F1 A1 h1 h2 h3 h4 f1 f2 f3 f4 f5
    have e : i = m := by omega
    subst e
    have e32 : F1 1232 y = nI i := by rw [f1.1 _ _ (by omega)]; exact h32
    have g1 : nI i ≤ nI i := nI_le (Nat.le_refl _) (by omega)
    simp only [rX12_pack_60, rX12_pack_61, rX12_pack_62, rX12_pack_65, hM.1, e32, g1, up2_eq, va_rf, eq_self, or_true, true_or, Option.toList_some, Option.toList_none, List.cons_append, List.nil_append, if_true, if_false]
    have f5' : st = S := f5
    rw [f5'] at f2
    exact hQ F1 A1 np _ f1 f2 h3 f3 h4 f4
  | succ d ih =>
    intro i np st F1 A1 h1 h2 h3 h4 f1 f2 f3 f4 f5
    have e32 : F1 1232 y = nI m := by rw [f1.1 _ _ (by omega)]; exact h32
    by_cases c0 : i < m
    · have g1 : ¬ nI m ≤ nI i := nI_ge (by omega) (by omega)
      obtain ⟨p1, p2, p3⟩ := hpl i c0
      obtain ⟨o1, o2, o3, o4, o5⟩ := hok i c0
      have f5' : wrL kd pp ln bl s m d (i + ln i) (ptS st (kd i) (pp i) (ln i) i s bl) = S := by
        unfold wrL at f5
        rw [if_pos c0] at f5
        exact f5
      have hle := wrL_le (kd := kd) (pp := pp) (ln := ln) (bl := bl) (s := s) (m := m) d (i + ln i) (ptS st (kd i) (pp i) (ln i) i s bl)
      rw [f5', ptS_2] at hle
      simp only [rX12_pack_60, rX12_pack_61, rX12_pack_62, rX12_pack_65, rX12_pack_68, rX12_pack_69, rX12_pack_70, hM.1, e32, g1, up2_eq, va_rf, eq_self, or_true, true_or, Option.toList_some, Option.toList_none, List.cons_append, List.nil_append, if_true, if_false]
      rw [rX12_pack_71 hM.1]
      refine k_writePart (k := k) (bl := bl) (p := pp i) (m := m) hM f2 (mBo_cong hB (fun a x1 x2 => f1.2 _ (by omega) (by omega))) hE hc hs hm o4 o3 (fun j hj => by rw [f1.2 _ (by omega) (by omega)]; exact hl j hj) (by rw [f1.2 _ (by omega) (by omega)]; exact p1) (by rw [f1.2 _ (by omega) (by omega)]; exact p2) (by rw [f1.2 _ (by omega) (by omega)]; exact p3) o1 o2 o5 (by omega) ?_
      intro F2 A2 q1 q2
      have e41 : F2 1241 y = nI np := by rw [q1.1 _ _ (by omega)]; exact f3
      have e25 : A2 (y + 25) i = nI (kd i) := by rw [q1.2 _ (by omega), f1.2 _ (by omega) (by omega)]; exact p1
      have e26 : A2 (y + 26) i = pa i := by rw [q1.2 _ (by omega), f1.2 _ (by omega) (by omega)]; exact p2
      have e27 : A2 (y + 27) i = nI (ln i) := by rw [q1.2 _ (by omega), f1.2 _ (by omega) (by omega)]; exact p3
      simp only [rX12_pack_74, rX12_pack_75, rX12_pack_78, rX12_pack_79, rX12_pack_82, rX12_pack_83, rX12_pack_86, hM.1, r28, r25, e41, up2_eq, va_rf, eq_self, or_true, true_or, Option.toList_some, Option.toList_none, List.cons_append, List.nil_append, if_true, if_false]
      rw [rX12_pack_87 s25 (by decide) (by omega) (by omega), e25]
      rw [rX12_pack_88 s28 (by omega) (by omega)]
      simp only [rX12_pack_89, rX12_pack_90, rX12_pack_93, rX12_pack_94, rX12_pack_97, rX12_pack_98, rX12_pack_101, hM.1, r29, r26, e41, up2_eq, va_rf, eq_self, or_true, true_or, Option.toList_some, Option.toList_none, List.cons_append, List.nil_append, if_true, if_false]
      rw [rX12_pack_102 s26 (by decide) (by omega) (by omega), up2_k (by omega), e26]
      rw [rX12_pack_103 s29 (by omega) (by omega)]
      simp only [rX12_pack_104, rX12_pack_105, rX12_pack_108, rX12_pack_109, rX12_pack_112, rX12_pack_113, rX12_pack_116, hM.1, r30, r27, e41, up2_eq, va_rf, eq_self, or_true, true_or, Option.toList_some, Option.toList_none, List.cons_append, List.nil_append, if_true, if_false]
      rw [rX12_pack_117 s27 (by decide) (by omega) (by omega), up2_k (by omega), up2_k (by omega), e27]
      rw [rX12_pack_118 s30 (by omega) (by omega)]
      simp only [rX12_pack_119, rX12_pack_120, rX12_pack_121, rX12_pack_124, rX12_pack_125, rX12_pack_126, rX12_pack_129, rX12_pack_130, rX12_pack_131, rX12_pack_134, hM.1, r27, e41, nI_add, up2_eq, va_rf, eq_self, or_true, true_or, Option.toList_some, Option.toList_none, List.cons_append, List.nil_append, if_true, if_false]
      rw [rX12_pack_135 s27 (by decide) (by omega) (by omega), up2_k (by omega), up2_k (by omega), up2_k (by omega), e27]
      simp only [rX12_pack_136, rX12_pack_137, rX12_pack_138, nI_add, up2_eq, va_rf, eq_self, or_true, true_or, Option.toList_some, Option.toList_none, List.cons_append, List.nil_append, if_true, if_false]
      refine ih (i + ln i) (np + 1) (ptS st (kd i) (pp i) (ln i) i s bl) _ _ (by omega) o4 (by omega) ?_ ⟨fun q a g => ?_, fun a g1 g2 => ?_⟩ ⟨?_, fun j hj => ?_⟩ up2_eq (fun q hq => ?_) f5'
      · unfold sop
        rw [h4, if_pos c0]
      · rw [up2_o (by omega), q1.1 _ _ (by omega)]
        exact f1.1 q a g
      · rw [up2_row (by omega), up2_row (by omega), up2_row (by omega), q1.2 _ g1]
        exact f1.2 a g1 g2
      · rw [up2_k (by decide)]
        exact q2.1
      · rw [up2_k (by omega), up2_k (by omega), up2_k (by omega)]
        exact q2.2 j hj
      · by_cases e : q = np
        · subst e
          rw [h4]
          refine ⟨c0, ?_, ?_, up2_eq⟩
          · rw [up2_k (by omega), up2_k (by omega), up2_eq]
          · rw [up2_k (by omega), up2_eq]
        · obtain ⟨z1, z2, z3, z4⟩ := f4 q (by omega)
          refine ⟨z1, ?_, ?_, ?_⟩
          · rw [up2_k (by omega), up2_k (by omega), up2_a e, q1.2 _ (by omega)]; exact z2
          · rw [up2_k (by omega), up2_a e, up2_k (by omega), q1.2 _ (by omega)]; exact z3
          · rw [up2_a e, up2_k (by omega), up2_k (by omega), q1.2 _ (by omega)]; exact z4
    · have e : i = m := by omega
      subst e
      have g1 : nI i ≤ nI i := nI_le (Nat.le_refl _) (by omega)
      simp only [rX12_pack_60, rX12_pack_61, rX12_pack_62, rX12_pack_65, hM.1, e32, g1, up2_eq, va_rf, eq_self, or_true, true_or, Option.toList_some, Option.toList_none, List.cons_append, List.nil_append, if_true, if_false]
      have f5' : st = S := by
        unfold wrL at f5
        rw [if_neg c0] at f5
        exact f5
      rw [f5'] at f2
      exact hQ F1 A1 np _ f1 f2 h3 f3 h4 f4
theorem l_pkRest (hM : isM sh R y) (h32 : F 1232 y = nI m) (hm : m ≤ 120)
    (hQ : ∀ A' x3, (∀ a, a ≠ y + 31 → A' a = A a) → (∀ j, j ≤ m → A' (y + 31) j = A (y + 23) j) → rw_ k mX12_pack 190 [.ref y, x1, x2, x3, x4, x5] [] (mkh n u sh F R A' B) Q) :
    ∀ d i A1, i + d = m + 1 → (∀ a, a ≠ y + 31 → A1 a = A a) → (∀ j, j < i → A1 (y + 31) j = A (y + 23) j) → rw_ k mX12_pack 164 [.ref y, x1, x2, .int (nI i), x4, x5] [] (mkh n u sh F R A1 B) Q := by
  have r23 := hM.r 1233 23 0 241 (by decide)
  have s23 := hM.s 1233 23 0 241 (by decide)
  have r31 := hM.r 1245 31 0 121 (by decide)
  have s31 := hM.s 1245 31 0 121 (by decide)
  intro d
  induction d with
  | zero =>
    intro i A1 hi f1 f2
    have g1 : nI m < nI i := nI_lt (by omega) (by omega)
    simp only [rX12_pack_164, rX12_pack_165, rX12_pack_166, rX12_pack_169, hM.1, h32, g1, up2_eq, va_rf, eq_self, or_true, true_or, Option.toList_some, Option.toList_none, List.cons_append, List.nil_append, if_true, if_false]
    exact hQ A1 _ f1 (fun j hj => f2 j (by omega))
  | succ d ih =>
    intro i A1 hi f1 f2
    have g1 : ¬ nI m < nI i := nI_nlt (by omega) (by omega)
    simp only [rX12_pack_164, rX12_pack_165, rX12_pack_166, rX12_pack_169, rX12_pack_172, rX12_pack_173, rX12_pack_176, rX12_pack_177, rX12_pack_178, rX12_pack_181, hM.1, h32, g1, r31, r23, up2_eq, va_rf, eq_self, or_true, true_or, Option.toList_some, Option.toList_none, List.cons_append, List.nil_append, if_true, if_false]
    rw [rX12_pack_182 s23 (by decide) (by omega) (by omega)]
    rw [rX12_pack_183 s31 (by omega) (by omega)]
    simp only [rX12_pack_184, rX12_pack_187, nI_add, up2_eq, va_rf, eq_self, or_true, true_or, Option.toList_some, Option.toList_none, List.cons_append, List.nil_append, if_true, if_false]
    refine ih (i + 1) _ (by omega) (fun a ha => by rw [up2_row ha]; exact f1 a ha) (fun j hj => ?_)
    by_cases e : j = i
    · subst e; rw [up2_eq, f1 _ (by omega)]
    · rw [up2_a e]; exact f2 j (by omega)
theorem l_pkPad (hM : isM sh R y) (hS : S.2 ≤ 2000) (hok : okW S)
    (hQ : ∀ F' A', frW12 y F A F' A' → isW12 F' A' y (S.1, 8 * ((S.2 + 7) / 8)) → rw_ (k + 1) mX12_pack 209 [.ref y, x1, x2, x3, x4, x5] [] (mkh n u sh F' R A' B) Q) :
    ∀ d w F1 A1, w + d = 8 * ((S.2 + 7) / 8) → S.2 ≤ w → frW12 y F A F1 A1 → isW12 F1 A1 y (S.1, w) → rw_ (k + 1) mX12_pack 190 [.ref y, x1, x2, x3, x4, x5] [] (mkh n u sh F1 R A1 B) Q := by
  intro d
  induction d with
  | zero =>
    intro w F1 A1 h1 h2 f1 f2
    have e : w = 8 * ((S.2 + 7) / 8) := by omega
    have e47 : F1 1247 y = nI w := f2.1
    have g1 : nI (w % 8) = nI 0 := by rw [show w % 8 = 0 by omega]
    simp only [rX12_pack_190, rX12_pack_191, rX12_pack_194, hM.1, e47, up2_eq, va_rf, eq_self, or_true, true_or, Option.toList_some, Option.toList_none, List.cons_append, List.nil_append, if_true, if_false]
    rw [rX12_pack_196 (by decide), pk_rem (by omega) (by omega) (by omega)]
    simp only [rX12_pack_197, g1, up2_eq, va_rf, eq_self, or_true, true_or, Option.toList_some, Option.toList_none, List.cons_append, List.nil_append, if_true, if_false]
    rw [e] at f2
    exact hQ F1 A1 f1 f2
  | succ d ih =>
    intro w F1 A1 h1 h2 f1 f2
    have e47 : F1 1247 y = nI w := f2.1
    have g1 : ¬ nI (w % 8) = nI 0 := nI_ne0 (by omega) (by omega)
    simp only [rX12_pack_190, rX12_pack_191, rX12_pack_194, hM.1, e47, up2_eq, va_rf, eq_self, or_true, true_or, Option.toList_some, Option.toList_none, List.cons_append, List.nil_append, if_true, if_false]
    rw [rX12_pack_196 (by decide), pk_rem (by omega) (by omega) (by omega)]
    simp only [rX12_pack_197, rX12_pack_200, rX12_pack_201, rX12_pack_202, g1, up2_eq, va_rf, eq_self, or_true, true_or, Option.toList_some, Option.toList_none, List.cons_append, List.nil_append, if_true, if_false]
    rw [rX12_pack_203 hM.1]
    refine k_write12 (a := 0) (nb := 1) hM f2 (by omega) (by omega) (by show w + 1 ≤ 2400; omega) ?_
    intro F2 A2 q1 q2
    have ew : wS (S.1, w) 0 1 = (S.1, w + 1) := Prod.ext (byt_false (hok w h2)) rfl
    rw [ew] at q2
    simp only [rX12_pack_206, up2_eq, va_rf, eq_self, or_true, true_or, Option.toList_some, Option.toList_none, List.cons_append, List.nil_append, if_true, if_false]
    exact ih (w + 1) F2 A2 (by omega) (by omega) (frW12_trans f1 q1) q2
theorem l_pkByte {q W : Nat} {bt : Nat → Bool} (hM : isM sh R y) (h : ∀ j, j < 8 * W → A (y + 32) j = nI (b2 (bt j) 1)) (hq : q < W) (hW : W ≤ 240)
    (hQ : ∀ x5, rw_ k mX12_pack 268 [.ref y, x1, x2, .int (nI q), .int (nI (byt bt q)), x5] [] (mkh n u sh F R A B) Q) :
    ∀ d b, b + d = 8 → rw_ k mX12_pack 236 [.ref y, x1, x2, .int (nI q), .int (nI (bv8 bt q b)), .int (nI b)] [] (mkh n u sh F R A B) Q := by
  have r32 := hM.r 1246 32 0 2400 (by decide)
  have s32 := hM.s 1246 32 0 2400 (by decide)
  intro d
  induction d with
  | zero =>
    intro b hb
    have e : b = 8 := by omega
    subst e
    rw [bv8_byt]
    have g1 : nI 8 ≤ nI 8 := by decide
    simp only [rX12_pack_236, rX12_pack_238, rX12_pack_240, g1, up2_eq, va_rf, eq_self, or_true, true_or, Option.toList_some, Option.toList_none, List.cons_append, List.nil_append, if_true, if_false]
    exact hQ _
  | succ d ih =>
    intro b hb
    have g1 : ¬ nI 8 ≤ nI b := nI_ge (by omega) (by omega)
    simp only [rX12_pack_236, rX12_pack_238, rX12_pack_240, rX12_pack_243, rX12_pack_244, rX12_pack_246, rX12_pack_247, rX12_pack_248, rX12_pack_251, rX12_pack_253, rX12_pack_254, rX12_pack_255, rX12_pack_257, hM.1, g1, r32, pk_mul, nI_add, up2_eq, va_rf, eq_self, or_true, true_or, Option.toList_some, Option.toList_none, List.cons_append, List.nil_append, if_true, if_false]
    rw [rX12_pack_258 s32 (by decide) (by omega) (by omega), h _ (by omega)]
    simp only [rX12_pack_259, rX12_pack_260, rX12_pack_262, rX12_pack_265, nI_add, up2_eq, va_rf, eq_self, or_true, true_or, Option.toList_some, Option.toList_none, List.cons_append, List.nil_append, if_true, if_false]
    exact ih (b + 1) (by omega)
theorem l_pkOut {W : Nat} {bt : Nat → Bool} (hM : isM sh R y) (h : ∀ j, j < 8 * W → A (y + 32) j = nI (b2 (bt j) 1)) (hW : W ≤ 240) (h04 : F 1204 y = nI W)
    (hQ : ∀ A' x3 x4 x5, (∀ a, a ≠ y + 2 → A' a = A a) → (∀ j, j < W → A' (y + 2) j = nI (byt bt j)) → rw_ k mX12_pack 282 [.ref y, x1, x2, x3, x4, x5] [] (mkh n u sh F R A' B) Q) :
    ∀ d q A1 x4 x5, q + d = W → (∀ a, a ≠ y + 2 → A1 a = A a) → (∀ j, j < q → A1 (y + 2) j = nI (byt bt j)) → rw_ k mX12_pack 222 [.ref y, x1, x2, .int (nI q), x4, x5] [] (mkh n u sh F R A1 B) Q := by
  have r2 := hM.r 1203 2 0 400 (by decide)
  have s2 := hM.s 1203 2 0 400 (by decide)
  intro d
  induction d with
  | zero =>
    intro q A1 x4 x5 hq f1 f2
    have e : q = W := by omega
    subst e
    have g1 : nI q ≤ nI q := nI_le (Nat.le_refl _) (by omega)
    simp only [rX12_pack_222, rX12_pack_223, rX12_pack_224, rX12_pack_227, hM.1, h04, g1, up2_eq, va_rf, eq_self, or_true, true_or, Option.toList_some, Option.toList_none, List.cons_append, List.nil_append, if_true, if_false]
    exact hQ A1 _ _ _ f1 f2
  | succ d ih =>
    intro q A1 x4 x5 hq f1 f2
    have g1 : ¬ nI W ≤ nI q := nI_ge (by omega) (by omega)
    simp only [rX12_pack_222, rX12_pack_223, rX12_pack_224, rX12_pack_227, rX12_pack_230, rX12_pack_231, rX12_pack_233, rX12_pack_234, hM.1, h04, g1, up2_eq, va_rf, eq_self, or_true, true_or, Option.toList_some, Option.toList_none, List.cons_append, List.nil_append, if_true, if_false]
    refine l_pkByte (bt := bt) (W := W) hM (fun j hj => by rw [f1 _ (by omega)]; exact h j hj) (by omega) hW ?_ 8 0 rfl
    intro x5
    simp only [rX12_pack_268, rX12_pack_269, rX12_pack_272, rX12_pack_273, hM.1, r2, up2_eq, va_rf, eq_self, or_true, true_or, Option.toList_some, Option.toList_none, List.cons_append, List.nil_append, if_true, if_false]
    rw [rX12_pack_275 s2 (by omega) (by omega)]
    simp only [rX12_pack_276, rX12_pack_279, nI_add, up2_eq, va_rf, eq_self, or_true, true_or, Option.toList_some, Option.toList_none, List.cons_append, List.nil_append, if_true, if_false]
    refine ih (q + 1) _ _ _ (by omega) (fun a ha => by rw [up2_row ha]; exact f1 a ha) (fun j hj => ?_)
    by_cases e : j = q
    · subst e; rw [up2_eq]
    · rw [up2_a e]; exact f2 j (by omega)
theorem MS_pk {np : Nat} (h : MS F A y T) (hT : okT T) (hF : ∀ q, ¬ (q = 1200 ∨ q = 1202 ∨ q = 1204 ∨ q = 1232 ∨ (1238 ≤ q ∧ q ≤ 1241) ∨ q = 1247) → F' q y = F q y) (hA : ∀ k, 1 ≤ k → k ≤ 38 → ¬ (k = 2 ∨ (22 ≤ k ∧ k ≤ 32)) → A' (y + k) = A (y + k)) (e1 : F' 1202 y = nI 0) (e2 : F' 1204 y = nI (((wrT T.1 T.2.1 b (T.1 0 0) (T.1 30)).2 + 7) / 8)) (e3 : ∀ j, j < ((wrT T.1 T.2.1 b (T.1 0 0) (T.1 30)).2 + 7) / 8 → A' (y + 2) j = nI (byt (wrT T.1 T.2.1 b (T.1 0 0) (T.1 30)).1 j)) (e4 : F' 1238 y = nI 1) (e5 : F' 1239 y = nI (T.1 0 0)) (e6 : F' 1240 y = nI (wrT T.1 T.2.1 b (T.1 0 0) (T.1 30)).2) (e7 : ∀ j, j ≤ T.1 0 0 → A' (y + 31) j = nI (plT T.1 T.2.1 b (T.1 0 0) (T.1 30) j).1) (hnp : np ≤ 120) (e8 : F' 1241 y = nI np) (e9 : sop (fun j => (plT T.1 T.2.1 b (T.1 0 0) (T.1 30) j).2.2.2.2) (T.1 0 0) np = T.1 0 0) (e10 : isPk12 A' y (T.1 0 0) np (fun j => (plT T.1 T.2.1 b (T.1 0 0) (T.1 30) j).2.2.1) (fun j => (plT T.1 T.2.1 b (T.1 0 0) (T.1 30) j).2.2.2.2) (fun j => (plT T.1 T.2.1 b (T.1 0 0) (T.1 30) j).2.2.2.1)) : MS F' A' y (pkT T b) := by
  obtain ⟨a1, a2, a3, a4, a5, a6⟩ := h
  obtain ⟨d1, d2, d3, d4⟩ := hT.2.2.1
  have dsum := okE_sum _ d2 (fun q hq => (d3 q hq).2) (T.1 4 24) (Nat.le_refl _)
  rw [d2.2] at dsum
  have b1 := hT.2.2.2.1.1
  refine ⟨⟨⟨e1, fun j hj => absurd hj (Nat.not_lt_zero _)⟩, e2, e3⟩, ?_, ⟨e4, fun _ => ⟨e5, e6, e7⟩, ⟨np, hnp, e8, e9, e10⟩, ?_⟩, ?_, ?_, ?_⟩
  · exact mBk_cong (T := T) a2 b1 d1 (by omega) (fun b hb => ⟨(hT.2.2.2.1.2.1 b (Or.inl hb)).1.2.1, (hT.2.2.2.1.2.1 b (Or.inl hb)).1.2.2.1⟩) (hF _ (by omega)) (fun j _ => by rw [hA 3 (by omega) (by omega) (by omega)]) (fun j _ => by rw [hA 4 (by omega) (by omega) (by omega)]) (fun j _ => by rw [hA 5 (by omega) (by omega) (by omega)]) (fun j _ => by rw [hA 6 (by omega) (by omega) (by omega)]) (fun k k1 k2 => hA k (by omega) (by omega) (by omega))
  · rw [hF _ (by omega)]
    exact a3.2.2.2
  · exact mSm_cong (T := T) a4 (hF _ (by omega)) (hA _ (by omega) (by omega) (by omega)) (hA _ (by omega) (by omega) (by omega))
  · exact mGa_cong (T := T) a5 (fun q q1 q2 => hF q (by omega)) (hA _ (by omega) (by omega) (by omega))
  · exact mWi_cong (T := T) a6 (fun q hq => hF q (by omega)) (fun k k1 k2 => hA k (by omega) (by omega) (by omega))
end MPK
