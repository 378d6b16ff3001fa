/-! ===== the reference: LEAST ===== -/
/-- the rows at byte i while offers come; all else as before -/
def ivL (A0 A1 : hF_) (y i m : Nat) (P T : Nat → Nat) (o : o5) : Prop := reA A1 (y + 22) i m P T o ∧ (∀ a, (a < y + 23 ∨ y + 27 < a) → A1 a = A0 a) ∧ ∀ a j, j ≠ i → A1 a j = A0 a j
section MLS
variable {k n u : Nat} {sh : hs_} {F : hF_} {R : hR_} {A A0 A1 : hF_} {B : hR_} {Q : Option Value → pm_H → Prop} {y : Nat} {c s m i : Nat} {E f : Nat → Nat} {bi : Int32} {rk : Bool} {lf : Nat → Int32} {P T : Nat → Nat} {o : o5}
theorem ivL_off {kd nn bits : Nat} {pl : Int32} (h : ivL A0 A1 y i m P T o) (hP : smP P T m) (hn : 0 < nn) (hi : i + nn ≤ m) (hb : bits < 2 ^ 19) : ivL A0 (offA A1 (y + 22) i (nI kd) pl nn (nI bits)) y i m P T (ofr P T i o kd pl nn bits) :=
  ⟨reA_off h.1 hP hn hi hb, fun a ha => by rw [offA_out (by omega)]; exact h.2.1 a ha, fun a j hj => by rw [offA_ne hj]; exact h.2.2 a j hj⟩
theorem ivL_own0 (h0 : A (y + 22 + 1) i = nI 1000000) (hc : ∀ j, i < j → j ≤ m → A (y + 22 + 1) j = nI (P j) ∧ A (y + 22 + 2) j = nI (T j)) (hP : smP P T m) (hi : i < m) : ivL A (offA A (y + 22) i (nI 0) (-1) 1 (nI 11)) y i m P T (ownS P T i 0) := by
  obtain ⟨c1, c2⟩ := hc (i + 1) (by omega) (by omega)
  obtain ⟨p1, p2⟩ := hP (i + 1) (by omega)
  obtain ⟨e1, e2, e3, e4, e5⟩ := offA_at (A := A) (pk := y + 22) (i := i) (n := 1) (kd := nI 0) (pl := -1) (bits := nI 11) (Or.inl (by rw [c1, h0, nI_add]; exact nI_lt (by omega) (by omega)))
  refine ⟨⟨⟨?_, ?_, e3, e4, e5⟩, ⟨?_, ?_⟩, fun j h1 h2 => ?_⟩, fun a ha => offA_out (by omega), fun a j hj => offA_ne hj⟩
  · rw [e1, c1, nI_add]; rfl
  · rw [e2, c2, nI_add]; rfl
  · show 11 + P (i + 1) < 2 ^ 21; omega
  · show 1 + T (i + 1) < 2 ^ 21; omega
  · rw [offA_ne (by omega), offA_ne (by omega)]
    exact hc j h1 h2
theorem k_toldLongO {p : Nat} (hM : isM sh R y) (h : mBo A y bi c s E f rk) (hE : okE E c s) (hc : c ≤ 20) (hs : s ≤ 4000) (h32 : F 1232 y = nI m) (hm : m ≤ 120) (hi : i < m) (hp : p < s) (hl : ∀ j, j < m → A (y + 22) j = lf j) : rc_ (k + 2) mX12_toldLong [.ref y, .int bi, .int (nI i), .int (nI p)] (mkh n u sh F R A B) Q ↔ Q (some (.int (nI (tol lf (fI f) m c E i p)))) (mkh n u sh F R A B) := by
  rcases h with ⟨-, -, rfl, -⟩ | ⟨b, kd, g1, rfl, g3, -⟩
  · exact absurd hp (Nat.not_lt_zero _)
  · exact k_toldLong hM g1 g3 hE hc hs h32 hm hi hp hl
theorem k_isWholeO {q : Nat} (hM : isM sh R y) (h : mBo A y bi c s E f rk) (hE : okE E c s) (hc : c ≤ 20) (hs : s ≤ 4000) (h32 : F 1232 y = nI m) (hm : m ≤ 120) (hi : i < m) (hq : q < c) (hl : ∀ j, j < m → A (y + 22) j = lf j) : rc_ (k + 2) mX12_isWhole [.ref y, .int bi, .int (nI q), .int (nI i)] (mkh n u sh F R A B) Q ↔ Q (some (.int (if whl lf (fI f) m E i q = true then nI 1 else nI 0))) (mkh n u sh F R A B) := by
  rcases h with ⟨-, rfl, -, -⟩ | ⟨b, kd, g1, rfl, g3, -⟩
  · exact absurd hq (Nat.not_lt_zero _)
  · exact k_isWhole hM g1 g3 hE hc hs h32 hm hi hq hl
theorem k_pieceLongO {q : Nat} (hM : isM sh R y) (h : mBo A y bi c s E f rk) (hE : okE E c s) (hc : c ≤ 20) (hq : q < c) : rc_ (k + 1) mX12_pieceLong [.ref y, .int bi, .int (nI q)] (mkh n u sh F R A B) Q ↔ Q (some (.int (nI (E q - pst E q)))) (mkh n u sh F R A B) := by
  rcases h with ⟨-, rfl, -, -⟩ | ⟨b, kd, g1, rfl, g3, -⟩
  · exact absurd hq (Nat.not_lt_zero _)
  · exact k_pieceLong12 hM g1 g3 hE hc hq
theorem l_fOwn {w x1 x5 x6 : Value} (hM : isM sh R y) (h32 : F 1232 y = nI m) (hm : m ≤ 120) (hi : i < m) (hP : smP P T m)
    (hQ : ∀ A1 x4, ivL A0 A1 y i m P T (ownS P T i (m - i - 1)) → rw_ (k + 3) mX12_findLeast 105 [.ref y, x1, w, .int (nI i), x4, x5, x6] [] (mkh n u sh F R A1 B) Q) :
    ∀ d e A1, e + d + 1 = m - i → ivL A0 A1 y i m P T (ownS P T i e) → rw_ (k + 3) mX12_findLeast 59 [.ref y, x1, w, .int (nI i), .int (nI (e + 2)), x5, x6] [] (mkh n u sh F R A1 B) Q := by
  intro d
  induction d with
  | zero =>
    intro e A1 he h
    have e1 : e = m - i - 1 := by omega
    subst e1
    by_cases c1 : 120 < m - i - 1 + 2
    · have g1 : nI 120 < nI (m - i - 1 + 2) := nI_lt c1 (by omega)
      simp only [rX12_findLeast_59, rX12_findLeast_61, rX12_findLeast_63, g1, up2_eq, va_rf, eq_self, or_true, true_or, Option.toList_some, Option.toList_none, List.cons_append, List.nil_append, if_true, if_false]
      exact hQ A1 _ h
    · have g1 : ¬ nI 120 < nI (m - i - 1 + 2) := nI_nlt (by omega) (by omega)
      have g2 : nI m < nI (i + (m - i - 1 + 2)) := nI_lt (by omega) (by omega)
      simp only [rX12_findLeast_59, rX12_findLeast_61, rX12_findLeast_63, rX12_findLeast_66, rX12_findLeast_67, rX12_findLeast_69, rX12_findLeast_70, rX12_findLeast_71, rX12_findLeast_74, g1, g2, hM.1, h32, nI_add, up2_eq, va_rf, eq_self, or_true, true_or, Option.toList_some, Option.toList_none, List.cons_append, List.nil_append, if_true, if_false]
      exact hQ A1 _ h
  | succ d ih =>
    intro e A1 he h
    have g1 : ¬ nI 120 < nI (e + 2) := nI_nlt (by omega) (by omega)
    have g2 : ¬ nI m < nI (i + (e + 2)) := nI_nlt (by omega) (by omega)
    have hg := gm_120 (n := e + 2) (by omega)
    simp only [rX12_findLeast_59, rX12_findLeast_61, rX12_findLeast_63, rX12_findLeast_66, rX12_findLeast_67, rX12_findLeast_69, rX12_findLeast_70, rX12_findLeast_71, rX12_findLeast_74, rX12_findLeast_77, rX12_findLeast_78, rX12_findLeast_79, rX12_findLeast_80, rX12_findLeast_81, rX12_findLeast_83, rX12_findLeast_84, g1, g2, hM.1, h32, nI_add, up2_eq, va_rf, eq_self, or_true, true_or, Option.toList_some, Option.toList_none, List.cons_append, List.nil_append, if_true, if_false]
    rw [rX12_findLeast_86, k_g (by omega) (by omega)]
    simp only [rX12_findLeast_89, rX12_findLeast_90, rX12_findLeast_92, rX12_findLeast_94, rX12_findLeast_95, nI_add, pk_mul, up2_eq, va_rf, eq_self, or_true, true_or, Option.toList_some, Option.toList_none, List.cons_append, List.nil_append, if_true, if_false]
    rw [rX12_findLeast_96 hM.1, k_offer12 hM (by omega)]
    simp only [rX12_findLeast_99, rX12_findLeast_102, nI_add, up2_eq, va_rf, eq_self, or_true, true_or, Option.toList_some, Option.toList_none, List.cons_append, List.nil_append, if_true, if_false]
    exact ih (e + 1) _ (by omega) (ivL_off (kd := 0) h hP (by omega) (by omega) (by omega))
theorem l_fTold1 {w p mo : Nat} {x1 : Value} (hM : isM sh R y) (hm : m ≤ 120) (hP : smP P T m) (hmo : mo ≤ m - i) (hw : w ≤ 30)
    (hQ : ∀ A1 x6, ivL A0 A1 y i m P T (cinS P T i 1 (nI p) (2 + w) 3 o (mo - 2)) → rw_ (k + 3) mX12_findLeast 165 [.ref y, x1, .int (nI w), .int (nI i), .int (nI p), .int (nI mo), x6] [] (mkh n u sh F R A1 B) Q) :
    ∀ d e A1, e + d = mo - 2 → ivL A0 A1 y i m P T (cinS P T i 1 (nI p) (2 + w) 3 o e) → rw_ (k + 3) mX12_findLeast 131 [.ref y, x1, .int (nI w), .int (nI i), .int (nI p), .int (nI mo), .int (nI (3 + e))] [] (mkh n u sh F R A1 B) Q := by
  intro d
  induction d with
  | zero =>
    intro e A1 he h
    have e1 : e = mo - 2 := by omega
    subst e1
    have g1 : nI mo < nI (3 + (mo - 2)) := nI_lt (by omega) (by omega)
    simp only [rX12_findLeast_131, rX12_findLeast_133, rX12_findLeast_135, g1, up2_eq, va_rf, eq_self, or_true, true_or, Option.toList_some, Option.toList_none, List.cons_append, List.nil_append, if_true, if_false]
    exact hQ A1 _ h
  | succ d ih =>
    intro e A1 he h
    have g1 : ¬ nI mo < nI (3 + e) := nI_nlt (by omega) (by omega)
    have hg := gm_120 (n := 3 + e - 2) (by omega)
    simp only [rX12_findLeast_131, rX12_findLeast_133, rX12_findLeast_135, rX12_findLeast_138, rX12_findLeast_139, rX12_findLeast_140, rX12_findLeast_141, rX12_findLeast_143, rX12_findLeast_145, rX12_findLeast_146, rX12_findLeast_147, rX12_findLeast_148, rX12_findLeast_150, rX12_findLeast_151, g1, nI_add, pk_sub (show 2 ≤ 3 + e by omega), up2_eq, va_rf, eq_self, or_true, true_or, Option.toList_some, Option.toList_none, List.cons_append, List.nil_append, if_true, if_false]
    rw [rX12_findLeast_152, k_g (by omega) (by omega)]
    simp only [rX12_findLeast_155, nI_add, up2_eq, va_rf, eq_self, or_true, true_or, Option.toList_some, Option.toList_none, List.cons_append, List.nil_append, if_true, if_false]
    rw [rX12_findLeast_156 hM.1, k_offer12 hM (by omega)]
    simp only [rX12_findLeast_159, rX12_findLeast_162, nI_add, up2_eq, va_rf, eq_self, or_true, true_or, Option.toList_some, Option.toList_none, List.cons_append, List.nil_append, if_true, if_false]
    exact ih (e + 1) _ (by omega) (ivL_off (kd := 1) h hP (by omega) (by omega) (by omega))
theorem l_fTold (hM : isM sh R y) (h32 : F 1232 y = nI m) (hm : m ≤ 120) (hi : i < m) (hP : smP P T m) (hB : mBo A0 y bi c s E f rk) (hE : okE E c s) (hc : c ≤ 20) (hs : s ≤ 320) (hl : ∀ j, j < m → A0 (y + 22) j = lf j)
    (hQ : ∀ A1 x4 x5 x6, ivL A0 A1 y i m P T (copM P T i 1 (2 + wd s) (tol lf (fI f) m c E i) o s) → rw_ (k + 3) mX12_findLeast 171 [.ref y, .int bi, .int (nI (wd s)), .int (nI i), x4, x5, x6] [] (mkh n u sh F R A1 B) Q) :
    ∀ d p A1 x5 x6, p + d = s → ivL A0 A1 y i m P T (copM P T i 1 (2 + wd s) (tol lf (fI f) m c E i) o p) → rw_ (k + 3) mX12_findLeast 108 [.ref y, .int bi, .int (nI (wd s)), .int (nI i), .int (nI p), x5, x6] [] (mkh n u sh F R A1 B) Q := by
  have hw := wd_le 9 s (by omega)
  intro d
  induction d with
  | zero =>
    intro p A1 x5 x6 hp h
    have e : p = s := by omega
    subst e
    have hB1 := mBo_cong hB (fun a _ a2 => h.2.1 a (by omega))
    have g1 : nI p ≤ nI p := nI_le (Nat.le_refl _) (by omega)
    simp only [rX12_findLeast_108, rX12_findLeast_110, rX12_findLeast_111, up2_eq, va_rf, eq_self, or_true, true_or, Option.toList_some, Option.toList_none, List.cons_append, List.nil_append, if_true, if_false]
    rw [rX12_findLeast_112 hM.1, k_rowLongO hM hB1 hE hc]
    simp only [rX12_findLeast_115, g1, up2_eq, va_rf, eq_self, or_true, true_or, Option.toList_some, Option.toList_none, List.cons_append, List.nil_append, if_true, if_false]
    exact hQ A1 _ _ _ h
  | succ d ih =>
    intro p A1 x5 x6 hp h
    have hB1 := mBo_cong hB (fun a _ a2 => h.2.1 a (by omega))
    have hl1 : ∀ j, j < m → A1 (y + 22) j = lf j := fun j hj => by rw [h.2.1 _ (by omega)]; exact hl j hj
    have g1 : ¬ nI s ≤ nI p := nI_ge (by omega) (by omega)
    simp only [rX12_findLeast_108, rX12_findLeast_110, rX12_findLeast_111, up2_eq, va_rf, eq_self, or_true, true_or, Option.toList_some, Option.toList_none, List.cons_append, List.nil_append, if_true, if_false]
    rw [rX12_findLeast_112 hM.1, k_rowLongO hM hB1 hE hc]
    simp only [rX12_findLeast_115, rX12_findLeast_118, rX12_findLeast_119, rX12_findLeast_120, rX12_findLeast_121, g1, up2_eq, va_rf, eq_self, or_true, true_or, Option.toList_some, Option.toList_none, List.cons_append, List.nil_append, if_true, if_false]
    rw [rX12_findLeast_123 hM.1, k_toldLongO hM hB1 hE hc (by omega) h32 hm hi (by omega) hl1]
    simp only [rX12_findLeast_126, rX12_findLeast_128, rX12_findLeast_129, up2_eq, va_rf, eq_self, or_true, true_or, Option.toList_some, Option.toList_none, List.cons_append, List.nil_append, if_true, if_false]
    refine l_fTold1 (x1 := .int bi) (o := copM P T i 1 (2 + wd s) (tol lf (fI f) m c E i) o p) hM hm hP tol_le (by omega) ?_ _ 0 A1 (Nat.zero_add _) h
    intro A2 x h2
    simp only [rX12_findLeast_165, rX12_findLeast_168, nI_add, up2_eq, va_rf, eq_self, or_true, true_or, Option.toList_some, Option.toList_none, List.cons_append, List.nil_append, if_true, if_false]
    exact ih (p + 1) A2 _ _ (by omega) h2
theorem l_fFar1 {p mo : Nat} {x1 w : Value} (hM : isM sh R y) (hm : m ≤ 120) (hi : i < m) (hP : smP P T m) (hmo : mo ≤ m - i)
    (hQ : ∀ A1 x6, ivL A0 A1 y i m P T (cinS P T i 2 (nI p) (2 + wd i) 3 o (mo - 2)) → rw_ (k + 3) mX12_findLeast 229 [.ref y, x1, w, .int (nI i), .int (nI p), .int (nI mo), x6] [] (mkh n u sh F R A1 B) Q) :
    ∀ d e A1, e + d = mo - 2 → ivL A0 A1 y i m P T (cinS P T i 2 (nI p) (2 + wd i) 3 o e) → rw_ (k + 3) mX12_findLeast 192 [.ref y, x1, w, .int (nI i), .int (nI p), .int (nI mo), .int (nI (3 + e))] [] (mkh n u sh F R A1 B) Q := by
  have hw := wd_le 9 i (by omega)
  intro d
  induction d with
  | zero =>
    intro e A1 he h
    have e1 : e = mo - 2 := by omega
    subst e1
    have g1 : nI mo < nI (3 + (mo - 2)) := nI_lt (by omega) (by omega)
    simp only [rX12_findLeast_192, rX12_findLeast_194, rX12_findLeast_196, g1, up2_eq, va_rf, eq_self, or_true, true_or, Option.toList_some, Option.toList_none, List.cons_append, List.nil_append, if_true, if_false]
    exact hQ A1 _ h
  | succ d ih =>
    intro e A1 he h
    have g1 : ¬ nI mo < nI (3 + e) := nI_nlt (by omega) (by omega)
    have hg := gm_120 (n := 3 + e - 2) (by omega)
    simp only [rX12_findLeast_192, rX12_findLeast_194, rX12_findLeast_196, rX12_findLeast_199, rX12_findLeast_200, rX12_findLeast_201, rX12_findLeast_202, rX12_findLeast_204, rX12_findLeast_206, rX12_findLeast_207, g1, up2_eq, va_rf, eq_self, or_true, true_or, Option.toList_some, Option.toList_none, List.cons_append, List.nil_append, if_true, if_false]
    rw [rX12_findLeast_208, k_bitsOf (by omega)]
    simp only [rX12_findLeast_211, rX12_findLeast_212, rX12_findLeast_214, rX12_findLeast_215, nI_add, pk_sub (show 2 ≤ 3 + e by omega), up2_eq, va_rf, eq_self, or_true, true_or, Option.toList_some, Option.toList_none, List.cons_append, List.nil_append, if_true, if_false]
    rw [rX12_findLeast_216, k_g (by omega) (by omega)]
    simp only [rX12_findLeast_219, nI_add, up2_eq, va_rf, eq_self, or_true, true_or, Option.toList_some, Option.toList_none, List.cons_append, List.nil_append, if_true, if_false]
    rw [rX12_findLeast_220 hM.1, k_offer12 hM (by omega)]
    simp only [rX12_findLeast_223, rX12_findLeast_226, nI_add, up2_eq, va_rf, eq_self, or_true, true_or, Option.toList_some, Option.toList_none, List.cons_append, List.nil_append, if_true, if_false]
    exact ih (e + 1) _ (by omega) (ivL_off (kd := 2) h hP (by omega) (by omega) (by omega))
theorem l_fFar {x1 w : Value} (hM : isM sh R y) (h32 : F 1232 y = nI m) (hm : m ≤ 120) (hi : i < m) (hP : smP P T m) (hl : ∀ j, j < m → A0 (y + 22) j = lf j)
    (hQ : ∀ A1 x4 x5 x6, ivL A0 A1 y i m P T (copM P T i 2 (2 + wd i) (fal lf m i) o i) → rw_ (k + 3) mX12_findLeast 235 [.ref y, x1, w, .int (nI i), x4, x5, x6] [] (mkh n u sh F R A1 B) Q) :
    ∀ d p A1 x5 x6, p + d = i → ivL A0 A1 y i m P T (copM P T i 2 (2 + wd i) (fal lf m i) o p) → rw_ (k + 3) mX12_findLeast 174 [.ref y, x1, w, .int (nI i), .int (nI p), x5, x6] [] (mkh n u sh F R A1 B) Q := by
  intro d
  induction d with
  | zero =>
    intro p A1 x5 x6 hp h
    have e : p = i := by omega
    subst e
    have g1 : nI p ≤ nI p := nI_le (Nat.le_refl _) (by omega)
    simp only [rX12_findLeast_174, rX12_findLeast_176, rX12_findLeast_177, g1, up2_eq, va_rf, eq_self, or_true, true_or, Option.toList_some, Option.toList_none, List.cons_append, List.nil_append, if_true, if_false]
    exact hQ A1 _ _ _ h
  | succ d ih =>
    intro p A1 x5 x6 hp h
    have hl1 : ∀ j, j < m → A1 (y + 22) j = lf j := fun j hj => by rw [h.2.1 _ (by omega)]; exact hl j hj
    have g1 : ¬ nI i ≤ nI p := nI_ge (by omega) (by omega)
    simp only [rX12_findLeast_174, rX12_findLeast_176, rX12_findLeast_177, rX12_findLeast_180, rX12_findLeast_181, rX12_findLeast_182, g1, up2_eq, va_rf, eq_self, or_true, true_or, Option.toList_some, Option.toList_none, List.cons_append, List.nil_append, if_true, if_false]
    rw [rX12_findLeast_184 hM.1, k_farLong hM h32 hm hi (by omega) hl1]
    simp only [rX12_findLeast_187, rX12_findLeast_189, rX12_findLeast_190, up2_eq, va_rf, eq_self, or_true, true_or, Option.toList_some, Option.toList_none, List.cons_append, List.nil_append, if_true, if_false]
    refine l_fFar1 (x1 := x1) (w := w) (o := copM P T i 2 (2 + wd i) (fal lf m i) o p) hM hm hi hP fal_le ?_ _ 0 A1 (Nat.zero_add _) h
    intro A2 x h2
    simp only [rX12_findLeast_229, rX12_findLeast_232, nI_add, up2_eq, va_rf, eq_self, or_true, true_or, Option.toList_some, Option.toList_none, List.cons_append, List.nil_append, if_true, if_false]
    exact ih (p + 1) A2 _ _ (by omega) h2
theorem l_fWho0 {w x4 x5 x6 : Value} (hM : isM sh R y) (hB : mBo A1 y bi c s E f false)
    (hQ : rw_ (k + 3) mX12_findLeast 298 [.ref y, .int bi, w, .int (nI i), x4, x5, x6] [] (mkh n u sh F R A1 B) Q) :
    rw_ (k + 3) mX12_findLeast 238 [.ref y, .int bi, w, .int (nI i), x4, x5, x6] [] (mkh n u sh F R A1 B) Q := by
  simp only [rX12_findLeast_238, rX12_findLeast_239, up2_eq, va_rf, eq_self, or_true, true_or, Option.toList_some, Option.toList_none, List.cons_append, List.nil_append, if_true, if_false]
  rw [rX12_findLeast_240 hM.1, k_isRanked hM hB]
  simp only [Bool.false_eq_true, rX12_findLeast_243, up2_eq, va_rf, eq_self, or_true, true_or, Option.toList_some, Option.toList_none, List.cons_append, List.nil_append, if_true, if_false]
  exact hQ
theorem l_fWho {w x5 x6 : Value} (hM : isM sh R y) (h32 : F 1232 y = nI m) (hm : m ≤ 120) (hi : i < m) (hP : smP P T m) (hB : mBo A0 y bi c s E f true) (hE : okE E c s) (hc : c ≤ 20) (hs : s ≤ 320) (hne : ∀ q, q < c → 0 < E q - pst E q) (hl : ∀ j, j < m → A0 (y + 22) j = lf j)
    (hQ : ∀ A1 x4, ivL A0 A1 y i m P T (whoS P T i E (whl lf (fI f) m E i) o c) → rw_ (k + 3) mX12_findLeast 298 [.ref y, .int bi, w, .int (nI i), x4, x5, x6] [] (mkh n u sh F R A1 B) Q) :
    ∀ d q A1, q + d = c → ivL A0 A1 y i m P T (whoS P T i E (whl lf (fI f) m E i) o q) → rw_ (k + 3) mX12_findLeast 238 [.ref y, .int bi, w, .int (nI i), .int (nI q), x5, x6] [] (mkh n u sh F R A1 B) Q := by
  have g : ¬ nI 1 = nI 0 := by decide
  have r4 := hM.r 1207 4 0 26 (by decide)
  have s4 := hM.s 1207 4 0 26 (by decide)
  intro d
  induction d with
  | zero =>
    intro q A1 hq h
    have e : q = c := by omega
    subst e
    have hB1 := mBo_cong hB (fun a _ a2 => h.2.1 a (by omega))
    have g1 : nI q ≤ nI q := nI_le (Nat.le_refl _) (by omega)
    simp only [rX12_findLeast_238, rX12_findLeast_239, up2_eq, va_rf, eq_self, or_true, true_or, Option.toList_some, Option.toList_none, List.cons_append, List.nil_append, if_true, if_false]
    rw [rX12_findLeast_240 hM.1, k_isRanked hM hB1]
    rcases hB1 with ⟨-, -, -, e⟩ | ⟨b, kd, b1, rfl, b3, -⟩
    · cases e
    · simp only [rX12_findLeast_243, rX12_findLeast_246, rX12_findLeast_248, rX12_findLeast_249, rX12_findLeast_252, g, hM.1, r4, up2_eq, va_rf, eq_self, or_true, true_or, Option.toList_some, Option.toList_none, List.cons_append, List.nil_append, if_true, if_false]
      rw [rX12_findLeast_253 s4 (by decide) b1 (by omega), b3.1]
      simp only [rX12_findLeast_254, g1, up2_eq, va_rf, eq_self, or_true, true_or, Option.toList_some, Option.toList_none, List.cons_append, List.nil_append, if_true, if_false]
      exact hQ A1 _ h
  | succ d ih =>
    intro q A1 hq h
    have hB1 := mBo_cong hB (fun a _ a2 => h.2.1 a (by omega))
    have hB2 := hB1
    have hl1 : ∀ j, j < m → A1 (y + 22) j = lf j := fun j hj => by rw [h.2.1 _ (by omega)]; exact hl j hj
    have g1 : ¬ nI c ≤ nI q := nI_ge (by omega) (by omega)
    have hg := gm_120 (n := q + 1) (by omega)
    simp only [rX12_findLeast_238, rX12_findLeast_239, up2_eq, va_rf, eq_self, or_true, true_or, Option.toList_some, Option.toList_none, List.cons_append, List.nil_append, if_true, if_false]
    rw [rX12_findLeast_240 hM.1, k_isRanked hM hB1]
    rcases hB1 with ⟨-, -, -, e⟩ | ⟨b, kd, b1, rfl, b3, -⟩
    · cases e
    · simp only [rX12_findLeast_243, rX12_findLeast_246, rX12_findLeast_248, rX12_findLeast_249, rX12_findLeast_252, g, hM.1, r4, up2_eq, va_rf, eq_self, or_true, true_or, Option.toList_some, Option.toList_none, List.cons_append, List.nil_append, if_true, if_false]
      rw [rX12_findLeast_253 s4 (by decide) b1 (by omega), b3.1]
      simp only [rX12_findLeast_254, rX12_findLeast_257, rX12_findLeast_258, rX12_findLeast_259, rX12_findLeast_261, g1, up2_eq, va_rf, eq_self, or_true, true_or, Option.toList_some, Option.toList_none, List.cons_append, List.nil_append, if_true, if_false]
      rw [rX12_findLeast_262 hM.1, k_isWholeO hM hB2 hE hc (by omega) h32 hm hi (by omega) hl1]
      cases hw : whl lf (fI f) m E i q with
      | false =>
        simp only [Bool.false_eq_true, rX12_findLeast_265, rX12_findLeast_292, rX12_findLeast_295, nI_add, up2_eq, va_rf, eq_self, or_true, true_or, Option.toList_some, Option.toList_none, List.cons_append, List.nil_append, if_true, if_false]
        refine ih (q + 1) A1 (by omega) ?_
        unfold whoS
        rw [if_neg (by rw [hw]; decide)]
        exact h
      | true =>
        simp only [rX12_findLeast_265, rX12_findLeast_268, rX12_findLeast_269, rX12_findLeast_270, rX12_findLeast_271, rX12_findLeast_273, rX12_findLeast_274, rX12_findLeast_275, g, up2_eq, va_rf, eq_self, or_true, true_or, Option.toList_some, Option.toList_none, List.cons_append, List.nil_append, if_true, if_false]
        rw [rX12_findLeast_277 hM.1, k_pieceLongO hM hB2 hE hc (by omega)]
        simp only [rX12_findLeast_280, rX12_findLeast_281, rX12_findLeast_283, rX12_findLeast_284, nI_add, up2_eq, va_rf, eq_self, or_true, true_or, Option.toList_some, Option.toList_none, List.cons_append, List.nil_append, if_true, if_false]
        rw [rX12_findLeast_285, k_g (by omega) (by omega)]
        simp only [rX12_findLeast_288, nI_add, up2_eq, va_rf, eq_self, or_true, true_or, Option.toList_some, Option.toList_none, List.cons_append, List.nil_append, if_true, if_false]
        have hw2 := hw
        unfold whl at hw2
        rw [Bool.and_eq_true, decide_eq_true_eq] at hw2
        rw [rX12_findLeast_289 hM.1, k_offer12 hM (by omega)]
        simp only [rX12_findLeast_292, rX12_findLeast_295, nI_add, up2_eq, va_rf, eq_self, or_true, true_or, Option.toList_some, Option.toList_none, List.cons_append, List.nil_append, if_true, if_false]
        refine ih (q + 1) _ (by omega) ?_
        unfold whoS
        rw [if_pos hw]
        exact ivL_off (kd := 3) h hP (hne q (by omega)) hw2.1 (by omega)
end MLS
