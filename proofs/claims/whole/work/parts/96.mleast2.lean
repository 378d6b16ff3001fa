/-! ===== the reference: LEAST, whole ===== -/
/-- what LEAST leaves -/
def plnM (A A' : hF_) (y : Nat) (pl : Nat → o5) (m : Nat) : Prop := (∀ a, (a < y + 23 ∨ y + 27 < a) → A' a = A a) ∧ (∀ j, j ≤ m → A' (y + 23) j = nI (pl j).1) ∧ ∀ j, j < m → A' (y + 25) j = nI (pl j).2.2.1 ∧ A' (y + 26) j = (pl j).2.2.2.1 ∧ A' (y + 27) j = nI (pl j).2.2.2.2
section ML2
variable {k n u : Nat} {sh : hs_} {F : hF_} {R : hR_} {A A0 A1 : hF_} {B : hR_} {Q : Option Value → pm_H → Prop} {y : Nat} {c s m i : Nat} {E f : Nat → Nat} {bi : Int32} {rk : Bool} {lf : Nat → Int32}
theorem nI_sm1 (m : Nat) : nI m - nI 1 = nI m + (-1) := by
  cases m with
  | zero => decide
  | succ m => rw [nI_sub1, nI_dec]
/-- one byte -/
theorem l_fStep {P T : Nat → Nat} {x4 x5 x6 : Value} (hM : isM sh R y) (h32 : F 1232 y = nI m) (hm : m ≤ 120) (hi : i < m) (hP : smP P T m) (hB : mBo A y bi c s E f rk) (hE : okE E c s) (hc : c ≤ 20) (hs : s ≤ 320) (hne : rk = true → ∀ q, q < c → 0 < E q - pst E q) (hl : ∀ j, j < m → A (y + 22) j = lf j)
    (hc2 : ∀ j, i < j → j ≤ m → A (y + 22 + 1) j = nI (P j) ∧ A (y + 22 + 2) j = nI (T j))
    (hQ : ∀ A1 x4 x5 x6, reA A1 (y + 22) i m P T (stg lf (fI f) m s c E rk P T i) → (∀ a, (a < y + 23 ∨ y + 27 < a) → A1 a = A a) → (∀ a j, j ≠ i → A1 a j = A a j) → rw_ (k + 3) mX12_findLeast 36 [.ref y, .int bi, .int (nI (wd s)), .int (nI i + (-1)), x4, x5, x6] [] (mkh n u sh F R A1 B) Q) :
    rw_ (k + 3) mX12_findLeast 36 [.ref y, .int bi, .int (nI (wd s)), .int (nI i), x4, x5, x6] [] (mkh n u sh F R A B) Q := by
  have r23 := hM.r 1233 23 0 241 (by decide)
  have s23 := hM.s 1233 23 0 241 (by decide)
  have r24 := hM.r 1234 24 0 241 (by decide)
  have s24 := hM.s 1234 24 0 241 (by decide)
  have g0 : ¬ nI i < nI 0 := nI_nlt (Nat.zero_le _) (by omega)
  simp only [rX12_findLeast_36, rX12_findLeast_37, rX12_findLeast_40, rX12_findLeast_41, rX12_findLeast_44, rX12_findLeast_45, g0, hM.1, r23, up2_eq, va_rf, eq_self, or_true, true_or, Option.toList_some, Option.toList_none, List.cons_append, List.nil_append, if_true, if_false]
  rw [rX12_findLeast_47 s23 (by omega) (by omega)]
  simp only [rX12_findLeast_48, rX12_findLeast_49, rX12_findLeast_52, rX12_findLeast_53, hM.1, r24, up2_eq, va_rf, eq_self, or_true, true_or, Option.toList_some, Option.toList_none, List.cons_append, List.nil_append, if_true, if_false]
  rw [rX12_findLeast_55 s24 (by omega) (by omega)]
  simp only [rX12_findLeast_56, rX12_findLeast_57, up2_eq, va_rf, eq_self, or_true, true_or, Option.toList_some, Option.toList_none, List.cons_append, List.nil_append, if_true, if_false]
  generalize hA0 : up2 (up2 A (y + 23) i (nI 1000000)) (y + 24) i (nI 1000000) = A0
  have z1 : A0 (y + 22 + 1) i = nI 1000000 := by rw [← hA0]; rw [up2_k (by omega), up2_eq]
  have z2 : ∀ a j, j ≠ i → A0 a j = A a j := fun a j hj => by rw [← hA0, up2_a hj, up2_a hj]
  have z3 : ∀ a, (a < y + 23 ∨ y + 27 < a) → A0 a = A a := fun a ha => by rw [← hA0, up2_row (by omega), up2_row (by omega)]
  have hB0 : mBo A0 y bi c s E f rk := mBo_cong hB (fun a _ a2 => z3 a (by omega))
  have hl0 : ∀ j, j < m → A0 (y + 22) j = lf j := fun j hj => by rw [z3 _ (by omega)]; exact hl j hj
  have hc0 : ∀ j, i < j → j ≤ m → A0 (y + 22 + 1) j = nI (P j) ∧ A0 (y + 22 + 2) j = nI (T j) := fun j h1 h2 => by rw [z2 _ j (by omega), z2 _ j (by omega)]; exact hc2 j h1 h2
  have g1 : ¬ nI 120 < nI 1 := by decide
  have g2 : ¬ nI m < nI (i + 1) := nI_nlt (by omega) (by omega)
  have e11 : 2 + gm 1 + 8 * 1 = 11 := by decide
  simp only [rX12_findLeast_59, rX12_findLeast_61, rX12_findLeast_63, rX12_findLeast_66, rX12_findLeast_67, rX12_findLeast_69, rX12_findLeast_70, rX12_findLeast_71, rX12_findLeast_74, rX12_findLeast_77, rX12_findLeast_78, rX12_findLeast_79, rX12_findLeast_80, rX12_findLeast_81, rX12_findLeast_83, rX12_findLeast_84, g1, g2, hM.1, h32, nI_add, up2_eq, va_rf, eq_self, or_true, true_or, Option.toList_some, Option.toList_none, List.cons_append, List.nil_append, if_true, if_false]
  rw [rX12_findLeast_86, k_g (by omega) (by omega)]
  simp only [rX12_findLeast_89, rX12_findLeast_90, rX12_findLeast_92, rX12_findLeast_94, rX12_findLeast_95, nI_add, pk_mul, e11, up2_eq, va_rf, eq_self, or_true, true_or, Option.toList_some, Option.toList_none, List.cons_append, List.nil_append, if_true, if_false]
  rw [rX12_findLeast_96 hM.1, k_offer12 hM (by omega)]
  simp only [rX12_findLeast_99, rX12_findLeast_102, nI_add, up2_eq, va_rf, eq_self, or_true, true_or, Option.toList_some, Option.toList_none, List.cons_append, List.nil_append, if_true, if_false]
  have hv := ivL_own0 z1 hc0 hP hi
  refine l_fOwn (w := .int (nI (wd s))) (x1 := .int bi) hM h32 hm hi hP ?_ (m - i - 1) 0 _ (by omega) hv
  intro A1 x4 h1
  simp only [rX12_findLeast_105, rX12_findLeast_106, up2_eq, va_rf, eq_self, or_true, true_or, Option.toList_some, Option.toList_none, List.cons_append, List.nil_append, if_true, if_false]
  refine l_fTold hM h32 hm hi hP hB0 hE hc hs hl0 ?_ s 0 A1 _ _ (Nat.zero_add _) h1
  intro A2 x4 x5 x6 h2
  simp only [rX12_findLeast_171, rX12_findLeast_172, up2_eq, va_rf, eq_self, or_true, true_or, Option.toList_some, Option.toList_none, List.cons_append, List.nil_append, if_true, if_false]
  refine l_fFar (x1 := .int bi) (w := .int (nI (wd s))) hM h32 hm hi hP hl0 ?_ i 0 A2 _ _ (Nat.zero_add _) h2
  intro A3 x4 x5 x6 h3
  simp only [rX12_findLeast_235, rX12_findLeast_236, up2_eq, va_rf, eq_self, or_true, true_or, Option.toList_some, Option.toList_none, List.cons_append, List.nil_append, if_true, if_false]
  cases hrk : rk with
  | false =>
    rw [hrk] at hB0 hQ
    refine l_fWho0 hM (mBo_cong hB0 (fun a _ a2 => h3.2.1 a (by omega))) ?_
    simp only [rX12_findLeast_298, rX12_findLeast_301, up2_eq, va_rf, eq_self, or_true, true_or, Option.toList_some, Option.toList_none, List.cons_append, List.nil_append, if_true, if_false]
    refine hQ A3 _ _ _ ?_ (fun a ha => by rw [h3.2.1 a ha, z3 a ha]) (fun a j hj => by rw [h3.2.2 a j hj, z2 a j hj])
    unfold stg
    rw [if_neg (by decide)]
    exact h3.1
  | true =>
    rw [hrk] at hB0 hQ
    refine l_fWho (w := .int (nI (wd s))) hM h32 hm hi hP hB0 hE hc hs (hne hrk) hl0 ?_ c 0 A3 (Nat.zero_add _) h3
    intro A4 x4 h4
    simp only [rX12_findLeast_298, rX12_findLeast_301, up2_eq, va_rf, eq_self, or_true, true_or, Option.toList_some, Option.toList_none, List.cons_append, List.nil_append, if_true, if_false]
    refine hQ A4 _ _ _ ?_ (fun a ha => by rw [h4.2.1 a ha, z3 a ha]) (fun a j hj => by rw [h4.2.2 a j hj, z2 a j hj])
    unfold stg
    rw [if_pos rfl]
    exact h4.1
theorem l_find (hM : isM sh R y) (h32 : F 1232 y = nI m) (hm : m ≤ 120) (hB : mBo A y bi c s E f rk) (hE : okE E c s) (hc : c ≤ 20) (hs : s ≤ 320) (hne : rk = true → ∀ q, q < c → 0 < E q - pst E q) (hl : ∀ j, j < m → A (y + 22) j = lf j)
    (hQ : ∀ A', plnM A A' y (plan lf (fI f) m s c E rk) m → Q none (mkh n u sh F R A' B)) :
    ∀ r A1 x4 x5 x6, r ≤ m → (∀ a, (a < y + 23 ∨ y + 27 < a) → A1 a = A a) → (∀ j, r ≤ j → j ≤ m → A1 (y + 23) j = nI (plan lf (fI f) m s c E rk j).1 ∧ A1 (y + 24) j = nI (plan lf (fI f) m s c E rk j).2.1) → (∀ j, r ≤ j → j < m → A1 (y + 25) j = nI (plan lf (fI f) m s c E rk j).2.2.1 ∧ A1 (y + 26) j = (plan lf (fI f) m s c E rk j).2.2.2.1 ∧ A1 (y + 27) j = nI (plan lf (fI f) m s c E rk j).2.2.2.2) →
    rw_ (k + 3) mX12_findLeast 36 [.ref y, .int bi, .int (nI (wd s)), .int (nI r + (-1)), x4, x5, x6] [] (mkh n u sh F R A1 B) Q := by
  intro r
  induction r with
  | zero =>
    intro A1 x4 x5 x6 _ f1 f2 f3
    have g0 : nI 0 + (-1) < nI 0 := by decide
    simp only [rX12_findLeast_36, rX12_findLeast_37, rX12_findLeast_304, g0, up2_eq, va_rf, eq_self, or_true, true_or, Option.toList_some, Option.toList_none, List.cons_append, List.nil_append, if_true, if_false]
    exact hQ A1 ⟨f1, fun j hj => (f2 j (Nat.zero_le _) hj).1, fun j hj => f3 j (Nat.zero_le _) hj⟩
  | succ r ih =>
    intro A1 x4 x5 x6 hr f1 f2 f3
    have hb := plan_le (lf := lf) (f := fI f) (E := E) (rk := rk) (m := m) (s := s) (c := c) (by omega) (by omega) (by omega) hne
    have hPQ : ∀ q, r < q → plN lf (fI f) m s c E rk (m - 1 - r) q = plan lf (fI f) m s c E rk q := fun q hq => plan_t (by omega) (by omega)
    have hsm : smP (fun q => (plN lf (fI f) m s c E rk (m - 1 - r) q).1) (fun q => (plN lf (fI f) m s c E rk (m - 1 - r) q).2.1) m := by
      intro q hq
      dsimp only
      by_cases g : r < q
      · have := hb (m - q) q (by omega)
        rw [hPQ q g]
        omega
      · rw [plN_low (m - 1 - r) (by omega) (Or.inl (by omega))]
        exact ⟨by decide, by decide⟩
    have hplan := plan_eq (lf := lf) (f := fI f) (s := s) (c := c) (E := E) (rk := rk) (i := r) (m := m) (by omega)
    rw [nI_dec]
    refine l_fStep (lf := lf) (f := f) hM h32 hm (by omega) hsm (mBo_cong hB (fun a _ a2 => f1 a (by omega))) hE hc hs hne (fun j hj => by rw [f1 _ (by omega)]; exact hl j hj) (fun j h1 h2 => ?_) ?_
    · rw [hPQ j h1]
      exact f2 j (by omega) h2
    · intro A2 x4 x5 x6 h1 h2 h3
      rw [← hplan] at h1
      obtain ⟨⟨a1, a2, a3, a4, a5⟩, -, -⟩ := h1
      refine ih A2 _ _ _ (by omega) (fun a ha => by rw [h2 a ha, f1 a ha]) (fun j j1 j2 => ?_) (fun j j1 j2 => ?_)
      · by_cases e : j = r
        · subst e; exact ⟨a1, a2⟩
        · rw [h3 _ j e, h3 _ j e]; exact f2 j (by omega) j2
      · by_cases e : j = r
        · subst e; exact ⟨a3, a4, a5⟩
        · rw [h3 _ j e, h3 _ j e, h3 _ j e]; exact f3 j (by omega) j2
theorem k_findLeast (hM : isM sh R y) (h32 : F 1232 y = nI m) (hm : m ≤ 120) (hB : mBo A y bi c s E f rk) (hE : okE E c s) (hc : c ≤ 20) (hs : s ≤ 320) (hne : rk = true → ∀ q, q < c → 0 < E q - pst E q) (hl : ∀ j, j < m → A (y + 22) j = lf j)
    (hQ : ∀ A', plnM A A' y (plan lf (fI f) m s c E rk) m → Q none (mkh n u sh F R A' B)) :
    rc_ (k + 3) mX12_findLeast [.ref y, .int bi] (mkh n u sh F R A B) Q := by
  have r23 := hM.r 1233 23 0 241 (by decide)
  have s23 := hM.s 1233 23 0 241 (by decide)
  have r24 := hM.r 1234 24 0 241 (by decide)
  have s24 := hM.s 1234 24 0 241 (by decide)
  rw [eX12_findLeast]
  simp only [rX12_findLeast_0, rX12_findLeast_1]
  rw [rX12_findLeast_2 hM.1, k_rowLongO hM hB hE hc]
  simp only [up2_eq, va_rf, eq_self, or_true, true_or, Option.toList_some, Option.toList_none, List.cons_append, List.nil_append, if_true, if_false]
  rw [rX12_findLeast_5, k_bitsOf (by omega)]
  simp only [rX12_findLeast_8, rX12_findLeast_9, rX12_findLeast_10, rX12_findLeast_13, rX12_findLeast_14, rX12_findLeast_17, hM.1, r23, h32, up2_eq, va_rf, eq_self, or_true, true_or, Option.toList_some, Option.toList_none, List.cons_append, List.nil_append, if_true, if_false]
  rw [rX12_findLeast_18 s23 (by omega) (by omega)]
  simp only [rX12_findLeast_19, rX12_findLeast_20, rX12_findLeast_23, rX12_findLeast_24, rX12_findLeast_27, hM.1, r24, h32, up2_eq, va_rf, eq_self, or_true, true_or, Option.toList_some, Option.toList_none, List.cons_append, List.nil_append, if_true, if_false]
  rw [rX12_findLeast_28 s24 (by omega) (by omega)]
  simp only [rX12_findLeast_29, rX12_findLeast_30, rX12_findLeast_33, rX12_findLeast_34, rX12_findLeast_35, hM.1, h32, nI_sm1, up2_eq, va_rf, eq_self, or_true, true_or, Option.toList_some, Option.toList_none, List.cons_append, List.nil_append, if_true, if_false]
  have z3 : ∀ a, (a < y + 23 ∨ y + 27 < a) → up2 (up2 A (y + 23) m (nI 0)) (y + 24) m (nI 0) a = A a := fun a ha => by rw [up2_row (by omega), up2_row (by omega)]
  refine l_find (A := A) hM h32 hm hB hE hc hs hne hl hQ m _ _ _ _ (Nat.le_refl _) z3 (fun j j1 j2 => ?_) (fun j j1 j2 => absurd j2 (by omega))
  have e : j = m := by omega
  subst e
  rw [plan_m]
  exact ⟨by rw [up2_k (by omega), up2_eq], up2_eq⟩
end ML2
