/-! ===== the reference: small helpers, calls that only look ===== -/
theorem k_in {k : Nat} {v a b : Int32} {hp : pm_H} {Q : Option Value → pm_H → Prop} : rc_ k mX12_in [.int v, .int a, .int b] hp Q ↔ Q (some (.int (if v < a ∨ b < v then nI 0 else nI 1))) hp := by
  rw [eX12_in]
  by_cases c1 : v < a
  · rw [if_pos (Or.inl c1)]
    simp only [rX12_in_0, rX12_in_1, rX12_in_2, rX12_in_5, rX12_in_6, rX12_in_7, rX12_in_10, rX12_in_11, rX12_in_14, rX12_in_15, c1, up2_eq, va_rf, eq_self, or_true, true_or, Option.toList_some, Option.toList_none, List.cons_append, List.nil_append, if_true, if_false]
  · by_cases c2 : b < v
    · rw [if_pos (Or.inr c2)]
      simp only [rX12_in_0, rX12_in_1, rX12_in_2, rX12_in_5, rX12_in_6, rX12_in_7, rX12_in_10, rX12_in_11, rX12_in_14, rX12_in_15, c1, c2, up2_eq, va_rf, eq_self, or_true, true_or, Option.toList_some, Option.toList_none, List.cons_append, List.nil_append, if_true, if_false]
    · rw [if_neg (fun e => e.elim c1 c2)]
      simp only [rX12_in_0, rX12_in_1, rX12_in_2, rX12_in_5, rX12_in_6, rX12_in_7, rX12_in_10, rX12_in_11, rX12_in_14, rX12_in_15, c1, c2, up2_eq, va_rf, eq_self, or_true, true_or, Option.toList_some, Option.toList_none, List.cons_append, List.nil_append, if_true, if_false]
theorem in_ix {v : Int32} {n : Nat} (hn : n < 2 ^ 31) : (v < nI 0 ∨ nI n - nI 1 < v) ↔ ix v n = none := by
  unfold ix
  by_cases c1 : v < nI 0
  · rw [if_pos c1]; exact ⟨fun _ => rfl, fun _ => Or.inl c1⟩
  · rw [if_neg c1]
    obtain ⟨j, hj, rfl⟩ := nI_of c1
    have e : nI n - nI 1 < nI j ↔ nI n ≤ nI j := by
      by_cases h0 : n = 0
      · subst h0
        constructor
        · intro _; exact nI_le (Nat.zero_le _) hj
        · intro _
          rw [Int32.lt_iff_toInt_lt, nI_toInt hj]
          have : (nI 0 - nI 1).toInt = -1 := by decide
          omega
      · rw [pk_sub (by omega), nI_ltI (by omega) hj, nI_leI hn hj]
        omega
    by_cases c2 : nI n ≤ nI j
    · rw [if_pos c2]; exact ⟨fun _ => rfl, fun _ => Or.inr (e.mpr c2)⟩
    · rw [if_neg c2]
      constructor
      · rintro (h | h)
        · exact absurd h c1
        · exact absurd (e.mp h) c2
      · intro h; cases h
section MSI
variable {k n u : Nat} {sh : hs_} {F : hF_} {R : hR_} {A : hF_} {B : hR_} {Q : Option Value → pm_H → Prop} {y : Nat} {T : TT}
theorem k_isBook {v : Int32} {nb : Nat} (hM : isM sh R y) (h : F 1205 y = nI nb) (hn : nb ≤ 24) : rc_ (k + 1) mX12_isBook [.ref y, .int v] (mkh n u sh F R A B) Q ↔ Q (some (.int (if ix v nb = none then nI 0 else nI 1))) (mkh n u sh F R A B) := by
  rw [eX12_isBook]
  simp only [rX12_isBook_0, rX12_isBook_1, rX12_isBook_2, rX12_isBook_3, rX12_isBook_6, rX12_isBook_7, hM.1, h, up2_eq, va_rf, eq_self, or_true, true_or, Option.toList_some, Option.toList_none, List.cons_append, List.nil_append, if_true, if_false]
  rw [rX12_isBook_8, k_in]
  have e := in_ix (v := v) (n := nb) (by omega)
  by_cases c : ix v nb = none
  · rw [if_pos c, if_pos (e.mpr c)]
    simp only [up2_eq, va_rf, eq_self, or_true, true_or, Option.toList_some, Option.toList_none, List.cons_append, List.nil_append, if_true, if_false]
    rw [rX12_isBook_11 (Or.inl rfl)]
  · rw [if_neg c, if_neg (fun h => c (e.mp h))]
    simp only [up2_eq, va_rf, eq_self, or_true, true_or, Option.toList_some, Option.toList_none, List.cons_append, List.nil_append, if_true, if_false]
    rw [rX12_isBook_11 (Or.inr rfl)]
theorem k_isBookOr {v : Int32} {nb : Nat} (hM : isM sh R y) (h : F 1205 y = nI nb) (hn : nb ≤ 24) : rc_ (k + 2) mX12_isBookOrNone [.ref y, .int v] (mkh n u sh F R A B) Q ↔ Q (some (.int (if bx v nb = none then nI 0 else nI 1))) (mkh n u sh F R A B) := by
  rw [eX12_isBookOrNone]
  unfold bx
  by_cases c : v = -1
  · subst c
    have g : ¬ ((some 25 : Option Nat) = none) := by simp
    simp only [rX12_isBookOrNone_0, rX12_isBookOrNone_1, rX12_isBookOrNone_2, rX12_isBookOrNone_13, rX12_isBookOrNone_14, g, up2_eq, va_rf, eq_self, or_true, true_or, Option.toList_some, Option.toList_none, List.cons_append, List.nil_append, if_true, if_false]
    rw [rX12_isBookOrNone_18 (Or.inr rfl)]
  · simp only [rX12_isBookOrNone_0, rX12_isBookOrNone_1, rX12_isBookOrNone_2, rX12_isBookOrNone_5, rX12_isBookOrNone_6, c, up2_eq, va_rf, eq_self, or_true, true_or, Option.toList_some, Option.toList_none, List.cons_append, List.nil_append, if_true, if_false]
    rw [rX12_isBookOrNone_7 hM.1, k_isBook hM h hn]
    by_cases c2 : ix v nb = none
    · simp only [rX12_isBookOrNone_10, rX12_isBookOrNone_17, c2, up2_eq, va_rf, eq_self, or_true, true_or, Option.toList_some, Option.toList_none, List.cons_append, List.nil_append, if_true, if_false]
      rw [rX12_isBookOrNone_18 (Or.inl rfl)]
    · have g : ¬ nI 1 = nI 0 := by decide
      simp only [rX12_isBookOrNone_10, rX12_isBookOrNone_13, rX12_isBookOrNone_14, c2, g, up2_eq, va_rf, eq_self, or_true, true_or, Option.toList_some, Option.toList_none, List.cons_append, List.nil_append, if_true, if_false]
      rw [rX12_isBookOrNone_18 (Or.inr rfl)]
theorem m_trim {i : Int32} (hM : isM sh R y) (h : MS F A y T) (hT : okT T) (hQ : mPost n u sh F R A B y (s_trim T i) Q) : rc_ (k + 8) mX12_trim [.ref y, .int i] (mkh n u sh F R A B) Q := by
  obtain ⟨a1, a2, a3, a4, a5, a6⟩ := id h
  have ht := MS_th (v := nI 0) h hT
  rw [eX12_trim]
  simp only [rX12_trim_0, rX12_trim_1, rX12_trim_2, rX12_trim_5, rX12_trim_6, rX12_trim_7, rX12_trim_8, hM.1, a1.1.1, up2_eq, va_rf, eq_self, or_true, true_or, Option.toList_some, Option.toList_none, List.cons_append, List.nil_append, if_true, if_false, up2_k, ne_eq, not_false_eq_true, Nat.reduceEqDiff, reduceCtorEq]
  rw [rX12_trim_11, k_in]
  unfold s_trim at hQ
  by_cases c : i < nI 0 ∨ nI (T.1 0 0) < i
  · rw [if_pos c] at hQ ⊢
    simp only [rX12_trim_14, rX12_trim_17, rX12_trim_19, up2_eq, va_rf, eq_self, or_true, true_or, Option.toList_some, Option.toList_none, List.cons_append, List.nil_append, if_true, if_false]
    exact hQ _ _ ht (frM_F (by decide))
  · rw [if_neg c] at hQ ⊢
    have g : ¬ nI 1 = nI 0 := by decide
    obtain ⟨j, hj, rfl⟩ := nI_of (fun e => c (Or.inl e))
    have hjt : j ≤ T.1 0 0 := Nat.not_lt.mp fun e => c (Or.inr (nI_lt e hj))
    rw [nI_clamp hj] at hQ
    simp only [rX12_trim_14, rX12_trim_20, rX12_trim_21, rX12_trim_22, rX12_trim_25, rX12_trim_26, g, hM.1, up2_eq, va_rf, eq_self, or_true, true_or, Option.toList_some, Option.toList_none, List.cons_append, List.nil_append, if_true, if_false]
    refine hQ _ _ ⟨⟨⟨up2_eq, fun q hq => a1.1.2 q ?_⟩, ?_, a1.2.2⟩, ?_, ?_, ?_, ?_, ?_⟩ (frM_trans (frM_F (by decide)) (frM_F (by decide)))
    · have hq' : q < j := hq
      omega
    · rw [up2_k (by decide), up2_k (by decide)]; exact a1.2.1
    · exact ⟨by rw [up2_k (by decide), up2_k (by decide)]; exact a2.1, a2.2⟩
    · exact mPk_cong (T := T) a3 (fun q hq => by rw [up2_k (by omega), up2_k (by omega)]) (fun _ _ _ => rfl)
    · exact mSm_cong (T := T) a4 (by rw [up2_k (by decide), up2_k (by decide)]) rfl rfl
    · exact mGa_cong (T := T) a5 (fun q _ _ => by rw [up2_k (by omega), up2_k (by omega)]) rfl
    · exact mWi_cong (T := T) a6 (fun q hq => by rw [up2_k (by omega), up2_k (by omega)]) (fun _ _ _ => rfl)
theorem m_out {i : Int32} (hM : isM sh R y) (h : MS F A y T) (hT : okT T) (hQ : mPost n u sh F R A B y (s_out T i, T) Q) : rc_ (k + 8) mX12_out [.ref y, .int i] (mkh n u sh F R A B) Q := by
  obtain ⟨a1, a2, a3, a4, a5, a6⟩ := id h
  have hq := hQ _ _ (MS_th (v := nI 0) h hT) (frM_F (by decide))
  have o1 := hT.2.1.1
  rw [eX12_out]
  simp only [rX12_out_0, rX12_out_1, rX12_out_2, rX12_out_5, rX12_out_6, rX12_out_7, rX12_out_8, rX12_out_11, rX12_out_12, hM.1, a1.2.1, up2_eq, va_rf, eq_self, or_true, true_or, Option.toList_some, Option.toList_none, List.cons_append, List.nil_append, if_true, if_false, up2_k, ne_eq, not_false_eq_true, Nat.reduceEqDiff, reduceCtorEq]
  rw [rX12_out_13, k_in]
  have e := in_ix (v := i) (n := T.1 1 0) (by omega)
  unfold s_out at hq
  cases hi : ix i (T.1 1 0) with
  | none =>
    rw [hi] at hq
    rw [if_pos (e.mpr hi)]
    simp only [rX12_out_16, rX12_out_28, rX12_out_29, up2_eq, va_rf, eq_self, or_true, true_or, Option.toList_some, Option.toList_none, List.cons_append, List.nil_append, if_true, if_false]
    exact hq
  | some j =>
    rw [hi] at hq
    obtain ⟨j1, j2, rfl⟩ := ix_some hi
    have g : ¬ nI 1 = nI 0 := by decide
    rw [if_neg (fun q => by have := e.mp q; rw [hi] at this; cases this)]
    simp only [rX12_out_16, rX12_out_19, rX12_out_20, rX12_out_23, g, hM.1, hM.r 1203 2 0 400 (by decide), up2_eq, va_rf, eq_self, or_true, true_or, Option.toList_some, Option.toList_none, List.cons_append, List.nil_append, if_true, if_false]
    rw [rX12_out_24 (hM.s 1203 2 0 400 (by decide)) (by decide) (by omega) (by omega), a1.2.2 j j1]
    simp only [rX12_out_25, rX12_out_29, up2_eq, va_rf, eq_self, or_true, true_or, Option.toList_some, Option.toList_none, List.cons_append, List.nil_append, if_true, if_false]
    exact hq
theorem m_bits (hM : isM sh R y) (h : MS F A y T) (hT : okT T) (hQ : mPost n u sh F R A B y (s_bits T, T) Q) : rc_ (k + 8) mX12_bits [.ref y] (mkh n u sh F R A B) Q := by
  obtain ⟨a1, a2, a3, a4, a5, a6⟩ := id h
  have hq := hQ _ _ (MS_th (v := nI 0) h hT) (frM_F (by decide))
  have p2 := hT.2.2.2.2.1.2.1
  rw [eX12_bits]
  unfold s_bits at hq
  by_cases c : T.1 14 0 = 0
  · rw [if_pos c] at hq
    have e : F 1238 y = nI 0 := by rw [a3.1, c]
    simp only [rX12_bits_0, rX12_bits_1, rX12_bits_2, rX12_bits_5, rX12_bits_6, rX12_bits_9, rX12_bits_12, rX12_bits_13, rX12_bits_16, rX12_bits_19, rX12_bits_20, hM.1, e, up2_eq, va_rf, eq_self, or_true, true_or, Option.toList_some, Option.toList_none, List.cons_append, List.nil_append, if_true, if_false, up2_k, ne_eq, not_false_eq_true, Nat.reduceEqDiff, reduceCtorEq]
    exact hq
  · rw [if_neg c] at hq
    have e : F 1238 y = nI (T.1 14 0) := a3.1
    have g : ¬ nI (T.1 14 0) = nI 0 := nI_ne0 (by omega) (by omega)
    simp only [rX12_bits_0, rX12_bits_1, rX12_bits_2, rX12_bits_5, rX12_bits_6, rX12_bits_9, rX12_bits_12, rX12_bits_13, rX12_bits_16, rX12_bits_19, rX12_bits_20, hM.1, e, g, (a3.2.1 c).2.1, up2_eq, va_rf, eq_self, or_true, true_or, Option.toList_some, Option.toList_none, List.cons_append, List.nil_append, if_true, if_false, up2_k, ne_eq, not_false_eq_true, Nat.reduceEqDiff, reduceCtorEq]
    exact hq
theorem m_fault (hM : isM sh R y) (h : MS F A y T) (hT : okT T) (hQ : mPost n u sh F R A B y (nI (T.1 26 0), T) Q) : rc_ (k + 8) mX12_fault [.ref y] (mkh n u sh F R A B) Q := by
  have hq := hQ _ _ (MS_th (v := nI 0) h hT) (frM_F (by decide))
  rw [eX12_fault]
  simp only [rX12_fault_0, rX12_fault_1, rX12_fault_2, rX12_fault_5, rX12_fault_6, rX12_fault_9, hM.1, h.2.2.1.2.2.2, up2_eq, va_rf, eq_self, or_true, true_or, Option.toList_some, Option.toList_none, List.cons_append, List.nil_append, if_true, if_false, up2_k, ne_eq, not_false_eq_true, Nat.reduceEqDiff, reduceCtorEq]
  exact hq
theorem m_rest {i : Int32} (hM : isM sh R y) (h : MS F A y T) (hT : okT T) (hQ : mPost n u sh F R A B y (s_rest T i, T) Q) : rc_ (k + 8) mX12_rest [.ref y, .int i] (mkh n u sh F R A B) Q := by
  obtain ⟨a1, a2, a3, a4, a5, a6⟩ := id h
  have hq := hQ _ _ (MS_th (v := nI 0) h hT) (frM_F (by decide))
  obtain ⟨p1, p2, p3, -, -⟩ := hT.2.2.2.2.1
  rw [eX12_rest]
  unfold s_rest at hq
  by_cases c : T.1 14 0 = 0
  · rw [if_pos c] at hq
    have e : F 1238 y = nI 0 := by rw [a3.1, c]
    simp only [rX12_rest_0, rX12_rest_1, rX12_rest_2, rX12_rest_5, rX12_rest_6, rX12_rest_9, rX12_rest_12, rX12_rest_13, hM.1, e, up2_eq, va_rf, eq_self, or_true, true_or, Option.toList_some, Option.toList_none, List.cons_append, List.nil_append, if_true, if_false, up2_k, ne_eq, not_false_eq_true, Nat.reduceEqDiff, reduceCtorEq]
    by_cases c1 : i < nI 0
    · rw [if_pos (Or.inl c1)] at hq
      simp only [rX12_rest_22, rX12_rest_24, rX12_rest_27, rX12_rest_28, c1, up2_eq, va_rf, eq_self, or_true, true_or, Option.toList_some, Option.toList_none, List.cons_append, List.nil_append, if_true, if_false]
      exact hq
    · by_cases c2 : nI 120 < i
      · rw [if_pos (Or.inr c2)] at hq
        have g1 : ¬ i ≤ nI 120 := Int32.not_le.mpr c2
        simp only [rX12_rest_16, rX12_rest_17, rX12_rest_19, rX12_rest_22, rX12_rest_24, rX12_rest_27, rX12_rest_28, c1, g1, up2_eq, va_rf, eq_self, or_true, true_or, Option.toList_some, Option.toList_none, List.cons_append, List.nil_append, if_true, if_false]
        exact hq
      · rw [if_neg (fun e => e.elim c1 c2)] at hq
        have g1 : i ≤ nI 120 := Int32.not_lt.mp c2
        simp only [rX12_rest_16, rX12_rest_17, rX12_rest_19, rX12_rest_22, rX12_rest_24, rX12_rest_27, rX12_rest_28, c1, g1, up2_eq, va_rf, eq_self, or_true, true_or, Option.toList_some, Option.toList_none, List.cons_append, List.nil_append, if_true, if_false]
        exact hq
  · rw [if_neg c] at hq
    obtain ⟨b1, b2, b3⟩ := a3.2.1 c
    have e : F 1238 y = nI (T.1 14 0) := a3.1
    have g : ¬ nI (T.1 14 0) = nI 0 := nI_ne0 (by omega) (by omega)
    simp only [rX12_rest_0, rX12_rest_1, rX12_rest_2, rX12_rest_5, rX12_rest_6, rX12_rest_9, rX12_rest_29, rX12_rest_30, rX12_rest_31, rX12_rest_32, hM.1, e, g, b1, up2_eq, va_rf, eq_self, or_true, true_or, Option.toList_some, Option.toList_none, List.cons_append, List.nil_append, if_true, if_false, up2_k, ne_eq, not_false_eq_true, Nat.reduceEqDiff, reduceCtorEq]
    rw [rX12_rest_35, k_in]
    by_cases c1 : i < nI 0 ∨ nI (T.1 15 0) < i
    · rw [if_pos c1]
      simp only [rX12_rest_38, rX12_rest_50, rX12_rest_52, up2_eq, va_rf, eq_self, or_true, true_or, Option.toList_some, Option.toList_none, List.cons_append, List.nil_append, if_true, if_false]
      by_cases c2 : i < nI 0 ∨ nI 120 < i
      · rw [if_pos c2] at hq; exact hq
      · rw [if_neg c2, if_pos (c1.resolve_left (fun e => c2 (Or.inl e)))] at hq
        exact hq
    · obtain ⟨j, hj, rfl⟩ := nI_of (fun e => c1 (Or.inl e))
      have hjm : j ≤ T.1 15 0 := Nat.not_lt.mp fun e => c1 (Or.inr (nI_lt e hj))
      have c2 : ¬ (nI j < nI 0 ∨ nI 120 < nI j) := fun e => e.elim (fun e => c1 (Or.inl e)) (fun e => nI_nlt (show j ≤ 120 by omega) (by decide) e)
      rw [if_neg c2, if_neg (fun e => c1 (Or.inr e)), nI_clamp hj] at hq
      rw [if_neg c1]
      have g1 : ¬ nI 1 = nI 0 := by decide
      simp only [rX12_rest_38, rX12_rest_41, rX12_rest_42, rX12_rest_45, g1, hM.1, hM.r 1245 31 0 121 (by decide), up2_eq, va_rf, eq_self, or_true, true_or, Option.toList_some, Option.toList_none, List.cons_append, List.nil_append, if_true, if_false]
      rw [rX12_rest_46 (hM.s 1245 31 0 121 (by decide)) (by decide) (by omega) (by omega), b3 j hjm]
      simp only [rX12_rest_47, rX12_rest_52, up2_eq, va_rf, eq_self, or_true, true_or, Option.toList_some, Option.toList_none, List.cons_append, List.nil_append, if_true, if_false]
      exact hq
theorem m_forget (hM : isM sh R y) (h : MS F A y T) (hT : okT T) (hQ : mPost n u sh F R A B y (nI (T.1 6 0), (up2 T.1 6 0 0, T.2)) Q) : rc_ (k + 8) mX12_forget [.ref y] (mkh n u sh F R A B) Q := by
  obtain ⟨a1, a2, a3, a4, a5, a6⟩ := id h
  rw [eX12_forget]
  simp only [rX12_forget_0, rX12_forget_1, rX12_forget_2, rX12_forget_5, rX12_forget_6, rX12_forget_9, rX12_forget_10, rX12_forget_11, rX12_forget_12, rX12_forget_15, rX12_forget_16, hM.1, a4.1, up2_eq, va_rf, eq_self, or_true, true_or, Option.toList_some, Option.toList_none, List.cons_append, List.nil_append, if_true, if_false, up2_k, ne_eq, not_false_eq_true, Nat.reduceEqDiff, reduceCtorEq]
  refine hQ _ _ ⟨mTO_cong (N := T.1) a1 (by rw [up2_k (by decide), up2_k (by decide)]) (by rw [up2_k (by decide), up2_k (by decide)]) rfl rfl, ⟨by rw [up2_k (by decide), up2_k (by decide)]; exact a2.1, a2.2⟩, mPk_cong (T := T) a3 (fun q hq => by rw [up2_k (by omega), up2_k (by omega)]) (fun _ _ _ => rfl), ⟨up2_eq, fun i hi => absurd hi (Nat.not_lt_zero _), fun i hi => absurd hi (Nat.not_lt_zero _)⟩, mGa_cong (T := T) a5 (fun q _ _ => by rw [up2_k (by omega), up2_k (by omega)]) rfl, mWi_cong (T := T) a6 (fun q hq => by rw [up2_k (by omega), up2_k (by omega)]) (fun _ _ _ => rfl)⟩ (frM_trans (frM_F (by decide)) (frM_F (by decide)))
theorem m_gained {w : Int32} (hM : isM sh R y) (h : MS F A y T) (hT : okT T) (hQ : mPost n u sh F R A B y (s_gained T w, T) Q) : rc_ (k + 8) mX12_gained [.ref y, .int w] (mkh n u sh F R A B) Q := by
  obtain ⟨a1, a2, a3, a4, a5, a6⟩ := id h
  have hq := hQ _ _ (MS_th (v := nI 0) h hT) (frM_F (by decide))
  have k6 := hT.2.2.2.2.2.1.2.2
  rw [eX12_gained]
  unfold s_gained at hq
  by_cases c1 : w < nI 0
  · rw [if_pos c1] at hq
    have g1 : ¬ nI 0 ≤ w := Int32.not_le.mpr c1
    simp only [rX12_gained_0, rX12_gained_1, rX12_gained_2, rX12_gained_5, rX12_gained_6, rX12_gained_9, rX12_gained_11, hM.1, g1, up2_eq, va_rf, eq_self, or_true, true_or, Option.toList_some, Option.toList_none, List.cons_append, List.nil_append, if_true, if_false]
    exact hq
  rw [if_neg c1] at hq
  have g1 : nI 0 ≤ w := Int32.not_lt.mp c1
  have e60 := a5.1
  by_cases c2 : T.1 17 0 = 0
  · rw [if_pos c2] at hq e60
    simp only [rX12_gained_0, rX12_gained_1, rX12_gained_2, rX12_gained_5, rX12_gained_6, rX12_gained_12, rX12_gained_13, rX12_gained_16, rX12_gained_29, rX12_gained_30, hM.1, g1, e60, up2_eq, va_rf, eq_self, or_true, true_or, Option.toList_some, Option.toList_none, List.cons_append, List.nil_append, if_true, if_false, up2_k, ne_eq, not_false_eq_true, Nat.reduceEqDiff, reduceCtorEq]
    exact hq
  rw [if_neg c2] at hq e60
  obtain ⟨b1, b2, b3⟩ := a5.2 c2
  have g2 : ¬ nI 1 = nI 0 := by decide
  simp only [rX12_gained_0, rX12_gained_1, rX12_gained_2, rX12_gained_5, rX12_gained_6, rX12_gained_12, rX12_gained_13, rX12_gained_16, rX12_gained_19, rX12_gained_20, rX12_gained_21, rX12_gained_22, rX12_gained_23, rX12_gained_26, hM.1, g1, g2, e60, b2, up2_eq, va_rf, eq_self, or_true, true_or, Option.toList_some, Option.toList_none, List.cons_append, List.nil_append, if_true, if_false, up2_k, ne_eq, not_false_eq_true, Nat.reduceEqDiff, reduceCtorEq]
  obtain ⟨j, hj, rfl⟩ := nI_of c1
  by_cases w0 : nI j = nI 0
  · rw [if_pos w0] at hq
    rw [w0]
    have g3 : nI 0 - nI 2 < nI (T.1 17 0) := by
      rw [Int32.lt_iff_toInt_lt, nI_toInt (by omega)]
      have : (nI 0 - nI 2).toInt = -2 := by decide
      omega
    simp only [rX12_gained_31, rX12_gained_32, rX12_gained_35, rX12_gained_36, rX12_gained_39, rX12_gained_62, hM.1, g3, b1, up2_eq, va_rf, eq_self, or_true, true_or, Option.toList_some, Option.toList_none, List.cons_append, List.nil_append, if_true, if_false, up2_k, ne_eq, not_false_eq_true, Nat.reduceEqDiff, reduceCtorEq]
    exact hq
  rw [if_neg w0] at hq
  by_cases w1 : nI j = nI 1
  · rw [if_pos w1] at hq
    rw [w1] at w0 ⊢
    have g3 : nI 1 - nI 2 < nI (T.1 17 0) := by
      rw [Int32.lt_iff_toInt_lt, nI_toInt (by omega)]
      have : (nI 1 - nI 2).toInt = -1 := by decide
      omega
    simp only [rX12_gained_31, rX12_gained_32, rX12_gained_42, rX12_gained_43, rX12_gained_44, rX12_gained_47, rX12_gained_48, rX12_gained_51, rX12_gained_62, hM.1, g3, w0, b2, up2_eq, va_rf, eq_self, or_true, true_or, Option.toList_some, Option.toList_none, List.cons_append, List.nil_append, if_true, if_false, up2_k, ne_eq, not_false_eq_true, Nat.reduceEqDiff, reduceCtorEq]
    exact hq
  rw [if_neg w1] at hq
  have hj2 : 2 ≤ j := by
    rw [nI_eq hj (by omega)] at w0 w1
    omega
  have e2 : nI j - nI 2 = nI (j - 2) := pk_sub hj2
  rw [e2] at hq
  rw [e2]
  by_cases c3 : j - 2 < T.1 17 0
  · rw [ix_nI c3 (by omega) (by omega)] at hq
    have g3 : nI (j - 2) < nI (T.1 17 0) := nI_lt c3 (by omega)
    simp only [rX12_gained_31, rX12_gained_32, rX12_gained_42, rX12_gained_43, rX12_gained_44, rX12_gained_54, rX12_gained_55, rX12_gained_58, rX12_gained_59, rX12_gained_60, hM.1, g3, w0, w1, e2, hM.r 1261 37 0 6 (by decide), up2_eq, va_rf, eq_self, or_true, true_or, Option.toList_some, Option.toList_none, List.cons_append, List.nil_append, if_true, if_false, up2_k, ne_eq, not_false_eq_true, Nat.reduceEqDiff, reduceCtorEq]
    rw [rX12_gained_61 (hM.s 1261 37 0 6 (by decide)) (by decide) (by omega) (by omega), b3 _ c3]
    simp only [rX12_gained_62, up2_eq, va_rf, eq_self, or_true, true_or, Option.toList_some, Option.toList_none, List.cons_append, List.nil_append, if_true, if_false]
    exact hq
  · have : ix (nI (j - 2)) (T.1 17 0) = none := by
      unfold ix
      rw [if_neg (nI_nlt (Nat.zero_le _) (by omega)), if_pos (nI_le (by omega) (by omega))]
    rw [this] at hq
    have g3 : ¬ nI (j - 2) < nI (T.1 17 0) := nI_nlt (by omega) (by omega)
    simp only [rX12_gained_29, rX12_gained_30, g3, up2_eq, va_rf, eq_self, or_true, true_or, Option.toList_some, Option.toList_none, List.cons_append, List.nil_append, if_true, if_false]
    exact hq
end MSI
