/-! ===== the reference: counts, messages looked at, samples, tell ===== -/
section MME
variable {k n u : Nat} {sh : hs_} {F F' : hF_} {R : hR_} {A A' : hF_} {B : hR_} {Q : Option Value → pm_H → Prop} {y : Nat} {T : TT}
theorem hcT_le {N : tN} : ∀ j, hcT N j ≤ j
  | 0 => Nat.le_refl _
  | j + 1 => by
    have := hcT_le (N := N) j
    unfold hcT
    split <;> omega
theorem l_held {N : tN} {nb : Nat} (hM : isM sh R y) (h5 : F 1205 y = nI nb) (hn : nb ≤ 24) (h8 : ∀ b, b < nb → A (y + 8) b = nI (N 19 b) ∧ N 19 b ≤ 1) : ∀ d i, i + d = nb → (rw_ k mX12_heldMany 4 [.ref y, .int (nI (hcT N i)), .int (nI i)] [] (mkh n u sh F R A B) Q ↔ Q (some (.int (nI (hcT N nb)))) (mkh n u sh F R A B)) := by
  have r8 := hM.r 1211 8 1 24 (by decide)
  have s8 := hM.s 1211 8 1 24 (by decide)
  intro d
  induction d with
  | zero =>
    intro i hi
    have e : i = nb := by omega
    subst e
    have g1 : nI i ≤ nI i := nI_le (Nat.le_refl _) (by omega)
    simp only [rX12_heldMany_4, rX12_heldMany_5, rX12_heldMany_6, rX12_heldMany_9, rX12_heldMany_35, rX12_heldMany_36, hM.1, h5, g1, up2_eq, va_rf, eq_self, or_true, true_or, Option.toList_some, Option.toList_none, List.cons_append, List.nil_append, if_true, if_false]
  | succ d ih =>
    intro i hi
    have g1 : ¬ nI nb ≤ nI i := nI_ge (by omega) (by omega)
    obtain ⟨e1, e2⟩ := h8 i (by omega)
    simp only [rX12_heldMany_4, rX12_heldMany_5, rX12_heldMany_6, rX12_heldMany_9, rX12_heldMany_12, rX12_heldMany_13, rX12_heldMany_14, rX12_heldMany_17, hM.1, h5, g1, r8, up2_eq, va_rf, eq_self, or_true, true_or, Option.toList_some, Option.toList_none, List.cons_append, List.nil_append, if_true, if_false]
    rw [rX12_heldMany_18 s8 (by omega) (by omega), e1]
    by_cases c : N 19 i = 0
    · have e3 : hcT N i + 0 = hcT N (i + 1) := by
        show _ = hcT N i + (if N 19 i = 0 then 0 else 1)
        rw [if_pos c]
      have g2 : nI (N 19 i) = nI 0 := by rw [c]
      simp only [rX12_heldMany_19, rX12_heldMany_26, rX12_heldMany_27, rX12_heldMany_28, rX12_heldMany_29, rX12_heldMany_32, g2, nI_add, up2_eq, va_rf, eq_self, or_true, true_or, Option.toList_some, Option.toList_none, List.cons_append, List.nil_append, if_true, if_false]
      rw [e3]
      exact ih (i + 1) (by omega)
    · have e3 : hcT N i + 1 = hcT N (i + 1) := by
        show _ = hcT N i + (if N 19 i = 0 then 0 else 1)
        rw [if_neg c]
      have g2 : ¬ nI (N 19 i) = nI 0 := nI_ne0 (by omega) (by omega)
      simp only [rX12_heldMany_19, rX12_heldMany_22, rX12_heldMany_23, rX12_heldMany_26, rX12_heldMany_27, rX12_heldMany_28, rX12_heldMany_29, rX12_heldMany_32, g2, nI_add, up2_eq, va_rf, eq_self, or_true, true_or, Option.toList_some, Option.toList_none, List.cons_append, List.nil_append, if_true, if_false]
      rw [e3]
      exact ih (i + 1) (by omega)
theorem k_heldMany {N : tN} {nb : Nat} (hM : isM sh R y) (h5 : F 1205 y = nI nb) (hn : nb ≤ 24) (h8 : ∀ b, b < nb → A (y + 8) b = nI (N 19 b) ∧ N 19 b ≤ 1) : rc_ k mX12_heldMany [.ref y] (mkh n u sh F R A B) Q ↔ Q (some (.int (nI (hcT N nb)))) (mkh n u sh F R A B) := by
  rw [eX12_heldMany]
  simp only [rX12_heldMany_0, rX12_heldMany_1, rX12_heldMany_2, rX12_heldMany_3]
  exact l_held hM h5 hn h8 nb 0 (by omega)
theorem l_count {N : tN} {nm : Nat} {x1 : Value} (hM : isM sh R y) (h5 : F 1219 y = nI nm) (hn : nm ≤ 200) (h8 : ∀ m, m < nm → A (y + 17) m = nI (N 11 m) ∧ N 11 m ≤ 3) : ∀ d i, i + d = nm → (rw_ k mX12_count 103 [.ref y, x1, .int (nI (ucT N i)), .int (nI i)] [] (mkh n u sh F R A B) Q ↔ Q (some (.int (nI (ucT N nm)))) (mkh n u sh F R A B)) := by
  have r8 := hM.r 1222 17 0 200 (by decide)
  have s8 := hM.s 1222 17 0 200 (by decide)
  intro d
  induction d with
  | zero =>
    intro i hi
    have e : i = nm := by omega
    subst e
    have g1 : nI i ≤ nI i := nI_le (Nat.le_refl _) (by omega)
    simp only [rX12_count_103, rX12_count_104, rX12_count_105, rX12_count_108, rX12_count_134, rX12_count_135, hM.1, h5, g1, up2_eq, va_rf, eq_self, or_true, true_or, Option.toList_some, Option.toList_none, List.cons_append, List.nil_append, if_true, if_false]
  | succ d ih =>
    intro i hi
    have g1 : ¬ nI nm ≤ nI i := nI_ge (by omega) (by omega)
    obtain ⟨e1, e2⟩ := h8 i (by omega)
    simp only [rX12_count_103, rX12_count_104, rX12_count_105, rX12_count_108, rX12_count_111, rX12_count_112, rX12_count_113, rX12_count_116, hM.1, h5, g1, r8, up2_eq, va_rf, eq_self, or_true, true_or, Option.toList_some, Option.toList_none, List.cons_append, List.nil_append, if_true, if_false]
    rw [rX12_count_117 s8 (by decide) (by omega) (by omega), e1]
    by_cases c : N 11 i = 0
    · have e3 : ucT N i + 0 = ucT N (i + 1) := by
        show _ = ucT N i + (if N 11 i = 0 then 0 else 1)
        rw [if_pos c]
      have g2 : nI (N 11 i) ≤ nI 0 := nI_le (by omega) (by omega)
      simp only [rX12_count_118, rX12_count_125, rX12_count_126, rX12_count_127, rX12_count_128, rX12_count_131, g2, nI_add, up2_eq, va_rf, eq_self, or_true, true_or, Option.toList_some, Option.toList_none, List.cons_append, List.nil_append, if_true, if_false]
      rw [e3]
      exact ih (i + 1) (by omega)
    · have e3 : ucT N i + 1 = ucT N (i + 1) := by
        show _ = ucT N i + (if N 11 i = 0 then 0 else 1)
        rw [if_neg c]
      have g2 : ¬ nI (N 11 i) ≤ nI 0 := nI_ge (by omega) (by omega)
      simp only [rX12_count_118, rX12_count_121, rX12_count_122, rX12_count_125, rX12_count_126, rX12_count_127, rX12_count_128, rX12_count_131, g2, nI_add, up2_eq, va_rf, eq_self, or_true, true_or, Option.toList_some, Option.toList_none, List.cons_append, List.nil_append, if_true, if_false]
      rw [e3]
      exact ih (i + 1) (by omega)
theorem m_count {w : Int32} (hM : isM sh R y) (h : MS F A y T) (hT : okT T) (hQ : mPost n u sh F R A B y (s_count T w, T) Q) : rc_ (k + 8) mX12_count [.ref y, .int w] (mkh n u sh F R A B) Q := by
  obtain ⟨a1, a2, a3, a4, a5, a6⟩ := id h
  have hq := hQ _ _ (MS_th (v := nI 0) h hT) (frM_F (by decide))
  have h24 := hT.2.2.2.1.1
  have h200 := hT.2.2.2.2.2.2.1.1
  have e05 : up2 F 1200 y (nI 0) 1205 y = nI (T.1 2 0) := by rw [up2_k (by decide)]; exact a2.1
  have e19 : up2 F 1200 y (nI 0) 1219 y = nI (T.1 8 0) := by rw [up2_k (by decide)]; exact a6.1
  rw [eX12_count]
  unfold s_count at hq
  simp only [rX12_count_0, rX12_count_1, rX12_count_2, rX12_count_5, rX12_count_6, rX12_count_7, rX12_count_8, hM.1, up2_eq, va_rf, eq_self, or_true, true_or, Option.toList_some, Option.toList_none, List.cons_append, List.nil_append, if_true, if_false]
  by_cases w0 : w = nI 0
  · rw [if_pos w0] at hq ⊢
    simp only [rX12_count_68, rX12_count_69, rX12_count_72, hM.1, e05, up2_eq, va_rf, eq_self, or_true, true_or, Option.toList_some, Option.toList_none, List.cons_append, List.nil_append, if_true, if_false]
    exact hq
  rw [if_neg w0] at hq ⊢
  by_cases w0 : w = nI 1
  · rw [if_pos w0] at hq ⊢
    simp only [rX12_count_73, rX12_count_74, rX12_count_77, hM.1, a4.1, up2_eq, va_rf, eq_self, or_true, true_or, Option.toList_some, Option.toList_none, List.cons_append, List.nil_append, if_true, if_false, up2_k, ne_eq, not_false_eq_true, Nat.reduceEqDiff, reduceCtorEq]
    exact hq
  rw [if_neg w0] at hq ⊢
  by_cases w0 : w = nI 2
  · rw [if_pos w0] at hq ⊢
    simp only [rX12_count_78, rX12_count_79, rX12_count_82, hM.1, hM.r 1207 4 0 26 (by decide), up2_eq, va_rf, eq_self, or_true, true_or, Option.toList_some, Option.toList_none, List.cons_append, List.nil_append, if_true, if_false]
    rw [rX12_count_84 (hM.s 1207 4 0 26 (by decide)) (by decide) (by omega) (by omega), a2.2.1.1]
    simp only [rX12_count_85, up2_eq, va_rf, eq_self, or_true, true_or, Option.toList_some, Option.toList_none, List.cons_append, List.nil_append, if_true, if_false]
    exact hq
  rw [if_neg w0] at hq ⊢
  by_cases w0 : w = nI 3
  · rw [if_pos w0] at hq ⊢
    simp only [rX12_count_86, rX12_count_87, rX12_count_90, hM.1, a1.1.1, up2_eq, va_rf, eq_self, or_true, true_or, Option.toList_some, Option.toList_none, List.cons_append, List.nil_append, if_true, if_false, up2_k, ne_eq, not_false_eq_true, Nat.reduceEqDiff, reduceCtorEq]
    exact hq
  rw [if_neg w0] at hq ⊢
  by_cases w0 : w = nI 4
  · rw [if_pos w0] at hq ⊢
    simp only [rX12_count_91, rX12_count_92, rX12_count_95, hM.1, a1.2.1, up2_eq, va_rf, eq_self, or_true, true_or, Option.toList_some, Option.toList_none, List.cons_append, List.nil_append, if_true, if_false, up2_k, ne_eq, not_false_eq_true, Nat.reduceEqDiff, reduceCtorEq]
    exact hq
  rw [if_neg w0] at hq ⊢
  by_cases w0 : w = nI 5
  · rw [if_pos w0] at hq ⊢
    simp only [rX12_count_96, rX12_count_97, rX12_count_100, hM.1, e19, up2_eq, va_rf, eq_self, or_true, true_or, Option.toList_some, Option.toList_none, List.cons_append, List.nil_append, if_true, if_false]
    exact hq
  rw [if_neg w0] at hq ⊢
  by_cases w0 : w = nI 6
  · rw [if_pos w0] at hq ⊢
    simp only [rX12_count_101, rX12_count_102, up2_eq, va_rf, eq_self, or_true, true_or, Option.toList_some, Option.toList_none, List.cons_append, List.nil_append, if_true, if_false]
    exact (l_count (N := T.1) hM e19 h200 (fun m hm => ⟨(a6.2.2.2.2.2 m hm).1.2.2.1, (hT.2.2.2.2.2.2.1.2.1 m hm).2.2.2.2.1⟩) (T.1 8 0) 0 (by omega)).mpr hq
  rw [if_neg w0] at hq ⊢
  by_cases w0 : w = nI 7
  · rw [if_pos w0] at hq ⊢
    simp only [rX12_count_136, up2_eq, va_rf, eq_self, or_true, true_or, Option.toList_some, Option.toList_none, List.cons_append, List.nil_append, if_true, if_false]
    rw [rX12_count_137 hM.1, k_heldMany (N := T.1) hM e05 h24 (fun b hb => ⟨(a2.2.2.1 b hb).2.2.2.1, (hT.2.2.2.1.2.1 b (Or.inl hb)).2.2.1⟩)]
    simp only [rX12_count_140, up2_eq, va_rf, eq_self, or_true, true_or, Option.toList_some, Option.toList_none, List.cons_append, List.nil_append, if_true, if_false]
    exact hq
  rw [if_neg w0] at hq ⊢
  by_cases w0 : w = nI 8
  · rw [if_pos w0] at hq ⊢
    simp only [rX12_count_141, rX12_count_142, rX12_count_145, hM.1, a6.2.2.1, up2_eq, va_rf, eq_self, or_true, true_or, Option.toList_some, Option.toList_none, List.cons_append, List.nil_append, if_true, if_false, up2_k, ne_eq, not_false_eq_true, Nat.reduceEqDiff, reduceCtorEq]
    exact hq
  rw [if_neg w0] at hq ⊢
  by_cases w0 : w = nI 9
  · rw [if_pos w0] at hq ⊢
    simp only [rX12_count_146, rX12_count_147, rX12_count_150, hM.1, a6.2.2.2.1, up2_eq, va_rf, eq_self, or_true, true_or, Option.toList_some, Option.toList_none, List.cons_append, List.nil_append, if_true, if_false, up2_k, ne_eq, not_false_eq_true, Nat.reduceEqDiff, reduceCtorEq]
    exact hq
  rw [if_neg w0] at hq ⊢
  by_cases w0 : w = nI 10
  · rw [if_pos w0] at hq ⊢
    simp only [rX12_count_151, rX12_count_152, rX12_count_155, hM.1, a6.2.2.2.2.1, up2_eq, va_rf, eq_self, or_true, true_or, Option.toList_some, Option.toList_none, List.cons_append, List.nil_append, if_true, if_false, up2_k, ne_eq, not_false_eq_true, Nat.reduceEqDiff, reduceCtorEq]
    exact hq
  rw [if_neg w0] at hq ⊢
  simp only [rX12_count_156, rX12_count_158, up2_eq, va_rf, eq_self, or_true, true_or, Option.toList_some, Option.toList_none, List.cons_append, List.nil_append, if_true, if_false]
  exact hq
theorem m_message {i w : Int32} (hM : isM sh R y) (h : MS F A y T) (hT : okT T) (hQ : mPost n u sh F R A B y (s_message T i w, T) Q) : rc_ (k + 8) mX12_message [.ref y, .int i, .int w] (mkh n u sh F R A B) Q := by
  obtain ⟨a1, a2, a3, a4, a5, a6⟩ := id h
  have hq := hQ _ _ (MS_th (v := nI 0) h hT) (frM_F (by decide))
  have h200 := hT.2.2.2.2.2.2.1.1
  have e := in_ix (v := i) (n := T.1 8 0) (by omega)
  rw [eX12_message]
  simp only [rX12_message_0, rX12_message_1, rX12_message_2, rX12_message_5, rX12_message_6, rX12_message_7, rX12_message_8, rX12_message_11, rX12_message_12, hM.1, a6.1, up2_eq, va_rf, eq_self, or_true, true_or, Option.toList_some, Option.toList_none, List.cons_append, List.nil_append, if_true, if_false, up2_k, ne_eq, not_false_eq_true, Nat.reduceEqDiff, reduceCtorEq]
  rw [rX12_message_13, k_in]
  unfold s_message at hq
  cases hi : ix i (T.1 8 0) with
  | none =>
    rw [hi] at hq
    rw [if_pos (e.mpr hi)]
    simp only [rX12_message_16, rX12_message_19, rX12_message_21, up2_eq, va_rf, eq_self, or_true, true_or, Option.toList_some, Option.toList_none, List.cons_append, List.nil_append, if_true, if_false]
    exact hq
  | some m =>
    rw [hi] at hq
    obtain ⟨hm, -, rfl⟩ := ix_some hi
    obtain ⟨⟨v1, v2, v3, v4, v5⟩, -⟩ := a6.2.2.2.2.2 m hm
    dsimp only at hq
    have g : ¬ nI 1 = nI 0 := by decide
    rw [if_neg (fun q => by have := e.mp q; rw [hi] at this; cases this)]
    simp only [rX12_message_16, rX12_message_22, rX12_message_23, g, up2_eq, va_rf, eq_self, or_true, true_or, Option.toList_some, Option.toList_none, List.cons_append, List.nil_append, if_true, if_false]
    by_cases w0 : w = nI 0
    · rw [if_pos w0] at hq ⊢
      simp only [rX12_message_56, rX12_message_57, rX12_message_60, hM.1, hM.r 1220 15 0 200 (by decide), up2_eq, va_rf, eq_self, or_true, true_or, Option.toList_some, Option.toList_none, List.cons_append, List.nil_append, if_true, if_false]
      rw [rX12_message_61 (hM.s 1220 15 0 200 (by decide)) (by decide) (by omega) (by omega), v1]
      simp only [rX12_message_62, up2_eq, va_rf, eq_self, or_true, true_or, Option.toList_some, Option.toList_none, List.cons_append, List.nil_append, if_true, if_false]
      exact hq
    rw [if_neg w0] at hq ⊢
    by_cases w0 : w = nI 1
    · rw [if_pos w0] at hq ⊢
      simp only [rX12_message_63, rX12_message_64, rX12_message_67, hM.1, hM.r 1221 16 0 200 (by decide), up2_eq, va_rf, eq_self, or_true, true_or, Option.toList_some, Option.toList_none, List.cons_append, List.nil_append, if_true, if_false]
      rw [rX12_message_68 (hM.s 1221 16 0 200 (by decide)) (by decide) (by omega) (by omega), v2]
      simp only [rX12_message_69, up2_eq, va_rf, eq_self, or_true, true_or, Option.toList_some, Option.toList_none, List.cons_append, List.nil_append, if_true, if_false]
      exact hq
    rw [if_neg w0] at hq ⊢
    by_cases w0 : w = nI 2
    · rw [if_pos w0] at hq ⊢
      simp only [rX12_message_70, rX12_message_71, rX12_message_74, hM.1, hM.r 1222 17 0 200 (by decide), up2_eq, va_rf, eq_self, or_true, true_or, Option.toList_some, Option.toList_none, List.cons_append, List.nil_append, if_true, if_false]
      rw [rX12_message_75 (hM.s 1222 17 0 200 (by decide)) (by decide) (by omega) (by omega), v3]
      simp only [rX12_message_76, up2_eq, va_rf, eq_self, or_true, true_or, Option.toList_some, Option.toList_none, List.cons_append, List.nil_append, if_true, if_false]
      exact hq
    rw [if_neg w0] at hq ⊢
    by_cases w0 : w = nI 3
    · rw [if_pos w0] at hq ⊢
      simp only [rX12_message_77, rX12_message_78, rX12_message_81, hM.1, hM.r 1223 18 0 200 (by decide), up2_eq, va_rf, eq_self, or_true, true_or, Option.toList_some, Option.toList_none, List.cons_append, List.nil_append, if_true, if_false]
      rw [rX12_message_82 (hM.s 1223 18 0 200 (by decide)) (by decide) (by omega) (by omega), v4]
      simp only [rX12_message_83, up2_eq, va_rf, eq_self, or_true, true_or, Option.toList_some, Option.toList_none, List.cons_append, List.nil_append, if_true, if_false]
      exact hq
    rw [if_neg w0] at hq ⊢
    by_cases w0 : w = nI 4
    · rw [if_pos w0] at hq ⊢
      simp only [rX12_message_84, rX12_message_85, rX12_message_88, hM.1, hM.r 1224 19 0 200 (by decide), up2_eq, va_rf, eq_self, or_true, true_or, Option.toList_some, Option.toList_none, List.cons_append, List.nil_append, if_true, if_false]
      rw [rX12_message_89 (hM.s 1224 19 0 200 (by decide)) (by decide) (by omega) (by omega), v5]
      simp only [rX12_message_90, up2_eq, va_rf, eq_self, or_true, true_or, Option.toList_some, Option.toList_none, List.cons_append, List.nil_append, if_true, if_false]
      exact hq
    rw [if_neg w0] at hq ⊢
    simp only [rX12_message_91, rX12_message_93, up2_eq, va_rf, eq_self, or_true, true_or, Option.toList_some, Option.toList_none, List.cons_append, List.nil_append, if_true, if_false]
    exact hq
/-- a message's way and fate change -/
theorem MS_ms {m uw fa : Nat} (h : MS F A y T) (hT : okT T) (hm : m < T.1 8 0) (hF : ∀ q, q ≠ 1200 → F' q y = F q y) (hA : ∀ k, 1 ≤ k → k ≤ 38 → k ≠ 17 → k ≠ 19 → A' (y + k) = A (y + k)) (h1 : ∀ j, j ≠ m → A' (y + 17) j = A (y + 17) j) (h2 : ∀ j, j ≠ m → A' (y + 19) j = A (y + 19) j) (h3 : A' (y + 17) m = nI uw) (h4 : A' (y + 19) m = if T.1 9 m = 3 then nI fa else -1) : MS F' A' y (msT T m uw fa) := by
  obtain ⟨a1, a2, a3, a4, a5, a6⟩ := id h
  obtain ⟨d1, d2, d3, d4⟩ := hT.2.2.1
  have dsum := okE_sum _ d2 (fun q hq => (d3 q hq).2) (T.1 4 24) (Nat.le_refl _)
  rw [d2.2] at dsum
  refine ⟨mTO_cong (N := T.1) a1 (hF _ (by decide)) (hF _ (by decide)) (hA _ (by decide) (by decide) (by decide) (by decide)) (hA _ (by decide) (by decide) (by decide) (by decide)), mBk_cong (T := T) a2 hT.2.2.2.1.1 d1 (by omega) (fun b hb => ⟨(hT.2.2.2.1.2.1 b (Or.inl hb)).1.2.1, (hT.2.2.2.1.2.1 b (Or.inl hb)).1.2.2.1⟩) (hF _ (by decide)) (fun j _ => by rw [hA 3 (by decide) (by decide) (by decide) (by decide)]) (fun j _ => by rw [hA 4 (by decide) (by decide) (by decide) (by decide)]) (fun j _ => by rw [hA 5 (by decide) (by decide) (by decide) (by decide)]) (fun j _ => by rw [hA 6 (by decide) (by decide) (by decide) (by decide)]) (fun k k1 k2 => hA k (by omega) (by omega) (by omega) (by omega)), mPk_cong (T := T) a3 (fun q hq => hF q (by omega)) (fun k k1 k2 => hA k (by omega) (by omega) (by omega) (by omega)), mSm_cong (T := T) a4 (hF _ (by decide)) (hA _ (by decide) (by decide) (by decide) (by decide)) (hA _ (by decide) (by decide) (by decide) (by decide)), mGa_cong (T := T) a5 (fun q _ _ => hF q (by omega)) (hA _ (by decide) (by decide) (by decide) (by decide)), ?_⟩
  obtain ⟨w1, w2, w3, w4, w5, w6⟩ := a6
  refine ⟨by rw [hF _ (by decide)]; exact w1, by rw [hF _ (by decide)]; exact w2, by rw [hF _ (by decide)]; exact w3, by rw [hF _ (by decide)]; exact w4, by rw [hF _ (by decide)]; exact w5, fun q hq => ?_⟩
  obtain ⟨⟨v1, v2, v3, v4, v5⟩, v6⟩ := w6 q hq
  refine ⟨⟨?_, ?_, ?_, ?_, ?_⟩, fun g => ?_⟩
  · rw [hA 15 (by decide) (by decide) (by decide) (by decide)]; exact v1
  · rw [hA 16 (by decide) (by decide) (by decide) (by decide)]; exact v2
  · unfold msT
    dsimp only
    rw [up2_k (by decide)]
    by_cases e : q = m
    · subst e; rw [up2_eq]; exact h3
    · rw [up2_a e, h1 q e]; exact v3
  · rw [hA 18 (by decide) (by decide) (by decide) (by decide)]; exact v4
  · show A' (y + 19) q = if T.1 9 q = 3 then nI (up2 (up2 T.1 11 m uw) 21 m fa 21 q) else -1
    by_cases e : q = m
    · subst e; rw [up2_eq]; exact h4
    · rw [up2_a e, up2_k (by decide), h2 q e]; exact v5
  · rw [hA 20 (by decide) (by decide) (by decide) (by decide), hA 21 (by decide) (by decide) (by decide) (by decide)]
    exact v6 g
theorem m_twice {i : Int32} (hM : isM sh R y) (h : MS F A y T) (hT : okT T) (hQ : mPost n u sh F R A B y (s_twice T i) Q) : rc_ (k + 8) mX12_twice [.ref y, .int i] (mkh n u sh F R A B) Q := by
  obtain ⟨a1, a2, a3, a4, a5, a6⟩ := id h
  have h200 := hT.2.2.2.2.2.2.1.1
  have e := in_ix (v := i) (n := T.1 8 0) (by omega)
  have r17 := hM.r 1222 17 0 200 (by decide)
  have s17 := hM.s 1222 17 0 200 (by decide)
  rw [eX12_twice]
  simp only [rX12_twice_0, rX12_twice_1, rX12_twice_2, rX12_twice_5, rX12_twice_6, rX12_twice_7, rX12_twice_8, rX12_twice_11, rX12_twice_12, hM.1, a6.1, up2_eq, va_rf, eq_self, or_true, true_or, Option.toList_some, Option.toList_none, List.cons_append, List.nil_append, if_true, if_false, up2_k, ne_eq, not_false_eq_true, Nat.reduceEqDiff, reduceCtorEq]
  rw [rX12_twice_13, k_in]
  unfold s_twice at hQ
  cases hi : ix i (T.1 8 0) with
  | none =>
    rw [hi] at hQ
    rw [if_pos (e.mpr hi)]
    simp only [rX12_twice_16, rX12_twice_19, rX12_twice_21, up2_eq, va_rf, eq_self, or_true, true_or, Option.toList_some, Option.toList_none, List.cons_append, List.nil_append, if_true, if_false]
    exact hQ _ _ (MS_th h hT) (frM_F (by decide))
  | some m =>
    rw [hi] at hQ
    obtain ⟨hm, -, rfl⟩ := ix_some hi
    obtain ⟨⟨v1, v2, v3, v4, v5⟩, -⟩ := a6.2.2.2.2.2 m hm
    have o5 := (hT.2.2.2.2.2.2.1.2.1 m hm).2.2.2.2.1
    dsimp only at hQ
    have g : ¬ nI 1 = nI 0 := by decide
    rw [if_neg (fun q => by have := e.mp q; rw [hi] at this; cases this)]
    simp only [rX12_twice_16, rX12_twice_22, rX12_twice_23, rX12_twice_26, g, hM.1, r17, up2_eq, va_rf, eq_self, or_true, true_or, Option.toList_some, Option.toList_none, List.cons_append, List.nil_append, if_true, if_false]
    rw [rX12_twice_27 s17 (by decide) (by omega) (by omega), v3]
    by_cases c : 3 ≤ T.1 11 m
    · rw [if_pos c] at hQ
      have c3 : T.1 11 m = 3 := by omega
      rw [c3]
      simp only [rX12_twice_28, rX12_twice_29, rX12_twice_32, rX12_twice_34, up2_eq, va_rf, eq_self, or_true, true_or, Option.toList_some, Option.toList_none, List.cons_append, List.nil_append, if_true, if_false]
      exact hQ _ _ (MS_th h hT) (frM_F (by decide))
    · rw [if_neg c] at hQ
      have g3 : ¬ nI (T.1 11 m) = nI 3 := by rw [nI_eq (by omega) (by omega)]; omega
      simp only [rX12_twice_28, rX12_twice_29, rX12_twice_35, rX12_twice_36, rX12_twice_39, rX12_twice_40, g3, hM.1, r17, up2_eq, va_rf, eq_self, or_true, true_or, Option.toList_some, Option.toList_none, List.cons_append, List.nil_append, if_true, if_false]
      rw [rX12_twice_41 s17 (by decide) (by omega) (by omega), v3]
      simp only [rX12_twice_42, rX12_twice_43, nI_add, up2_eq, va_rf, eq_self, or_true, true_or, Option.toList_some, Option.toList_none, List.cons_append, List.nil_append, if_true, if_false]
      rw [rX12_twice_44 s17 (by omega) (by omega)]
      simp only [rX12_twice_45, rX12_twice_46, rX12_twice_49, hM.1, r17, up2_eq, va_rf, eq_self, or_true, true_or, Option.toList_some, Option.toList_none, List.cons_append, List.nil_append, if_true, if_false]
      rw [rX12_twice_50 s17 (by decide) (by omega) (by omega), up2_eq]
      simp only [rX12_twice_51, up2_eq, va_rf, eq_self, or_true, true_or, Option.toList_some, Option.toList_none, List.cons_append, List.nil_append, if_true, if_false]
      exact hQ _ _ (MS_ms h hT hm (fun q hq => up2_k hq) (fun k k1 k2 k3 k4 => up2_row (by omega)) (fun j hj => up2_a hj) (fun j hj => by rw [up2_k (by omega)]) up2_eq (by rw [up2_k (by omega)]; exact v5)) (frM_trans (frM_F (by decide)) (frM_A (by decide) (by decide)))
end MME
