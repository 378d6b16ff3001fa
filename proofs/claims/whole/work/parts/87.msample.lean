/-! ===== the reference: sample, take, send, tell ===== -/
section MSA
variable {k n u : Nat} {sh : hs_} {F F' : hF_} {R : hR_} {A A' : hF_} {B : hR_} {Q : Option Value → pm_H → Prop} {y : Nat} {T : TT} {b m : Nat}
theorem MS_clr (h : MS F A y T) (hT : okT T) : MS (up2 F 1202 y (nI 0)) A y (clrT T) := MS_TO h hT (fun q hq => up2_k (by omega)) (fun _ _ _ _ => rfl) up2_eq (fun j hj => absurd hj (Nat.not_lt_zero _)) (by rw [up2_k (by decide)]; exact h.1.2.1) h.1.2.2
theorem okT_clr (hT : okT T) : okT (clrT T) := by
  obtain ⟨g1, g2, g⟩ := hT
  exact ⟨⟨Nat.zero_le _, fun j hj => absurd hj (Nat.not_lt_zero _)⟩, g2, g⟩
theorem l_sample {nn ns : Nat} (hM : isM sh R y) (hn : nn ≤ 40) (hs : ns < 8) (h16 : F 1216 y = nI ns)
    (hQ : ∀ A' a2, (∀ a, a ≠ y + 14 → A' a = A a) → (∀ j, j < 40 * ns → A' (y + 14) j = A (y + 14) j) → (∀ j, j < nn → A' (y + 14) (40 * ns + j) = A (y + 1) j) → rw_ k mX12_sample 83 [.ref y, .int (nI nn), a2] [] (mkh n u sh F R A' B) Q) :
    ∀ d i A1, i + d = nn → (∀ a, a ≠ y + 14 → A1 a = A a) → (∀ j, j < 40 * ns → A1 (y + 14) j = A (y + 14) j) → (∀ j, j < i → A1 (y + 14) (40 * ns + j) = A (y + 1) j) → rw_ k mX12_sample 52 [.ref y, .int (nI nn), .int (nI i)] [] (mkh n u sh F R A1 B) Q := by
  have r1 := hM.r 1201 1 0 240 (by decide)
  have s1 := hM.s 1201 1 0 240 (by decide)
  have r14 := hM.r 1218 14 0 320 (by decide)
  have s14 := hM.s 1218 14 0 320 (by decide)
  intro d
  induction d with
  | zero =>
    intro i A1 hi f1 f2 f3
    have e : i = nn := by omega
    subst e
    have g1 : nI i ≤ nI i := nI_le (Nat.le_refl _) (by omega)
    simp only [rX12_sample_52, rX12_sample_53, rX12_sample_54, g1, up2_eq, va_rf, eq_self, or_true, true_or, Option.toList_some, Option.toList_none, List.cons_append, List.nil_append, if_true, if_false]
    exact hQ A1 _ f1 f2 f3
  | succ d ih =>
    intro i A1 hi f1 f2 f3
    have g1 : ¬ nI nn ≤ nI i := nI_ge (by omega) (by omega)
    simp only [rX12_sample_52, rX12_sample_53, rX12_sample_54, rX12_sample_57, rX12_sample_58, rX12_sample_61, rX12_sample_63, rX12_sample_64, rX12_sample_67, rX12_sample_68, rX12_sample_69, rX12_sample_70, rX12_sample_71, rX12_sample_74, hM.1, h16, g1, r1, r14, pk_mul, nI_add, up2_eq, va_rf, eq_self, or_true, true_or, Option.toList_some, Option.toList_none, List.cons_append, List.nil_append, if_true, if_false]
    rw [rX12_sample_75 s1 (by decide) (by omega) (by omega)]
    rw [rX12_sample_76 s14 (by omega) (by omega)]
    simp only [rX12_sample_77, rX12_sample_80, nI_add]
    refine ih (i + 1) _ (by omega) (fun a ha => by rw [up2_row ha]; exact f1 a ha) (fun j hj => by rw [up2_a (by omega)]; exact f2 j hj) (fun j hj => ?_)
    by_cases e : j = i
    · subst e; rw [up2_eq, f1 _ (by omega)]
    · rw [up2_a (by omega)]; exact f3 j (by omega)
theorem m_sample (hM : isM sh R y) (h : MS F A y T) (hT : okT T) (hQ : mPost n u sh F R A B y (s_sample T) Q) : rc_ (k + 8) mX12_sample [.ref y] (mkh n u sh F R A B) Q := by
  have h0 := MS_th (v := nI 0) h hT
  have hc := MS_clr h0 hT
  have t0 := hT.1.1
  obtain ⟨a1, a2, a3, a4, a5, a6⟩ := id hc
  have e02 : up2 F 1200 y (nI 0) 1202 y = nI (T.1 0 0) := h0.1.1.1
  have e16 : up2 (up2 F 1200 y (nI 0)) 1202 y (nI 0) 1216 y = nI (T.1 6 0) := a4.1
  obtain ⟨n8, m2, -⟩ := hT.2.2.2.2.2.1
  have frc : frM y F A (up2 (up2 F 1200 y (nI 0)) 1202 y (nI 0)) A := frM_trans (frM_F (by decide)) (frM_F (by decide))
  rw [eX12_sample]
  simp only [rX12_sample_0, rX12_sample_1, rX12_sample_2, rX12_sample_5, rX12_sample_6, rX12_sample_9, rX12_sample_10, rX12_sample_11, rX12_sample_12, rX12_sample_15, rX12_sample_16, rX12_sample_17, hM.1, e02, up2_eq, va_rf, eq_self, or_true, true_or, Option.toList_some, Option.toList_none, List.cons_append, List.nil_append, if_true, if_false]
  rw [rX12_sample_19, k_in]
  unfold s_sample at hQ
  by_cases c : T.1 0 0 = 0 ∨ 40 < T.1 0 0
  · rw [if_pos c] at hQ
    have g1 : nI (T.1 0 0) < nI 1 ∨ nI 40 < nI (T.1 0 0) := by
      rcases c with c | c
      · left; exact nI_lt (by omega) (by omega)
      · right; exact nI_lt c (by omega)
    rw [if_pos g1]
    simp only [rX12_sample_22, rX12_sample_25, rX12_sample_27, up2_eq, va_rf, eq_self, or_true, true_or, Option.toList_some, Option.toList_none, List.cons_append, List.nil_append, if_true, if_false]
    exact hQ _ _ hc frc
  · rw [if_neg c] at hQ
    have g1 : ¬ (nI (T.1 0 0) < nI 1 ∨ nI 40 < nI (T.1 0 0)) := by
      rintro (e | e)
      · rw [nI_ltI (by omega) (by omega)] at e; omega
      · rw [nI_ltI (by omega) (by omega)] at e; omega
    have g : ¬ nI 1 = nI 0 := by decide
    rw [if_neg g1]
    simp only [rX12_sample_22, rX12_sample_28, rX12_sample_29, rX12_sample_32, rX12_sample_34, g, hM.1, e16, up2_eq, va_rf, eq_self, or_true, true_or, Option.toList_some, Option.toList_none, List.cons_append, List.nil_append, if_true, if_false]
    by_cases c2 : 8 ≤ T.1 6 0
    · rw [if_pos c2] at hQ
      have e8 : T.1 6 0 = 8 := by omega
      rw [e8]
      simp only [rX12_sample_37, rX12_sample_39, up2_eq, va_rf, eq_self, or_true, true_or, Option.toList_some, Option.toList_none, List.cons_append, List.nil_append, if_true, if_false]
      exact hQ _ _ hc frc
    · rw [if_neg c2] at hQ
      have g3 : ¬ nI (T.1 6 0) = nI 8 := by rw [nI_eq (by omega) (by omega)]; omega
      simp only [rX12_sample_40, rX12_sample_41, rX12_sample_44, rX12_sample_45, rX12_sample_48, g3, hM.1, e16, hM.r 1217 13 0 8 (by decide), up2_eq, va_rf, eq_self, or_true, true_or, Option.toList_some, Option.toList_none, List.cons_append, List.nil_append, if_true, if_false]
      rw [rX12_sample_49 (hM.s 1217 13 0 8 (by decide)) (by omega) (by omega)]
      simp only [rX12_sample_50, rX12_sample_51, up2_eq, va_rf, eq_self, or_true, true_or, Option.toList_some, Option.toList_none, List.cons_append, List.nil_append, if_true, if_false]
      refine l_sample (nn := T.1 0 0) (ns := T.1 6 0) hM (by omega) (by omega) e16 ?_ (T.1 0 0) 0 _ (by omega) (fun _ _ => rfl) (fun _ _ => rfl) (fun j hj => absurd hj (Nat.not_lt_zero _))
      intro A' x2 f1 f2 f3
      simp only [rX12_sample_83, rX12_sample_84, rX12_sample_85, rX12_sample_88, rX12_sample_89, rX12_sample_90, rX12_sample_93, rX12_sample_94, rX12_sample_97, hM.1, e16, nI_add, up2_eq, va_rf, eq_self, or_true, true_or, Option.toList_some, Option.toList_none, List.cons_append, List.nil_append, if_true, if_false]
      have hA : ∀ k, 1 ≤ k → k ≤ 38 → k ≠ 13 → k ≠ 14 → A' (y + k) = A (y + k) := fun k k1 k2 k3 k4 => by rw [f1 _ (by omega), up2_row (by omega)]
      refine hQ _ _ ⟨?_, ?_, ?_, ?_, ?_, ?_⟩ (frM_trans frc ⟨fun q a g => up2_o (by omega), fun a g => by rw [f1 _ (by omega), up2_row (by omega)]⟩)
      · exact mTO_cong (N := (clrT T).1) a1 (by rw [up2_k (by decide)]) (by rw [up2_k (by decide)]) (hA 1 (by decide) (by decide) (by decide) (by decide)) (hA 2 (by decide) (by decide) (by decide) (by decide))
      · exact mBk_cong (T := clrT T) a2 hT.2.2.2.1.1 hT.2.2.1.1 (by
          obtain ⟨d1, d2, d3, d4⟩ := hT.2.2.1
          have dsum := okE_sum _ d2 (fun q hq => (d3 q hq).2) (T.1 4 24) (Nat.le_refl _)
          rw [d2.2] at dsum
          show T.1 5 24 ≤ 4000
          omega) (fun b hb => ⟨(hT.2.2.2.1.2.1 b (Or.inl hb)).1.2.1, (hT.2.2.2.1.2.1 b (Or.inl hb)).1.2.2.1⟩) (by rw [up2_k (by decide)]) (fun j _ => by rw [hA 3 (by decide) (by decide) (by decide) (by decide)]) (fun j _ => by rw [hA 4 (by decide) (by decide) (by decide) (by decide)]) (fun j _ => by rw [hA 5 (by decide) (by decide) (by decide) (by decide)]) (fun j _ => by rw [hA 6 (by decide) (by decide) (by decide) (by decide)]) (fun k k1 k2 => hA k (by omega) (by omega) (by omega) (by omega))
      · exact mPk_cong (T := clrT T) a3 (fun q hq => up2_k (by omega)) (fun k k1 k2 => hA k (by omega) (by omega) (by omega) (by omega))
      · refine ⟨up2_eq, fun i hi => ?_, fun i hi j hj => ?_⟩
        · have hi' : i < T.1 6 0 + 1 := hi
          show A' (y + 13) i = nI (up2 (up2 (clrT T).1 6 0 (T.1 6 0 + 1)) 7 (T.1 6 0) (T.1 0 0) 7 i)
          rw [f1 _ (by omega)]
          by_cases e : i = T.1 6 0
          · subst e; rw [up2_eq, up2_eq]
          · rw [up2_a e, up2_a e]; exact a4.2.1 i (show i < T.1 6 0 by omega)
        · have hi' : i < T.1 6 0 + 1 := hi
          have hj' : j < up2 (up2 (clrT T).1 6 0 (T.1 6 0 + 1)) 7 (T.1 6 0) (T.1 0 0) 7 i := hj
          show A' (y + 14) (40 * i + j) = nI (up2 T.2.1 1 (T.1 6 0) (T.1 30) 1 i j)
          by_cases e : i = T.1 6 0
          · subst e
            rw [up2_eq] at hj'
            rw [up2_eq, f3 j hj', up2_row (by omega)]
            exact h0.1.1.2 j hj'
          · rw [up2_a e, up2_k (by decide)] at hj'
            have hj2 : j < T.1 7 i := hj'
            have := (m2 i (by omega)).1
            rw [up2_a e, f2 _ (by omega), up2_row (by omega)]
            exact a4.2.2 i (show i < T.1 6 0 by omega) j hj2
      · exact mGa_cong (T := clrT T) a5 (fun q _ _ => up2_k (by omega)) (hA 37 (by decide) (by decide) (by decide) (by decide))
      · exact mWi_cong (T := clrT T) a6 (fun q hq => up2_k (by omega)) (fun k k1 k2 => hA k (by omega) (by omega) (by omega) (by omega))
theorem l_take {fr z at_ nn : Nat} (hM : isM sh R y) (hn : nn ≤ 240) (hs : sh fr = some (1, 0, z)) (hz : at_ + nn ≤ z) (hz2 : z < 2 ^ 30) (hne : fr ≠ y + 22)
    (hQ : ∀ A', (∀ a, a ≠ y + 22 → A' a = A a) → (∀ j, j < nn → A' (y + 22) j = A fr (at_ + j)) → Q none (mkh n u sh F R A' B)) :
    ∀ d i A1, i + d = nn → (∀ a, a ≠ y + 22 → A1 a = A a) → (∀ j, j < i → A1 (y + 22) j = A fr (at_ + j)) → rw_ k mX12_take 8 [.ref y, .ref fr, .int (nI at_), .int (nI nn), .int (nI i)] [] (mkh n u sh F R A1 B) Q := by
  have r22 := hM.r 1231 22 0 240 (by decide)
  have s22 := hM.s 1231 22 0 240 (by decide)
  intro d
  induction d with
  | zero =>
    intro i A1 hi f1 f2
    have e : i = nn := by omega
    subst e
    have g1 : nI i ≤ nI i := nI_le (Nat.le_refl _) (by omega)
    simp only [rX12_take_8, rX12_take_10, rX12_take_11, rX12_take_33, g1, up2_eq, va_rf, eq_self, or_true, true_or, Option.toList_some, Option.toList_none, List.cons_append, List.nil_append, if_true, if_false]
    exact hQ A1 f1 f2
  | succ d ih =>
    intro i A1 hi f1 f2
    have g1 : ¬ nI nn ≤ nI i := nI_ge (by omega) (by omega)
    simp only [rX12_take_8, rX12_take_10, rX12_take_11, rX12_take_14, rX12_take_15, rX12_take_18, rX12_take_20, rX12_take_20_n, rX12_take_21, rX12_take_22, rX12_take_24, hM.1, g1, r22, nI_add, up2_eq, va_rf, eq_self, or_true, true_or, Option.toList_some, Option.toList_none, List.cons_append, List.nil_append, if_true, if_false]
    rw [rX12_take_25 hs (by decide) (by omega) (by omega)]
    rw [rX12_take_26 s22 (by omega) (by omega)]
    simp only [rX12_take_27, rX12_take_30, nI_add]
    refine ih (i + 1) _ (by omega) (fun a ha => by rw [up2_row ha]; exact f1 a ha) (fun j hj => ?_)
    by_cases e : j = i
    · subst e; rw [up2_eq, f1 _ hne]
    · rw [up2_a e]; exact f2 j (by omega)
theorem k_take {fr z at_ nn : Nat} (hM : isM sh R y) (hn : nn ≤ 240) (hs : sh fr = some (1, 0, z)) (hz : at_ + nn ≤ z) (hz2 : z < 2 ^ 30) (hne : fr ≠ y + 22)
    (hQ : ∀ A', (∀ a, a ≠ y + 22 → A' a = A a) → (∀ j, j < nn → A' (y + 22) j = A fr (at_ + j)) → Q none (mkh n u sh (up2 F 1232 y (nI nn)) R A' B)) :
    rc_ k mX12_take [.ref y, .ref fr, .int (nI at_), .int (nI nn)] (mkh n u sh F R A B) Q := by
  rw [eX12_take]
  simp only [rX12_take_0, rX12_take_1, rX12_take_2, rX12_take_5, rX12_take_6, hM.1, up2_eq, va_rf, eq_self, or_true, true_or, Option.toList_some, Option.toList_none, List.cons_append, List.nil_append, if_true, if_false]
  exact l_take hM hn hs hz hz2 hne hQ nn 0 A (by omega) (fun _ _ => rfl) (fun j hj => absurd hj (Nat.not_lt_zero _))
/-- the tape is taken as the letter, if it is not too long -/
theorem k_takeTape {m : Nat} (hM : isM sh R y) (h2 : F 1202 y = nI m) (hm : m ≤ 240)
    (hQ0 : 120 < m → Q (some (.int (nI 0))) (mkh n u sh (up2 F 1202 y (nI 0)) R A B))
    (hQ : m ≤ 120 → ∀ A', (∀ a, a ≠ y + 22 → A' a = A a) → (∀ j, j < m → A' (y + 22) j = A (y + 1) j) → Q (some (.int (nI 1))) (mkh n u sh (up2 (up2 F 1202 y (nI 0)) 1232 y (nI m)) R A' B)) :
    rc_ (k + 1) mX12_takeTape [.ref y] (mkh n u sh F R A B) Q := by
  rw [eX12_takeTape]
  by_cases c : 120 < m
  · have g1 : ¬ nI m ≤ nI 120 := nI_ge c (by omega)
    simp only [rX12_takeTape_0, rX12_takeTape_1, rX12_takeTape_4, rX12_takeTape_5, rX12_takeTape_6, rX12_takeTape_7, rX12_takeTape_10, rX12_takeTape_11, rX12_takeTape_13, rX12_takeTape_16, hM.1, h2, g1, up2_eq, va_rf, eq_self, or_true, true_or, Option.toList_some, Option.toList_none, List.cons_append, List.nil_append, if_true, if_false]
    rw [rX12_takeTape_17 (Or.inl rfl)]
    exact hQ0 c
  · have g1 : nI m ≤ nI 120 := nI_le (by omega) (by omega)
    simp only [rX12_takeTape_0, rX12_takeTape_1, rX12_takeTape_4, rX12_takeTape_5, rX12_takeTape_6, rX12_takeTape_7, rX12_takeTape_10, rX12_takeTape_11, rX12_takeTape_13, rX12_takeTape_18, rX12_takeTape_19, rX12_takeTape_20, rX12_takeTape_23, rX12_takeTape_24, hM.1, h2, g1, hM.r 1201 1 0 240 (by decide), up2_eq, va_rf, eq_self, or_true, true_or, Option.toList_some, Option.toList_none, List.cons_append, List.nil_append, if_true, if_false]
    rw [rX12_takeTape_25 hM.1]
    refine k_take (z := 240) hM hm (hM.s 1201 1 0 240 (by decide)) (by omega) (by decide) (by omega) (fun A' f1 f2 => ?_)
    simp only [rX12_takeTape_28, up2_eq, va_rf, eq_self, or_true, true_or, Option.toList_some, Option.toList_none, List.cons_append, List.nil_append, if_true, if_false]
    rw [rX12_takeTape_29 (Or.inr rfl)]
    exact hQ (by omega) A' f1 (fun j hj => by rw [f2 j hj, Nat.zero_add])
end MSA
