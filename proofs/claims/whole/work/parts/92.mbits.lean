/-! ===== the reference: widths, runs ===== -/
section MBT
variable {k n u : Nat} {sh : hs_} {F : hF_} {R : hR_} {A : hF_} {B : hR_} {Q : Option Value → pm_H → Prop} {y : Nat} {hp : pm_H}
theorem l_bitsOf {a : Nat} (ha : a < 2 ^ 20) : ∀ d i, i + d = wd a → (rw_ k mX12_bitsOf 2 [.int (nI a), .int (nI i)] [] hp Q ↔ Q (some (.int (nI (wd a)))) hp) := by
  have hw := wd_le 20 a ha
  intro d
  induction d with
  | zero =>
    intro i hi
    have e : i = wd a := by omega
    subst e
    have h0 : a / 2 ^ wd a = 0 := by
      by_cases c : a = 0
      · subst c; simp
      · exact Nat.div_eq_of_lt (wd_b (by omega)).2.1
    have g1 : nI (a / 2 ^ wd a) ≤ nI 0 := by rw [h0]; decide
    simp only [rX12_bitsOf_2, rX12_bitsOf_3, rX12_bitsOf_4, rX12_bitsOf_5, rX12_bitsOf_14, rX12_bitsOf_15, nI_shr (show a < 2 ^ 31 by omega) (show wd a < 31 by omega), g1, up2_eq, va_rf, eq_self, or_true, true_or, Option.toList_some, Option.toList_none, List.cons_append, List.nil_append, if_true, if_false]
  | succ d ih =>
    intro i hi
    have hpos : 0 < a := by
      by_cases c : a = 0
      · subst c; rw [wd_0] at hi; omega
      · omega
    have h0 : 0 < a / 2 ^ i := by
      have h1 := (wd_b hpos).1
      have h2 : 2 ^ i ≤ 2 ^ (wd a - 1) := Nat.pow_le_pow_right (by omega) (by omega)
      exact Nat.div_pos (by omega) (Nat.pos_of_ne_zero (by simp))
    have h1 : a / 2 ^ i ≤ a := Nat.div_le_self _ _
    have g1 : ¬ nI (a / 2 ^ i) ≤ nI 0 := nI_ge h0 (by omega)
    rw [rX12_bitsOf_2]
    simp only [rX12_bitsOf_3, rX12_bitsOf_4, rX12_bitsOf_5, rX12_bitsOf_8, rX12_bitsOf_11, nI_shr (show a < 2 ^ 31 by omega) (show i < 31 by omega), g1, nI_add, up2_eq, va_rf, eq_self, or_true, true_or, Option.toList_some, Option.toList_none, List.cons_append, List.nil_append, if_true, if_false]
    exact ih (i + 1) (by omega)
theorem k_bitsOf {a : Nat} (ha : a < 2 ^ 20) : rc_ k mX12_bitsOf [.int (nI a)] hp Q ↔ Q (some (.int (nI (wd a)))) hp := by
  rw [eX12_bitsOf]
  simp only [rX12_bitsOf_0, rX12_bitsOf_1]
  exact l_bitsOf ha (wd a) 0 (by omega)
theorem k_g {a : Nat} (h0 : 0 < a) (ha : a < 2 ^ 20) : rc_ (k + 1) mX12_g [.int (nI a)] hp Q ↔ Q (some (.int (nI (gm a)))) hp := by
  rw [eX12_g]
  simp only [rX12_g_0, rX12_g_1]
  rw [rX12_g_2, k_bitsOf ha]
  have hw := (wd_b h0).2.2
  have e : nI 2 * (nI (wd a) - nI 1) + nI 1 = nI (gm a) := by
    rw [pk_sub hw, pk_mul, nI_add]
    unfold gm
    rw [show 2 * (wd a - 1) + 1 = 2 * wd a - 1 by omega]
  simp only [rX12_g_5, rX12_g_6, rX12_g_7, rX12_g_8, rX12_g_9, rX12_g_10, e, up2_eq, va_rf, eq_self, or_true, true_or, Option.toList_some, Option.toList_none, List.cons_append, List.nil_append, if_true, if_false]
theorem l_farLong {i p m : Nat} {lf : Nat → Int32} (hM : isM sh R y) (h32 : F 1232 y = nI m) (hm : m ≤ 120) (hi : i < m) (hl : ∀ j, j < m → A (y + 22) j = lf j) : ∀ d t, t + d = cpl (fun j => lf (i + j)) (fun j => lf (p + j)) (min (m - i) (i - p)) → p < i → (rw_ k mX12_farLong 2 [.ref y, .int (nI i), .int (nI p), .int (nI t)] [] (mkh n u sh F R A B) Q ↔ Q (some (.int (nI (fal lf m i p)))) (mkh n u sh F R A B)) := by
  have r22 := hM.r 1231 22 0 240 (by decide)
  have s22 := hM.s 1231 22 0 240 (by decide)
  have hle := cpl_le (f := fun j => lf (i + j)) (g := fun j => lf (p + j)) (min (m - i) (i - p))
  have hne := cpl_ne (f := fun j => lf (i + j)) (g := fun j => lf (p + j)) (min (m - i) (i - p))
  have heq := cpl_eq (f := fun j => lf (i + j)) (g := fun j => lf (p + j)) (min (m - i) (i - p))
  intro d
  induction d with
  | zero =>
    intro t ht hp
    have e : t = fal lf m i p := by unfold fal; omega
    have hft : fal lf m i p = cpl (fun j => lf (i + j)) (fun j => lf (p + j)) (min (m - i) (i - p)) := rfl
    rw [← e]
    rw [Nat.add_zero] at ht
    rw [← ht] at hle hne
    by_cases c1 : m ≤ i + t
    · have g1 : nI m ≤ nI (i + t) := nI_le c1 (by omega)
      simp only [rX12_farLong_2, rX12_farLong_3, rX12_farLong_4, rX12_farLong_5, rX12_farLong_6, rX12_farLong_9, rX12_farLong_44, rX12_farLong_45, hM.1, h32, nI_add, g1, up2_eq, va_rf, eq_self, or_true, true_or, Option.toList_some, Option.toList_none, List.cons_append, List.nil_append, if_true, if_false]
    · have g1 : ¬ nI m ≤ nI (i + t) := nI_ge (by omega) (by omega)
      by_cases c2 : i ≤ p + t
      · have g2 : nI i ≤ nI (p + t) := nI_le c2 (by omega)
        simp only [rX12_farLong_2, rX12_farLong_3, rX12_farLong_4, rX12_farLong_5, rX12_farLong_6, rX12_farLong_9, rX12_farLong_12, rX12_farLong_13, rX12_farLong_14, rX12_farLong_15, rX12_farLong_16, rX12_farLong_44, rX12_farLong_45, hM.1, h32, nI_add, g1, g2, up2_eq, va_rf, eq_self, or_true, true_or, Option.toList_some, Option.toList_none, List.cons_append, List.nil_append, if_true, if_false]
      · have g2 : ¬ nI i ≤ nI (p + t) := nI_ge (by omega) (by omega)
        have h3 := hne (by omega)
        simp only [rX12_farLong_2, rX12_farLong_3, rX12_farLong_4, rX12_farLong_5, rX12_farLong_6, rX12_farLong_9, rX12_farLong_12, rX12_farLong_13, rX12_farLong_14, rX12_farLong_15, rX12_farLong_16, rX12_farLong_19, rX12_farLong_20, rX12_farLong_23, rX12_farLong_24, rX12_farLong_25, hM.1, h32, nI_add, g1, g2, r22, up2_eq, va_rf, eq_self, or_true, true_or, Option.toList_some, Option.toList_none, List.cons_append, List.nil_append, if_true, if_false]
        rw [rX12_farLong_26 s22 (by decide) (by omega) (by omega), hl _ (by omega)]
        simp only [rX12_farLong_27, rX12_farLong_28, rX12_farLong_31, rX12_farLong_32, rX12_farLong_33, hM.1, r22, nI_add, up2_eq, va_rf, eq_self, or_true, true_or, Option.toList_some, Option.toList_none, List.cons_append, List.nil_append, if_true, if_false]
        rw [rX12_farLong_34 s22 (by decide) (by omega) (by omega), hl _ (by omega)]
        have h4 : ¬ lf (i + t) = lf (p + t) := h3
        simp only [rX12_farLong_35, rX12_farLong_44, rX12_farLong_45, h4, up2_eq, va_rf, eq_self, or_true, true_or, Option.toList_some, Option.toList_none, List.cons_append, List.nil_append, if_true, if_false]
  | succ d ih =>
    intro t ht hp
    have h3 : lf (i + t) = lf (p + t) := heq t (by omega)
    have g1 : ¬ nI m ≤ nI (i + t) := nI_ge (by omega) (by omega)
    have g2 : ¬ nI i ≤ nI (p + t) := nI_ge (by omega) (by omega)
    simp only [rX12_farLong_2, rX12_farLong_3, rX12_farLong_4, rX12_farLong_5, rX12_farLong_6, rX12_farLong_9, rX12_farLong_12, rX12_farLong_13, rX12_farLong_14, rX12_farLong_15, rX12_farLong_16, rX12_farLong_19, rX12_farLong_20, rX12_farLong_23, rX12_farLong_24, rX12_farLong_25, hM.1, h32, nI_add, g1, g2, r22, up2_eq, va_rf, eq_self, or_true, true_or, Option.toList_some, Option.toList_none, List.cons_append, List.nil_append, if_true, if_false]
    rw [rX12_farLong_26 s22 (by decide) (by omega) (by omega), hl _ (by omega)]
    simp only [rX12_farLong_27, rX12_farLong_28, rX12_farLong_31, rX12_farLong_32, rX12_farLong_33, hM.1, r22, nI_add, up2_eq, va_rf, eq_self, or_true, true_or, Option.toList_some, Option.toList_none, List.cons_append, List.nil_append, if_true, if_false]
    rw [rX12_farLong_34 s22 (by decide) (by omega) (by omega), hl _ (by omega)]
    simp only [rX12_farLong_35, rX12_farLong_38, rX12_farLong_41, h3, nI_add, up2_eq, va_rf, eq_self, or_true, true_or, Option.toList_some, Option.toList_none, List.cons_append, List.nil_append, if_true, if_false]
    exact ih (t + 1) (by omega) hp
theorem k_farLong {i p m : Nat} {lf : Nat → Int32} (hM : isM sh R y) (h32 : F 1232 y = nI m) (hm : m ≤ 120) (hi : i < m) (hp : p < i) (hl : ∀ j, j < m → A (y + 22) j = lf j) : rc_ k mX12_farLong [.ref y, .int (nI i), .int (nI p)] (mkh n u sh F R A B) Q ↔ Q (some (.int (nI (fal lf m i p)))) (mkh n u sh F R A B) := by
  rw [eX12_farLong]
  simp only [rX12_farLong_0, rX12_farLong_1]
  exact l_farLong hM h32 hm hi hl _ 0 (Nat.zero_add _) hp
end MBT
