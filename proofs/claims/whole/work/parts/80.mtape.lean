/-! ===== the reference: tape, OUT, samples, counts ===== -/
theorem i32_cond (x : Int32) : x.toInt = if 2 * x.toBitVec.toNat < 2 ^ 32 then (x.toBitVec.toNat : Int) else (x.toBitVec.toNat : Int) - (2 ^ 32 : Nat) := BitVec.toInt_eq_toNat_cond x.toBitVec
theorem shr_and {v s : Int32} {k : Nat} (hs : (s.toBitVec.smod 32).toNat = k) (hk : k = 0 ∨ k = 8 ∨ k = 16 ∨ k = 24) : (v >>> s) &&& nI 255 = nI (v.toBitVec.toNat / 2 ^ k % 256) := by
  rw [pk_and _ 8 (by decide)]
  have h1 := pk_shr v s k hs
  have h2 := i32_cond v
  have h3 := i32_cond (v >>> s)
  have l1 := v.toBitVec.isLt
  have l2 := (v >>> s).toBitVec.isLt
  rw [Int.shiftRight_eq_div_pow] at h1
  generalize (v >>> s).toBitVec.toNat = W at *
  generalize v.toBitVec.toNat = V at *
  generalize (v >>> s).toInt = w at *
  generalize v.toInt = v' at *
  have : W % 2 ^ 8 = V / 2 ^ k % 256 := by
    rcases hk with rfl | rfl | rfl | rfl
    · simp only [Nat.pow_zero, Int.pow_zero, Nat.div_one] at *
      split at h2 <;> split at h3 <;> omega
    · split at h2 <;> split at h3 <;> omega
    · split at h2 <;> split at h3 <;> omega
    · split at h2 <;> split at h3 <;> omega
  rw [this]
section MTP
variable {k n u : Nat} {sh : hs_} {F F' : hF_} {R : hR_} {A A' : hF_} {B : hR_} {Q : Option Value → pm_H → Prop} {y : Nat} {T : TT}
theorem MS_TO {t o : Nat} {f g : Nat → Nat} (h : MS F A y T) (hT : okT T) (hF : ∀ q, ¬ (q = 1200 ∨ q = 1202 ∨ q = 1204 ∨ q = 1232 ∨ 1247 ≤ q ∧ q ≤ 1250 ∨ q = 1253 ∨ q = 1254 ∨ q = 1263) → F' q y = F q y) (hA : ∀ k, 3 ≤ k → k ≤ 38 → ¬ (22 ≤ k ∧ k ≤ 27 ∨ 32 ≤ k ∧ k ≤ 36 ∨ k = 38) → A' (y + k) = A (y + k)) (h1 : F' 1202 y = nI t) (h2 : ∀ j, j < t → A' (y + 1) j = nI (f j)) (h3 : F' 1204 y = nI o) (h4 : ∀ j, j < o → A' (y + 2) j = nI (g j)) : MS F' A' y (sTO T.1 t o f g, T.2) := by
  have h' : ∃ F0 A0, MS F0 A0 y T ∧ (∀ q, ¬ (q = 1202 ∨ q = 1204) → F' q y = F0 q y) ∧ (∀ k, 3 ≤ k → A' (y + k) = A0 (y + k)) := by
    refine ⟨fun q a => if q = 1202 ∨ q = 1204 then F q a else F' q a, fun a j => if a = y + 1 ∨ a = y + 2 then A a j else A' a j, MS_scr h hT (fun q hq => ?_) (fun k k1 k2 hk => ?_) (fun j _ => ?_) (fun j _ => ?_) (fun j _ => ?_) (fun j _ => ?_), fun q hq => (if_neg hq).symm, fun k hk => by funext j; exact (if_neg (by omega)).symm⟩
    · by_cases c : q = 1202 ∨ q = 1204
      · rw [if_pos c]
      · rw [if_neg c]; exact hF q (by omega)
    · funext j
      by_cases c : y + k = y + 1 ∨ y + k = y + 2
      · rw [if_pos c]
      · rw [if_neg c, hA k (by omega) k2 (by omega)]
    · rw [if_neg (by omega), hA 3 (by omega) (by omega) (by omega)]
    · rw [if_neg (by omega), hA 4 (by omega) (by omega) (by omega)]
    · rw [if_neg (by omega), hA 5 (by omega) (by omega) (by omega)]
    · rw [if_neg (by omega), hA 6 (by omega) (by omega) (by omega)]
  obtain ⟨F0, A0, ⟨a1, a2, a3, a4, a5, a6⟩, eF, eA⟩ := h'
  obtain ⟨N, J, I⟩ := T
  refine ⟨⟨⟨h1, h2⟩, h3, h4⟩, ?_, mPk_cong a3 (fun q hq => eF q (by omega)) (fun k k1 k2 => eA k (by omega)), mSm_cong a4 (eF _ (by omega)) (eA 13 (by omega)) (eA 14 (by omega)), mGa_cong a5 (fun q q1 q2 => eF q (by omega)) (eA 37 (by omega)), mWi_cong a6 (fun q hq => eF q (by omega)) (fun k k1 k2 => eA k (by omega))⟩
  obtain ⟨b1, b2, b3, b4, b5⟩ := a2
  refine ⟨by rw [eF _ (by omega)]; exact b1, mB1_cong b2 (by rw [eA 4 (by omega)]) (fun q _ => by rw [eA 5 (by omega)]) (fun q _ => by rw [eA 6 (by omega)]), fun b hb => ?_, fun b g1 g2 => mBV_cong (b4 b g1 g2) (fun k k1 k2 => by rw [eA k (by omega)]), by rw [eA 11 (by omega)]; exact b5⟩
  obtain ⟨c1, c2, c3⟩ := b3 b hb
  exact ⟨by rw [eA 3 (by omega)]; exact c1, mB1_cong c2 (by rw [eA 4 (by omega)]) (fun q _ => by rw [eA 5 (by omega)]) (fun q _ => by rw [eA 6 (by omega)]), mBV_cong c3 (fun k k1 k2 => by rw [eA k (by omega)])⟩
theorem k_four {s : Nat} {v : Int32} (hM : isM sh R y) (hs : F 1202 y = nI s) (h4 : s + 4 ≤ 240)
    (hQ : ∀ A', (∀ a, a ≠ y + 1 → A' a = A a) → (∀ j, j < s → A' (y + 1) j = A (y + 1) j) → (∀ q, q < 4 → A' (y + 1) (s + q) = nI (bw v q)) → Q none (mkh n u sh (up2 F 1202 y (nI (s + 4))) R A' B)) :
    rc_ k mX12_four [.ref y, .int v] (mkh n u sh F R A B) Q := by
  have r1 := hM.r 1201 1 0 240 (by decide)
  have s1 := hM.s 1201 1 0 240 (by decide)
  have s0 := hM.1
  have d1 : nI 24 + (-8 : Int32) = nI 16 := by decide
  have d2 : nI 16 + (-8 : Int32) = nI 8 := by decide
  have d3 : nI 8 + (-8 : Int32) = nI 0 := by decide
  have d4 : nI 0 + (-8 : Int32) < nI 0 := by decide
  have g0 : ¬ nI 24 < nI 0 := by decide
  have g1 : ¬ nI 16 < nI 0 := by decide
  have g2 : ¬ nI 8 < nI 0 := by decide
  have g3 : ¬ nI 0 < nI 0 := by decide
  have e0 : (v >>> (nI 24 &&& 31)) &&& nI 255 = nI (bw v 0) := shr_and (k := 24) (by decide) (by omega)
  have e1 : (v >>> (nI 16 &&& 31)) &&& nI 255 = nI (bw v 1) := shr_and (k := 16) (by decide) (by omega)
  have e2 : (v >>> (nI 8 &&& 31)) &&& nI 255 = nI (bw v 2) := shr_and (k := 8) (by decide) (by omega)
  have e3 : (v >>> (nI 0 &&& 31)) &&& nI 255 = nI (bw v 3) := shr_and (k := 0) (by decide) (by omega)
  rw [eX12_four]
  simp only [rX12_four_0, rX12_four_2]
  rw [rX12_four_3]
  simp only [rX12_four_4, rX12_four_7, rX12_four_8, rX12_four_11, rX12_four_12, rX12_four_15, rX12_four_16, rX12_four_17, rX12_four_18, rX12_four_21, s0, r1, hs, g0, e0, up2_eq, va_rf, eq_self, or_true, true_or, Option.toList_some, Option.toList_none, List.cons_append, List.nil_append, if_true, if_false]
  rw [rX12_four_22 s1 (by omega) (by omega)]
  simp only [rX12_four_23, rX12_four_24, rX12_four_25, rX12_four_28, rX12_four_29, rX12_four_30, rX12_four_33, rX12_four_36, s0, hs, d1, nI_add, up2_eq, va_rf, eq_self, or_true, true_or, Option.toList_some, Option.toList_none, List.cons_append, List.nil_append, if_true, if_false]
  rw [rX12_four_3]
  simp only [rX12_four_4, rX12_four_7, rX12_four_8, rX12_four_11, rX12_four_12, rX12_four_15, rX12_four_16, rX12_four_17, rX12_four_18, rX12_four_21, s0, r1, g1, e1, up2_eq, va_rf, eq_self, or_true, true_or, Option.toList_some, Option.toList_none, List.cons_append, List.nil_append, if_true, if_false]
  rw [rX12_four_22 s1 (by omega) (by omega)]
  simp only [rX12_four_23, rX12_four_24, rX12_four_25, rX12_four_28, rX12_four_29, rX12_four_30, rX12_four_33, rX12_four_36, s0, d2, nI_add, up2_up2, up2_eq, va_rf, eq_self, or_true, true_or, Option.toList_some, Option.toList_none, List.cons_append, List.nil_append, if_true, if_false]
  rw [rX12_four_3]
  simp only [rX12_four_4, rX12_four_7, rX12_four_8, rX12_four_11, rX12_four_12, rX12_four_15, rX12_four_16, rX12_four_17, rX12_four_18, rX12_four_21, s0, r1, g2, e2, up2_eq, va_rf, eq_self, or_true, true_or, Option.toList_some, Option.toList_none, List.cons_append, List.nil_append, if_true, if_false]
  rw [rX12_four_22 s1 (by omega) (by omega)]
  simp only [rX12_four_23, rX12_four_24, rX12_four_25, rX12_four_28, rX12_four_29, rX12_four_30, rX12_four_33, rX12_four_36, s0, d3, nI_add, up2_up2, up2_eq, va_rf, eq_self, or_true, true_or, Option.toList_some, Option.toList_none, List.cons_append, List.nil_append, if_true, if_false]
  rw [rX12_four_3]
  simp only [rX12_four_4, rX12_four_7, rX12_four_8, rX12_four_11, rX12_four_12, rX12_four_15, rX12_four_16, rX12_four_17, rX12_four_18, rX12_four_21, s0, r1, g3, e3, up2_eq, va_rf, eq_self, or_true, true_or, Option.toList_some, Option.toList_none, List.cons_append, List.nil_append, if_true, if_false]
  rw [rX12_four_22 s1 (by omega) (by omega)]
  simp only [rX12_four_23, rX12_four_24, rX12_four_25, rX12_four_28, rX12_four_29, rX12_four_30, rX12_four_33, rX12_four_36, s0, nI_add, up2_up2, up2_eq, va_rf, eq_self, or_true, true_or, Option.toList_some, Option.toList_none, List.cons_append, List.nil_append, if_true, if_false]
  rw [rX12_four_3]
  simp only [rX12_four_4, rX12_four_39, d4, up2_eq, va_rf, eq_self, or_true, true_or, Option.toList_some, Option.toList_none, List.cons_append, List.nil_append, if_true, if_false]
  refine hQ _ (fun a ha => ?_) (fun j hj => ?_) (fun q hq => ?_)
  · rw [up2_row ha, up2_row ha, up2_row ha, up2_row ha]
  · rw [up2_a (by omega), up2_a (by omega), up2_a (by omega), up2_a (by omega)]
  · match q, hq with
    | 0, _ =>
      rw [up2_a (by omega), up2_a (by omega), up2_a (by omega)]
      exact up2_eq
    | 1, _ => rw [up2_a (by omega), up2_a (by omega), up2_eq]
    | 2, _ => rw [up2_a (by omega), up2_eq]
    | 3, _ => rw [up2_eq]
theorem m_feed {a b c d e : Int32} (hM : isM sh R y) (h : MS F A y T) (hT : okT T) (hQ : mPost n u sh F R A B y (s_feed T a b c d e) Q) :
    rc_ (k + 8) mX12_feed [.ref y, .int a, .int b, .int c, .int d, .int e] (mkh n u sh F R A B) Q := by
  obtain ⟨a1, -⟩ := id h
  have s0 := hM.1
  have t0 := hT.1.1
  have e2 : up2 F 1200 y (nI 0) 1202 y = nI (T.1 0 0) := by rw [up2_k (by decide)]; exact a1.1.1
  rw [eX12_feed]
  unfold s_feed at hQ
  by_cases c1 : 220 < T.1 0 0
  · rw [if_pos c1] at hQ
    have g1 : ¬ nI (T.1 0 0 + 20) ≤ nI 240 := nI_ge (by omega) (by omega)
    simp only [rX12_feed_0, rX12_feed_1, rX12_feed_2, rX12_feed_5, rX12_feed_6, rX12_feed_9, rX12_feed_11, rX12_feed_12, rX12_feed_15, rX12_feed_18, rX12_feed_20, s0, e2, nI_add, g1, up2_eq, va_rf, eq_self, or_true, true_or, Option.toList_some, Option.toList_none, List.cons_append, List.nil_append, if_true, if_false]
    exact hQ _ _ (MS_th h hT) (frM_F (by decide))
  · rw [if_neg c1] at hQ
    have g1 : nI (T.1 0 0 + 20) ≤ nI 240 := nI_le (by omega) (by omega)
    simp only [rX12_feed_0, rX12_feed_1, rX12_feed_2, rX12_feed_5, rX12_feed_6, rX12_feed_9, rX12_feed_11, rX12_feed_12, rX12_feed_15, rX12_feed_21, rX12_feed_22, s0, e2, nI_add, g1, up2_eq, va_rf, eq_self, or_true, true_or, Option.toList_some, Option.toList_none, List.cons_append, List.nil_append, if_true, if_false]
    rw [rX12_feed_23 s0]
    refine k_four hM e2 (by omega) ?_
    intro A1 p1 q1 w1
    simp only [rX12_feed_26, rX12_feed_27, up2_eq, va_rf, eq_self, or_true, true_or, Option.toList_some, Option.toList_none, List.cons_append, List.nil_append, if_true, if_false]
    rw [rX12_feed_28 s0]
    refine k_four hM up2_eq (by omega) ?_
    intro A2 p2 q2 w2
    simp only [rX12_feed_31, rX12_feed_32, up2_eq, va_rf, eq_self, or_true, true_or, Option.toList_some, Option.toList_none, List.cons_append, List.nil_append, if_true, if_false]
    rw [rX12_feed_33 s0]
    refine k_four hM up2_eq (by omega) ?_
    intro A3 p3 q3 w3
    simp only [rX12_feed_36, rX12_feed_37, up2_eq, va_rf, eq_self, or_true, true_or, Option.toList_some, Option.toList_none, List.cons_append, List.nil_append, if_true, if_false]
    rw [rX12_feed_39 s0]
    refine k_four hM up2_eq (by omega) ?_
    intro A4 p4 q4 w4
    simp only [rX12_feed_42, rX12_feed_43, up2_eq, va_rf, eq_self, or_true, true_or, Option.toList_some, Option.toList_none, List.cons_append, List.nil_append, if_true, if_false]
    rw [rX12_feed_45 s0]
    refine k_four hM up2_eq (by omega) ?_
    intro A5 p5 q5 w5
    simp only [rX12_feed_48, rX12_feed_49, rX12_feed_52, s0, up2_up2, up2_eq, va_rf, eq_self, or_true, true_or, Option.toList_some, Option.toList_none, List.cons_append, List.nil_append, if_true, if_false]
    have hh2 : ∀ j, j < T.1 0 0 + 20 → A5 (y + 1) j = nI (if j < T.1 0 0 then T.1 30 j else fdb a b c d e (j - T.1 0 0)) := by
      intro j hj
      by_cases l0 : j < T.1 0 0
      · rw [q5 j (by omega), q4 j (by omega), q3 j (by omega), q2 j (by omega), q1 j (by omega), if_pos l0]
        exact a1.1.2 j l0
      · rw [if_neg l0]
        unfold fdb
        obtain ⟨w, hw, hw4, hwj⟩ : ∃ w, w < 4 ∧ (j - T.1 0 0) % 4 = w ∧ j = T.1 0 0 + 4 * ((j - T.1 0 0) / 4) + w := ⟨(j - T.1 0 0) % 4, by omega, rfl, by omega⟩
        have hd5 : (j - T.1 0 0) / 4 < 5 := by omega
        rw [hw4]
        generalize (j - T.1 0 0) / 4 = dd at hwj hd5 ⊢
        match dd, hd5 with
        | 0, _ =>
          rw [hwj, q5 _ (by omega), q4 _ (by omega), q3 _ (by omega), q2 _ (by omega)]
          exact w1 w hw
        | 1, _ =>
          rw [hwj, q5 _ (by omega), q4 _ (by omega), q3 _ (by omega)]
          exact w2 w hw
        | 2, _ =>
          rw [hwj, q5 _ (by omega), q4 _ (by omega)]
          exact w3 w hw
        | 3, _ =>
          rw [hwj, q5 _ (by omega)]
          exact w4 w hw
        | 4, _ =>
          rw [hwj]
          exact w5 w hw
    have hA : ∀ a, a ≠ y + 1 → A5 a = A a := fun a ha => by rw [p5 a ha, p4 a ha, p3 a ha, p2 a ha, p1 a ha]
    refine hQ _ _ (MS_TO h hT (fun q hq => by rw [up2_k (by omega), up2_k (by omega)]) (fun k k1 k2 hk => hA _ (by omega)) up2_eq hh2 (by rw [up2_k (by decide), up2_k (by decide)]; exact a1.2.1) (fun j hj => by rw [hA _ (by omega)]; exact a1.2.2 j hj)) ⟨fun q a g => by rw [up2_o (by omega), up2_o (by omega)], fun a g => hA a (by omega)⟩
/-- n ints are moved from one row to another -/
theorem l_again {m : Nat} (hM : isM sh R y) (hm : m ≤ 240) (h2 : F 1202 y = nI m)
    (hQ : ∀ A', (∀ a, a ≠ y + 1 → A' a = A a) → (∀ j, j < m → A' (y + 1) j = A (y + 2) j) → Q (some (.int (nI m))) (mkh n u sh F R A' B)) :
    ∀ d i A1, i + d = m → (∀ a, a ≠ y + 1 → A1 a = A a) → (∀ j, j < i → A1 (y + 1) j = A (y + 2) j) → rw_ k mX12_again 28 [.ref y, .int (nI i)] [] (mkh n u sh F R A1 B) Q := by
  have r1 := hM.r 1201 1 0 240 (by decide)
  have s1 := hM.s 1201 1 0 240 (by decide)
  have r2 := hM.r 1203 2 0 400 (by decide)
  have s2 := hM.s 1203 2 0 400 (by decide)
  intro d
  induction d with
  | zero =>
    intro i A1 hi f1 f2
    have e : i = m := by omega
    subst e
    have g1 : nI i ≤ nI i := nI_le (Nat.le_refl _) (by omega)
    simp only [rX12_again_28, rX12_again_29, rX12_again_30, rX12_again_33, rX12_again_54, rX12_again_55, rX12_again_58, hM.1, h2, g1, up2_eq, va_rf, eq_self, or_true, true_or, Option.toList_some, Option.toList_none, List.cons_append, List.nil_append, if_true, if_false]
    exact hQ A1 f1 f2
  | succ d ih =>
    intro i A1 hi f1 f2
    have g1 : ¬ nI m ≤ nI i := nI_ge (by omega) (by omega)
    simp only [rX12_again_28, rX12_again_29, rX12_again_30, rX12_again_33, rX12_again_36, rX12_again_37, rX12_again_40, rX12_again_41, rX12_again_42, rX12_again_45, hM.1, h2, g1, r1, r2, up2_eq, va_rf, eq_self, or_true, true_or, Option.toList_some, Option.toList_none, List.cons_append, List.nil_append, if_true, if_false]
    rw [rX12_again_46 s2 (by decide) (by omega) (by omega)]
    rw [rX12_again_47 s1 (by omega) (by omega)]
    simp only [rX12_again_48, rX12_again_51, nI_add]
    refine ih (i + 1) _ (by omega) (fun a ha => by rw [up2_row ha]; exact f1 a ha) (fun j hj => ?_)
    by_cases e : j = i
    · subst e; rw [up2_eq, f1 _ (by omega)]
    · rw [up2_a e]; exact f2 j (by omega)
theorem m_again (hM : isM sh R y) (h : MS F A y T) (hT : okT T) (hQ : mPost n u sh F R A B y (s_again T) Q) : rc_ (k + 8) mX12_again [.ref y] (mkh n u sh F R A B) Q := by
  obtain ⟨a1, -⟩ := id h
  have o1 := hT.2.1.1
  have g1 : nI (T.1 1 0) ≤ nI 240 := nI_le (by omega) (by omega)
  rw [eX12_again]
  simp only [rX12_again_0, rX12_again_1, rX12_again_2, rX12_again_5, rX12_again_6, rX12_again_9, rX12_again_12, rX12_again_18, rX12_again_19, rX12_again_20, rX12_again_23, rX12_again_26, rX12_again_27, hM.1, a1.2.1, g1, up2_eq, va_rf, eq_self, or_true, true_or, Option.toList_some, Option.toList_none, List.cons_append, List.nil_append, if_true, if_false, up2_k, ne_eq, not_false_eq_true, Nat.reduceEqDiff, reduceCtorEq]
  refine l_again (m := T.1 1 0) hM o1 up2_eq ?_ (T.1 1 0) 0 A (by omega) (fun _ _ => rfl) (fun j hj => absurd hj (Nat.not_lt_zero _))
  intro A' f1 f2
  exact hQ _ _ (MS_TO h hT (fun q hq => by rw [up2_k (by omega), up2_k (by omega)]) (fun k k1 k2 hk => f1 _ (by omega)) up2_eq (fun j hj => by rw [f2 j hj]; exact a1.2.2 j hj) (by rw [up2_k (by decide), up2_k (by decide)]; exact a1.2.1) (fun j hj => by rw [f1 _ (by omega)]; exact a1.2.2 j hj)) ⟨fun q a g => by rw [up2_o (by omega), up2_o (by omega)], fun a g => f1 a (by omega)⟩
end MTP
