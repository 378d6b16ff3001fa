/-! ===== the reference: price ===== -/
section MPR
variable {k n u : Nat} {sh : hs_} {F F' : hF_} {R : hR_} {A A' : hF_} {B : hR_} {Q : Option Value → pm_H → Prop} {y : Nat} {c s m i b : Nat} {E f : Nat → Nat} {bi : Int32} {rk : Bool} {T : TT}
/-- what pricing leaves: the letter and LEAST's rows are other ones -/
def frP12 (y : Nat) (F : hF_) (A : hF_) (F' : hF_) (A' : hF_) : Prop := (∀ q a, ¬ (q = 1232 ∧ a = y) → F' q a = F q a) ∧ ∀ a, (a < y + 22 ∨ y + 27 < a) → A' a = A a
theorem l_prA (hM : isM sh R y) (hS : mSm F A y T) (hn : T.1 6 0 ≤ 8) (hsl : ∀ i, i < T.1 6 0 → T.1 7 i ≤ 40) (hB : mBo A y bi c s E f rk) (hE : okE E c s) (hc : c ≤ 20) (hs : s ≤ 320) (hne : rk = true → ∀ q, q < c → 0 < E q - pst E q)
    (hQ : ∀ F' A', frP12 y F A F' A' → Q (some (.int (nI (sumP (sbT T.2.1) (T.1 7) (fI f) s c E rk (T.1 6 0))))) (mkh n u sh F' R A' B)) :
    ∀ d i F1 A1, i + d = T.1 6 0 → frP12 y F A F1 A1 → rw_ (k + 4) mX12_priceOfAll 4 [.ref y, .int bi, .int (nI (sumP (sbT T.2.1) (T.1 7) (fI f) s c E rk i)), .int (nI i)] [] (mkh n u sh F1 R A1 B) Q := by
  have r13 := hM.r 1217 13 0 8 (by decide)
  have s13 := hM.s 1217 13 0 8 (by decide)
  have r14 := hM.r 1218 14 0 320 (by decide)
  have s14 := hM.s 1218 14 0 320 (by decide)
  have r23 := hM.r 1233 23 0 241 (by decide)
  have s23 := hM.s 1233 23 0 241 (by decide)
  obtain ⟨a1, a2, a3⟩ := hS
  intro d
  induction d with
  | zero =>
    intro i F1 A1 hi f1
    have e : i = T.1 6 0 := by omega
    subst e
    have e16 : F1 1216 y = nI (T.1 6 0) := by rw [f1.1 _ _ (by omega)]; exact a1
    have g1 : nI (T.1 6 0) ≤ nI (T.1 6 0) := nI_le (Nat.le_refl _) (by omega)
    simp only [rX12_priceOfAll_4, rX12_priceOfAll_5, rX12_priceOfAll_6, rX12_priceOfAll_9, rX12_priceOfAll_50, rX12_priceOfAll_51, hM.1, e16, g1, up2_eq, va_rf, eq_self, or_true, true_or, Option.toList_some, Option.toList_none, List.cons_append, List.nil_append, if_true, if_false]
    exact hQ F1 A1 f1
  | succ d ih =>
    intro i F1 A1 hi f1
    have e16 : F1 1216 y = nI (T.1 6 0) := by rw [f1.1 _ _ (by omega)]; exact a1
    have e13 : A1 (y + 13) i = nI (T.1 7 i) := by rw [f1.2 _ (by omega)]; exact a2 i (by omega)
    have h40 := hsl i (by omega)
    have g1 : ¬ nI (T.1 6 0) ≤ nI i := nI_ge (by omega) (by omega)
    simp only [rX12_priceOfAll_4, rX12_priceOfAll_5, rX12_priceOfAll_6, rX12_priceOfAll_9, rX12_priceOfAll_12, rX12_priceOfAll_13, rX12_priceOfAll_14, rX12_priceOfAll_17, rX12_priceOfAll_19, rX12_priceOfAll_20, rX12_priceOfAll_21, rX12_priceOfAll_22, rX12_priceOfAll_25, hM.1, e16, g1, r13, r14, pk_mul, up2_eq, va_rf, eq_self, or_true, true_or, Option.toList_some, Option.toList_none, List.cons_append, List.nil_append, if_true, if_false]
    rw [rX12_priceOfAll_26 s13 (by decide) (by omega) (by omega), e13]
    rw [rX12_priceOfAll_27 hM.1]
    refine k_take (z := 320) hM (by omega) s14 (by omega) (by decide) (by omega) ?_
    intro A2 p1 p2
    simp only [rX12_priceOfAll_30, rX12_priceOfAll_31, up2_eq, va_rf, eq_self, or_true, true_or, Option.toList_some, Option.toList_none, List.cons_append, List.nil_append, if_true, if_false]
    rw [rX12_priceOfAll_32 hM.1]
    refine k_findLeast (k := k) (lf := sbT T.2.1 i) hM up2_eq (by omega) (mBo_cong hB (fun a x1 x2 => by rw [p1 _ (by omega), f1.2 _ (by omega)])) hE hc hs hne (fun j hj => by rw [p2 j hj, f1.2 _ (by omega)]; exact a3 i (by omega) j hj) ?_
    intro A3 q1
    simp only [rX12_priceOfAll_35, rX12_priceOfAll_36, rX12_priceOfAll_37, rX12_priceOfAll_40, hM.1, r23, up2_eq, va_rf, eq_self, or_true, true_or, Option.toList_some, Option.toList_none, List.cons_append, List.nil_append, if_true, if_false]
    rw [rX12_priceOfAll_41 s23 (by decide) (by omega) (by omega), q1.2.1 0 (Nat.zero_le _)]
    simp only [rX12_priceOfAll_42, rX12_priceOfAll_43, rX12_priceOfAll_44, rX12_priceOfAll_47, nI_add, up2_eq, va_rf, eq_self, or_true, true_or, Option.toList_some, Option.toList_none, List.cons_append, List.nil_append, if_true, if_false]
    exact ih (i + 1) _ _ (by omega) ⟨fun q a g => by rw [up2_o g]; exact f1.1 q a g, fun a g => by rw [q1.1 a (by omega), p1 a (by omega)]; exact f1.2 a g⟩
theorem k_priceOfAll (hM : isM sh R y) (hS : mSm F A y T) (hn : T.1 6 0 ≤ 8) (hsl : ∀ i, i < T.1 6 0 → T.1 7 i ≤ 40) (hB : mBo A y bi c s E f rk) (hE : okE E c s) (hc : c ≤ 20) (hs : s ≤ 320) (hne : rk = true → ∀ q, q < c → 0 < E q - pst E q)
    (hQ : ∀ F' A', frP12 y F A F' A' → Q (some (.int (nI (sumP (sbT T.2.1) (T.1 7) (fI f) s c E rk (T.1 6 0))))) (mkh n u sh F' R A' B)) :
    rc_ (k + 4) mX12_priceOfAll [.ref y, .int bi] (mkh n u sh F R A B) Q := by
  rw [eX12_priceOfAll]
  simp only [rX12_priceOfAll_0, rX12_priceOfAll_1, rX12_priceOfAll_2, rX12_priceOfAll_3]
  exact l_prA hM hS hn hsl hB hE hc hs hne hQ (T.1 6 0) 0 F A (Nat.zero_add _) ⟨fun _ _ _ => rfl, fun _ _ => rfl⟩
theorem m_price {i : Int32} (hM : isM sh R y) (h : MS F A y T) (hT : okT T) (hQ : mPost n u sh F R A B y (s_price T i, T) Q) : rc_ (k + 8) mX12_price [.ref y, .int i] (mkh n u sh F R A B) Q := by
  have h0 := MS_th (v := nI 0) h hT
  have h24 := hT.2.2.2.1.1
  have fr0 : frM y F A (up2 F 1200 y (nI 0)) A := frM_F (by decide)
  have g : ¬ nI 1 = nI 0 := by decide
  rw [eX12_price]
  simp only [rX12_price_0, rX12_price_1, rX12_price_2, rX12_price_5, rX12_price_6, hM.1, up2_eq, va_rf, eq_self, or_true, true_or, Option.toList_some, Option.toList_none, List.cons_append, List.nil_append, if_true, if_false]
  rw [rX12_price_7 hM.1, k_isBookOr hM h0.2.1.1 h24]
  unfold s_price at hQ
  cases hi : bx i (T.1 2 0) with
  | none =>
    rw [hi] at hQ
    rw [if_pos rfl]
    simp only [rX12_price_10, rX12_price_21, rX12_price_23, up2_eq, va_rf, eq_self, or_true, true_or, Option.toList_some, Option.toList_none, List.cons_append, List.nil_append, if_true, if_false]
    exact hQ _ _ h0 fr0
  | some b =>
    rw [hi] at hQ
    dsimp only at hQ
    rw [if_neg (by simp)]
    simp only [rX12_price_10, rX12_price_13, rX12_price_14, g, up2_eq, va_rf, eq_self, or_true, true_or, Option.toList_some, Option.toList_none, List.cons_append, List.nil_append, if_true, if_false]
    obtain ⟨k1, k2, k3, -⟩ := (hT.2.2.2.1.2.1 b (bx_some hi)).1
    obtain ⟨n8, m2, -⟩ := hT.2.2.2.2.2.1
    rw [rX12_price_15 hM.1]
    refine k_priceOfAll (k := k + 3) hM h0.2.2.2.1 n8 (fun i hi => (m2 i hi).1) (MS_bo h0 hT hi) k1 k2 k3 (okT_ne hT hi) ?_
    intro F2 A2 p1
    simp only [rX12_price_18, rX12_price_23, up2_eq, va_rf, eq_self, or_true, true_or, Option.toList_some, Option.toList_none, List.cons_append, List.nil_append, if_true, if_false]
    exact hQ _ _ (MS_scr h0 hT (fun q hq => p1.1 _ _ (by omega)) (fun k k1 k2 k3 => p1.2 _ (by omega)) (fun j _ => by rw [p1.2 _ (by omega)]) (fun j _ => by rw [p1.2 _ (by omega)]) (fun j _ => by rw [p1.2 _ (by omega)]) (fun j _ => by rw [p1.2 _ (by omega)])) (frM_trans fr0 ⟨fun q a g => p1.1 _ _ (by omega), fun a g => p1.2 _ (by omega)⟩)
end MPR
