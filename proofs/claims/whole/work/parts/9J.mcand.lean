/-! ===== the reference: candidates ===== -/
/-- the samples' bytes -/
def mSb (F : hF_) (A : hF_) (y : Nat) (J1 : Nat → Nat → Nat) (sl : Nat → Nat) (ns : Nat) : Prop := F 1216 y = nI ns ∧ ns ≤ 8 ∧ (∀ i, i < ns → A (y + 13) i = nI (sl i) ∧ sl i ≤ 40) ∧ (∀ i, i < ns → ∀ j, j < sl i → A (y + 14) (40 * i + j) = nI (J1 i j)) ∧ bytJ J1 ns sl
def mCs (F : hF_) (A : hF_) (y : Nat) (S : cS) : Prop := F 1254 y = nI S.2 ∧ ∀ i, i < S.2 → A (y + 34) i = nI (40 * (S.1 i).1 + (S.1 i).2.1) ∧ A (y + 35) i = nI (S.1 i).2.2.1 ∧ A (y + 36) i = nI (S.1 i).2.2.2
def frC12 (y : Nat) (F : hF_) (A : hF_) (F' : hF_) (A' : hF_) : Prop := (∀ q a, ¬ (q = 1254 ∧ a = y) → F' q a = F q a) ∧ ∀ a, ¬ (y + 34 ≤ a ∧ a ≤ y + 36) → A' a = A a
theorem frC12_refl {y : Nat} {F : hF_} {A : hF_} : frC12 y F A F A := ⟨fun _ _ _ => rfl, fun _ _ => rfl⟩
theorem frC12_trans {y : Nat} {F F1 F2 : hF_} {A A1 A2 : hF_} (h : frC12 y F A F1 A1) (h' : frC12 y F1 A1 F2 A2) : frC12 y F A F2 A2 := ⟨fun q a g => by rw [h'.1 q a g, h.1 q a g], fun a g => by rw [h'.2 a g, h.2 a g]⟩
theorem mSb_C {y ns : Nat} {F F' A A' : hF_} {J1 : Nat → Nat → Nat} {sl : Nat → Nat} (h : mSb F A y J1 sl ns) (h' : frC12 y F A F' A') : mSb F' A' y J1 sl ns := ⟨by rw [h'.1 _ _ (by omega)]; exact h.1, h.2.1, fun i hi => by rw [h'.2 _ (by omega)]; exact h.2.2.1 i hi, fun i hi j hj => by rw [h'.2 _ (by omega)]; exact h.2.2.2.1 i hi j hj, h.2.2.2.2⟩
section MCD
variable {k n u : Nat} {sh : hs_} {F F' : hF_} {R : hR_} {A A' : hF_} {B : hR_} {Q : Option Value → pm_H → Prop} {y ns : Nat} {J : tJ} {J1 : Nat → Nat → Nat} {sl : Nat → Nat} {S : cS} {x p : cd}
theorem l_isSame {a b nn : Nat} {fa fb : Nat → Nat} (hM : isM sh R y) (ha : a + nn ≤ 320) (hb : b + nn ≤ 320) (hfa : ∀ j, j < nn → A (y + 14) (a + j) = nI (fa j) ∧ fa j < 256) (hfb : ∀ j, j < nn → A (y + 14) (b + j) = nI (fb j) ∧ fb j < 256)
    (hQ1 : (∀ j, j < nn → fa j = fb j) → Q (some (.int (nI 1))) (mkh n u sh F R A B)) (hQ0 : ¬ (∀ j, j < nn → fa j = fb j) → Q (some (.int (nI 0))) (mkh n u sh F R A B)) :
    ∀ d i e, i + d = nn → ((e = 1 ∧ ∀ j, j < i → fa j = fb j) ∨ (e = 0 ∧ ¬ ∀ j, j < nn → fa j = fb j)) → rw_ k mX12_isSame 6 [.ref y, .int (nI a), .int (nI b), .int (nI nn), .int (nI e), .int (nI i)] [] (mkh n u sh F R A B) Q := by
  have r14 := hM.r 1218 14 0 320 (by decide)
  have s14 := hM.s 1218 14 0 320 (by decide)
  have g : ¬ nI 1 = nI 0 := by decide
  intro d
  induction d with
  | zero =>
    intro i e hi he
    have e1 : i = nn := by omega
    subst e1
    have g1 : nI i ≤ nI i := nI_le (Nat.le_refl _) (by omega)
    simp only [rX12_isSame_6, rX12_isSame_8, rX12_isSame_9, rX12_isSame_51, g1, up2_eq, va_rf, eq_self, or_true, true_or, Option.toList_some, Option.toList_none, List.cons_append, List.nil_append, if_true, if_false]
    rcases he with ⟨rfl, h⟩ | ⟨rfl, h⟩
    · rw [rX12_isSame_53 (Or.inr rfl)]; exact hQ1 h
    · rw [rX12_isSame_53 (Or.inl rfl)]; exact hQ0 h
  | succ d ih =>
    intro i e hi he
    have g1 : ¬ nI nn ≤ nI i := nI_ge (by omega) (by omega)
    rcases he with ⟨rfl, h⟩ | ⟨rfl, h⟩
    · obtain ⟨a1, a2⟩ := hfa i (by omega)
      obtain ⟨b1, b2⟩ := hfb i (by omega)
      simp only [rX12_isSame_6, rX12_isSame_8, rX12_isSame_9, rX12_isSame_12, rX12_isSame_14, rX12_isSame_17, rX12_isSame_18, rX12_isSame_21, rX12_isSame_22, rX12_isSame_24, hM.1, g1, g, r14, nI_add, up2_eq, va_rf, eq_self, or_true, true_or, Option.toList_some, Option.toList_none, List.cons_append, List.nil_append, if_true, if_false]
      rw [rX12_isSame_25 s14 (by decide) (by omega) (by omega), a1]
      simp only [rX12_isSame_26, rX12_isSame_27, rX12_isSame_30, rX12_isSame_31, rX12_isSame_33, hM.1, r14, nI_add, up2_eq, va_rf, eq_self, or_true, true_or, Option.toList_some, Option.toList_none, List.cons_append, List.nil_append, if_true, if_false]
      rw [rX12_isSame_34 s14 (by decide) (by omega) (by omega), b1]
      by_cases c : fa i = fb i
      · have g2 : nI (fa i) = nI (fb i) := by rw [c]
        simp only [rX12_isSame_35, rX12_isSame_38, rX12_isSame_39, rX12_isSame_43, rX12_isSame_45, rX12_isSame_48, g2, nI_add, up2_eq, va_rf, eq_self, or_true, true_or, Option.toList_some, Option.toList_none, List.cons_append, List.nil_append, if_true, if_false]
        refine ih (i + 1) 1 (by omega) (Or.inl ⟨rfl, fun j hj => ?_⟩)
        by_cases z : j = i
        · rw [z]; exact c
        · exact h j (by omega)
      · have g2 : ¬ nI (fa i) = nI (fb i) := by rw [nI_eq (by omega) (by omega)]; exact c
        simp only [rX12_isSame_35, rX12_isSame_42, rX12_isSame_43, rX12_isSame_45, rX12_isSame_48, g2, nI_add, up2_eq, va_rf, eq_self, or_true, true_or, Option.toList_some, Option.toList_none, List.cons_append, List.nil_append, if_true, if_false]
        exact ih (i + 1) 0 (by omega) (Or.inr ⟨rfl, fun z => c (z i (by omega))⟩)
    · simp only [rX12_isSame_6, rX12_isSame_8, rX12_isSame_9, rX12_isSame_12, rX12_isSame_14, g1, up2_eq, va_rf, eq_self, or_true, true_or, Option.toList_some, Option.toList_none, List.cons_append, List.nil_append, if_true, if_false]
      simp only [rX12_isSame_42, rX12_isSame_43, rX12_isSame_45, rX12_isSame_48, nI_add, up2_eq, va_rf, eq_self, or_true, true_or, Option.toList_some, Option.toList_none, List.cons_append, List.nil_append, if_true, if_false]
      exact ih (i + 1) 0 (by omega) (Or.inr ⟨rfl, h⟩)
theorem k_isSame {a b nn : Nat} {fa fb : Nat → Nat} (hM : isM sh R y) (ha : a + nn ≤ 320) (hb : b + nn ≤ 320) (hfa : ∀ j, j < nn → A (y + 14) (a + j) = nI (fa j) ∧ fa j < 256) (hfb : ∀ j, j < nn → A (y + 14) (b + j) = nI (fb j) ∧ fb j < 256)
    (hQ1 : (∀ j, j < nn → fa j = fb j) → Q (some (.int (nI 1))) (mkh n u sh F R A B)) (hQ0 : ¬ (∀ j, j < nn → fa j = fb j) → Q (some (.int (nI 0))) (mkh n u sh F R A B)) :
    rc_ k mX12_isSame [.ref y, .int (nI a), .int (nI b), .int (nI nn)] (mkh n u sh F R A B) Q := by
  rw [eX12_isSame]
  simp only [rX12_isSame_0, rX12_isSame_1, rX12_isSame_3, rX12_isSame_4]
  exact l_isSame hM ha hb hfa hfb hQ1 hQ0 nn 0 1 (Nat.zero_add _) (Or.inl ⟨rfl, fun j hj => absurd hj (Nat.not_lt_zero _)⟩)
theorem l_isIn {i at_ nn : Nat} {fb : Nat → Nat} (hM : isM sh R y) (hS : mSb F A y J1 sl ns) (hi : i < ns) (hn : 0 < nn) (hn2 : nn ≤ 12) (hb : at_ + nn ≤ 320) (hfb : ∀ j, j < nn → A (y + 14) (at_ + j) = nI (fb j) ∧ fb j < 256)
    (hQ1 : (∃ q, q + nn ≤ sl i ∧ ∀ j, j < nn → J1 i (q + j) = fb j) → Q (some (.int (nI 1))) (mkh n u sh F R A B)) (hQ0 : ¬ (∃ q, q + nn ≤ sl i ∧ ∀ j, j < nn → J1 i (q + j) = fb j) → Q (some (.int (nI 0))) (mkh n u sh F R A B)) :
    ∀ d q, q + d = sl i + 1 → (∀ q', q' < q → ¬ (q' + nn ≤ sl i ∧ ∀ j, j < nn → J1 i (q' + j) = fb j)) → rw_ (k + 1) mX12_isIn 3 [.ref y, .int (nI i), .int (nI at_), .int (nI nn), .int (nI q)] [] (mkh n u sh F R A B) Q := by
  obtain ⟨h1, h2, h3, h4, h5⟩ := hS
  have r13 := hM.r 1217 13 0 8 (by decide)
  have s13 := hM.s 1217 13 0 8 (by decide)
  have g : ¬ nI 1 = nI 0 := by decide
  obtain ⟨l1, l2⟩ := h3 i hi
  intro d
  induction d with
  | zero =>
    intro q hq hno
    have g1 : nI (sl i) < nI (q + nn) := nI_lt (by omega) (by omega)
    simp only [rX12_isIn_3, rX12_isIn_5, rX12_isIn_6, rX12_isIn_7, rX12_isIn_8, rX12_isIn_11, hM.1, r13, nI_add, up2_eq, va_rf, eq_self, or_true, true_or, Option.toList_some, Option.toList_none, List.cons_append, List.nil_append, if_true, if_false]
    rw [rX12_isIn_12 s13 (by decide) (by omega) (by omega), l1]
    simp only [rX12_isIn_13, rX12_isIn_40, g1, up2_eq, va_rf, eq_self, or_true, true_or, Option.toList_some, Option.toList_none, List.cons_append, List.nil_append, if_true, if_false]
    rw [rX12_isIn_41 (Or.inl rfl)]
    exact hQ0 (fun ⟨q', z1, z2⟩ => hno q' (by omega) ⟨z1, z2⟩)
  | succ d ih =>
    intro q hq hno
    simp only [rX12_isIn_3, rX12_isIn_5, rX12_isIn_6, rX12_isIn_7, rX12_isIn_8, rX12_isIn_11, hM.1, r13, nI_add, up2_eq, va_rf, eq_self, or_true, true_or, Option.toList_some, Option.toList_none, List.cons_append, List.nil_append, if_true, if_false]
    rw [rX12_isIn_12 s13 (by decide) (by omega) (by omega), l1]
    by_cases c : sl i < q + nn
    · have g1 : nI (sl i) < nI (q + nn) := nI_lt c (by omega)
      simp only [rX12_isIn_13, rX12_isIn_40, g1, up2_eq, va_rf, eq_self, or_true, true_or, Option.toList_some, Option.toList_none, List.cons_append, List.nil_append, if_true, if_false]
      rw [rX12_isIn_41 (Or.inl rfl)]
      refine hQ0 (fun ⟨q', z1, z2⟩ => ?_)
      by_cases z : q' < q
      · exact hno q' z ⟨z1, z2⟩
      · omega
    · have g1 : ¬ nI (sl i) < nI (q + nn) := nI_nlt (by omega) (by omega)
      simp only [rX12_isIn_13, rX12_isIn_16, rX12_isIn_17, rX12_isIn_19, rX12_isIn_20, rX12_isIn_21, rX12_isIn_23, rX12_isIn_24, rX12_isIn_25, g1, pk_mul, nI_add, up2_eq, va_rf, eq_self, or_true, true_or, Option.toList_some, Option.toList_none, List.cons_append, List.nil_append, if_true, if_false]
      rw [rX12_isIn_26 hM.1]
      refine k_isSame (fa := fun j => J1 i (q + j)) (fb := fb) hM (by omega) hb (fun j hj => ⟨by rw [Nat.add_assoc]; exact h4 i hi _ (by omega), h5 i hi _ (by omega)⟩) hfb (fun hy => ?_) (fun hy => ?_)
      · simp only [rX12_isIn_29, rX12_isIn_32, g, up2_eq, va_rf, eq_self, or_true, true_or, Option.toList_some, Option.toList_none, List.cons_append, List.nil_append, if_true, if_false]
        rw [rX12_isIn_33 (Or.inr rfl)]
        exact hQ1 ⟨q, by omega, hy⟩
      · simp only [rX12_isIn_29, rX12_isIn_34, rX12_isIn_37, nI_add, up2_eq, va_rf, eq_self, or_true, true_or, Option.toList_some, Option.toList_none, List.cons_append, List.nil_append, if_true, if_false]
        refine ih (q + 1) (by omega) (fun q' hq' => ?_)
        by_cases z : q' = q
        · rw [z]; exact fun x => hy x.2
        · exact hno q' (by omega)
theorem k_isIn {i at_ nn : Nat} {fb : Nat → Nat} (hM : isM sh R y) (hS : mSb F A y J1 sl ns) (hi : i < ns) (hn : 0 < nn) (hn2 : nn ≤ 12) (hb : at_ + nn ≤ 320) (hfb : ∀ j, j < nn → A (y + 14) (at_ + j) = nI (fb j) ∧ fb j < 256)
    (hQ1 : (∃ q, q + nn ≤ sl i ∧ ∀ j, j < nn → J1 i (q + j) = fb j) → Q (some (.int (nI 1))) (mkh n u sh F R A B)) (hQ0 : ¬ (∃ q, q + nn ≤ sl i ∧ ∀ j, j < nn → J1 i (q + j) = fb j) → Q (some (.int (nI 0))) (mkh n u sh F R A B)) :
    rc_ (k + 1) mX12_isIn [.ref y, .int (nI i), .int (nI at_), .int (nI nn)] (mkh n u sh F R A B) Q := by
  rw [eX12_isIn]
  simp only [rX12_isIn_0, rX12_isIn_1]
  exact l_isIn hM hS hi hn hn2 hb hfb hQ1 hQ0 (sl i + 1) 0 (Nat.zero_add _) (fun q' hq' => absurd hq' (Nat.not_lt_zero _))
theorem fI_eq {a b : Nat} (ha : a < 256) (hb : b < 256) : nI a = nI b ↔ a = b := nI_eq (by omega) (by omega)
theorem l_inMany {s p nn : Nat} (hM : isM sh R y) (hS : mSb F A y (J 1) sl ns) (hs : s < ns) (hn : 0 < nn) (hn2 : nn ≤ 12) (hp : p + nn ≤ sl s)
    (hQ : Q (some (.int (nI (sprd (sbT J) sl s p nn ns)))) (mkh n u sh F R A B)) :
    ∀ d i, i + d = ns → rw_ (k + 2) mX12_inMany 5 [.ref y, .int (nI (40 * s + p)), .int (nI nn), .int (nI (sprd (sbT J) sl s p nn i)), .int (nI i)] [] (mkh n u sh F R A B) Q := by
  obtain ⟨h1, h2, h3, h4, h5⟩ := id hS
  have g : ¬ nI 1 = nI 0 := by decide
  have l2 := (h3 s hs).2
  intro d
  induction d with
  | zero =>
    intro i hi
    have e : i = ns := by omega
    subst e
    have g1 : nI i ≤ nI i := nI_le (Nat.le_refl _) (by omega)
    simp only [rX12_inMany_5, rX12_inMany_7, rX12_inMany_8, rX12_inMany_11, rX12_inMany_39, rX12_inMany_40, hM.1, h1, g1, up2_eq, va_rf, eq_self, or_true, true_or, Option.toList_some, Option.toList_none, List.cons_append, List.nil_append, if_true, if_false]
    exact hQ
  | succ d ih =>
    intro i hi
    have g1 : ¬ nI ns ≤ nI i := nI_ge (by omega) (by omega)
    simp only [rX12_inMany_5, rX12_inMany_7, rX12_inMany_8, rX12_inMany_11, rX12_inMany_14, rX12_inMany_15, rX12_inMany_16, rX12_inMany_18, rX12_inMany_19, hM.1, h1, g1, up2_eq, va_rf, eq_self, or_true, true_or, Option.toList_some, Option.toList_none, List.cons_append, List.nil_append, if_true, if_false]
    rw [rX12_inMany_20 hM.1]
    have ih' := ih (i + 1) (by omega)
    have key : nn ≤ lon (sbT J) sl s p i (sl i) ↔ ∃ q, q + nn ≤ sl i ∧ ∀ j, j < nn → J 1 i (q + j) = J 1 s (p + j) := by
      rw [lon_in hn hn2 hp]
      constructor
      · rintro ⟨q, z1, z2⟩
        exact ⟨q, z1, fun j hj => ((fI_eq (h5 s hs _ (by omega)) (h5 i (by omega) _ (by omega))).mp (z2 j hj)).symm⟩
      · rintro ⟨q, z1, z2⟩
        exact ⟨q, z1, fun j hj => by show nI (J 1 s (p + j)) = nI (J 1 i (q + j)); rw [z2 j hj]⟩
    unfold sprd at ih'
    refine k_isIn (k := k) (fb := fun j => J 1 s (p + j)) hM hS (by omega) hn hn2 (by omega) (fun j hj => ⟨by rw [Nat.add_assoc]; exact h4 s hs _ (by omega), h5 s hs _ (by omega)⟩) (fun hy => ?_) (fun hy => ?_)
    · rw [if_pos (key.mpr hy)] at ih'
      simp only [rX12_inMany_23, rX12_inMany_26, rX12_inMany_27, rX12_inMany_31, rX12_inMany_32, rX12_inMany_33, rX12_inMany_36, g, nI_add, up2_eq, va_rf, eq_self, or_true, true_or, Option.toList_some, Option.toList_none, List.cons_append, List.nil_append, if_true, if_false]
      exact ih'
    · rw [if_neg (fun x => hy (key.mp x))] at ih'
      simp only [rX12_inMany_23, rX12_inMany_30, rX12_inMany_31, rX12_inMany_32, rX12_inMany_33, rX12_inMany_36, nI_add, up2_eq, va_rf, eq_self, or_true, true_or, Option.toList_some, Option.toList_none, List.cons_append, List.nil_append, if_true, if_false]
      exact ih'
theorem k_inMany {s p nn : Nat} (hM : isM sh R y) (hS : mSb F A y (J 1) sl ns) (hs : s < ns) (hn : 0 < nn) (hn2 : nn ≤ 12) (hp : p + nn ≤ sl s)
    (hQ : Q (some (.int (nI (sprd (sbT J) sl s p nn ns)))) (mkh n u sh F R A B)) :
    rc_ (k + 2) mX12_inMany [.ref y, .int (nI (40 * s + p)), .int (nI nn)] (mkh n u sh F R A B) Q := by
  rw [eX12_inMany]
  simp only [rX12_inMany_0, rX12_inMany_1, rX12_inMany_2, rX12_inMany_3]
  exact l_inMany hM hS hs hn hn2 hp hQ ns 0 (Nat.zero_add _)
theorem l_isFirst {a b nn : Nat} {fa fb : Nat → Nat} (hM : isM sh R y) (ha : a + nn ≤ 320) (hb : b + nn ≤ 320) (hfa : ∀ j, j < nn → A (y + 14) (a + j) = nI (fa j) ∧ fa j < 256) (hfb : ∀ j, j < nn → A (y + 14) (b + j) = nI (fb j) ∧ fb j < 256)
    (hQ1 : bLt fa fb nn → Q (some (.int (nI 1))) (mkh n u sh F R A B)) (hQ0 : ¬ bLt fa fb nn → Q (some (.int (nI 0))) (mkh n u sh F R A B)) :
    ∀ d i, i + d = nn → (∀ j, j < i → fa j = fb j) → rw_ k mX12_isFirst 3 [.ref y, .int (nI a), .int (nI b), .int (nI nn), .int (nI i)] [] (mkh n u sh F R A B) Q := by
  have r14 := hM.r 1218 14 0 320 (by decide)
  have s14 := hM.s 1218 14 0 320 (by decide)
  intro d
  induction d with
  | zero =>
    intro i hi h
    have e1 : i = nn := by omega
    subst e1
    have g1 : nI i ≤ nI i := nI_le (Nat.le_refl _) (by omega)
    simp only [rX12_isFirst_3, rX12_isFirst_5, rX12_isFirst_6, rX12_isFirst_63, g1, up2_eq, va_rf, eq_self, or_true, true_or, Option.toList_some, Option.toList_none, List.cons_append, List.nil_append, if_true, if_false]
    rw [rX12_isFirst_64 (Or.inl rfl)]
    exact hQ0 (fun x => bLt_ne x h)
  | succ d ih =>
    intro i hi h
    have g1 : ¬ nI nn ≤ nI i := nI_ge (by omega) (by omega)
    obtain ⟨a1, a2⟩ := hfa i (by omega)
    obtain ⟨b1, b2⟩ := hfb i (by omega)
    simp only [rX12_isFirst_3, rX12_isFirst_5, rX12_isFirst_6, rX12_isFirst_9, rX12_isFirst_10, rX12_isFirst_13, rX12_isFirst_14, rX12_isFirst_16, hM.1, g1, r14, nI_add, up2_eq, va_rf, eq_self, or_true, true_or, Option.toList_some, Option.toList_none, List.cons_append, List.nil_append, if_true, if_false]
    rw [rX12_isFirst_17 s14 (by decide) (by omega) (by omega), a1]
    simp only [rX12_isFirst_18, rX12_isFirst_19, rX12_isFirst_22, rX12_isFirst_23, rX12_isFirst_25, hM.1, r14, nI_add, up2_eq, va_rf, eq_self, or_true, true_or, Option.toList_some, Option.toList_none, List.cons_append, List.nil_append, if_true, if_false]
    rw [rX12_isFirst_26 s14 (by decide) (by omega) (by omega), b1]
    by_cases c : fa i = fb i
    · have g2 : nI (fa i) = nI (fb i) := by rw [c]
      simp only [rX12_isFirst_27, rX12_isFirst_57, rX12_isFirst_60, g2, nI_add, up2_eq, va_rf, eq_self, or_true, true_or, Option.toList_some, Option.toList_none, List.cons_append, List.nil_append, if_true, if_false]
      refine ih (i + 1) (by omega) (fun j hj => ?_)
      by_cases z : j = i
      · rw [z]; exact c
      · exact h j (by omega)
    · have g2 : ¬ nI (fa i) = nI (fb i) := by rw [nI_eq (by omega) (by omega)]; exact c
      simp only [rX12_isFirst_27, rX12_isFirst_30, rX12_isFirst_31, rX12_isFirst_34, rX12_isFirst_35, rX12_isFirst_37, hM.1, g2, r14, nI_add, up2_eq, va_rf, eq_self, or_true, true_or, Option.toList_some, Option.toList_none, List.cons_append, List.nil_append, if_true, if_false]
      rw [rX12_isFirst_38 s14 (by decide) (by omega) (by omega), a1]
      simp only [rX12_isFirst_39, rX12_isFirst_40, rX12_isFirst_43, rX12_isFirst_44, rX12_isFirst_46, hM.1, r14, nI_add, up2_eq, va_rf, eq_self, or_true, true_or, Option.toList_some, Option.toList_none, List.cons_append, List.nil_append, if_true, if_false]
      rw [rX12_isFirst_47 s14 (by decide) (by omega) (by omega), b1]
      by_cases c2 : fa i < fb i
      · have g3 : ¬ nI (fb i) ≤ nI (fa i) := nI_ge c2 (by omega)
        simp only [rX12_isFirst_48, rX12_isFirst_51, rX12_isFirst_52, g3, up2_eq, va_rf, eq_self, or_true, true_or, Option.toList_some, Option.toList_none, List.cons_append, List.nil_append, if_true, if_false]
        rw [rX12_isFirst_56 (Or.inr rfl)]
        exact hQ1 ⟨i, by omega, h, c2⟩
      · have g3 : nI (fb i) ≤ nI (fa i) := nI_le (by omega) (by omega)
        simp only [rX12_isFirst_48, rX12_isFirst_55, g3, up2_eq, va_rf, eq_self, or_true, true_or, Option.toList_some, Option.toList_none, List.cons_append, List.nil_append, if_true, if_false]
        rw [rX12_isFirst_56 (Or.inl rfl)]
        exact hQ0 (fun x => bLt_as x ⟨i, by omega, fun j hj => (h j hj).symm, by omega⟩)
theorem k_isFirst {a b nn : Nat} {fa fb : Nat → Nat} (hM : isM sh R y) (ha : a + nn ≤ 320) (hb : b + nn ≤ 320) (hfa : ∀ j, j < nn → A (y + 14) (a + j) = nI (fa j) ∧ fa j < 256) (hfb : ∀ j, j < nn → A (y + 14) (b + j) = nI (fb j) ∧ fb j < 256)
    (hQ1 : bLt fa fb nn → Q (some (.int (nI 1))) (mkh n u sh F R A B)) (hQ0 : ¬ bLt fa fb nn → Q (some (.int (nI 0))) (mkh n u sh F R A B)) :
    rc_ k mX12_isFirst [.ref y, .int (nI a), .int (nI b), .int (nI nn)] (mkh n u sh F R A B) Q := by
  rw [eX12_isFirst]
  simp only [rX12_isFirst_0, rX12_isFirst_1]
  exact l_isFirst hM ha hb hfa hfb hQ1 hQ0 nn 0 (Nat.zero_add _) (fun j hj => absurd hj (Nat.not_lt_zero _))
/-- a candidate's bytes lie among the samples -/
theorem mSb_c (hS : mSb F A y J1 sl ns) (hx : okC ns sl x) : (40 * x.1 + x.2.1) + x.2.2.1 ≤ 320 ∧ ∀ j, j < x.2.2.1 → A (y + 14) (40 * x.1 + x.2.1 + j) = nI (cbn J1 x j) ∧ cbn J1 x j < 256 := by
  obtain ⟨h1, h2, h3, h4, h5⟩ := hS
  obtain ⟨x1, x2, x3, x4, x5⟩ := hx
  have := (h3 _ x1).2
  exact ⟨by omega, fun j hj => ⟨by rw [Nat.add_assoc]; exact h4 _ x1 _ (by omega), h5 _ x1 _ (by omega)⟩⟩
theorem k_isBetter {c : Nat} (hM : isM sh R y) (hS : mSb F A y J1 sl ns) (hx : okC ns sl x) (hp : okC ns sl p) (hc : c < 9) (e1 : A (y + 34) c = nI (40 * x.1 + x.2.1)) (e2 : A (y + 35) c = nI x.2.2.1) (e3 : A (y + 36) c = nI x.2.2.2)
    (hQ1 : wLt J1 p x → Q (some (.int (nI 1))) (mkh n u sh F R A B)) (hQ0 : ¬ wLt J1 p x → Q (some (.int (nI 0))) (mkh n u sh F R A B)) :
    rc_ (k + 1) mX12_isBetter [.ref y, .int (nI (40 * p.1 + p.2.1)), .int (nI p.2.2.1), .int (nI p.2.2.2), .int (nI c)] (mkh n u sh F R A B) Q := by
  have r34 := hM.r 1255 34 0 9 (by decide)
  have s34 := hM.s 1255 34 0 9 (by decide)
  have r35 := hM.r 1256 35 0 9 (by decide)
  have s35 := hM.s 1256 35 0 9 (by decide)
  have r36 := hM.r 1257 36 0 9 (by decide)
  have s36 := hM.s 1257 36 0 9 (by decide)
  obtain ⟨px1, px2⟩ := mSb_c hS hx
  obtain ⟨pp1, pp2⟩ := mSb_c hS hp
  obtain ⟨x1, x2, x3, x4, x5⟩ := id hx
  obtain ⟨p1, p2, p3, p4, p5⟩ := id hp
  rw [eX12_isBetter]
  simp only [rX12_isBetter_0, rX12_isBetter_1, rX12_isBetter_2, rX12_isBetter_5, hM.1, r36, up2_eq, va_rf, eq_self, or_true, true_or, Option.toList_some, Option.toList_none, List.cons_append, List.nil_append, if_true, if_false]
  rw [rX12_isBetter_7 s36 (by decide) hc (by omega), e3]
  by_cases c1 : p.2.2.2 = x.2.2.2
  · have g1 : nI p.2.2.2 = nI x.2.2.2 := by rw [c1]
    simp only [rX12_isBetter_8, rX12_isBetter_28, rX12_isBetter_29, rX12_isBetter_30, rX12_isBetter_33, hM.1, g1, r35, up2_eq, va_rf, eq_self, or_true, true_or, Option.toList_some, Option.toList_none, List.cons_append, List.nil_append, if_true, if_false]
    rw [rX12_isBetter_35 s35 (by decide) hc (by omega), e2]
    by_cases c2 : p.2.2.1 = x.2.2.1
    · have g2 : nI p.2.2.1 = nI x.2.2.1 := by rw [c2]
      simp only [rX12_isBetter_36, rX12_isBetter_58, rX12_isBetter_59, rX12_isBetter_60, rX12_isBetter_61, rX12_isBetter_64, hM.1, g2, r34, up2_eq, va_rf, eq_self, or_true, true_or, Option.toList_some, Option.toList_none, List.cons_append, List.nil_append, if_true, if_false]
      rw [rX12_isBetter_66 s34 (by decide) hc (by omega), e1]
      simp only [rX12_isBetter_67, up2_eq, va_rf, eq_self, or_true, true_or, Option.toList_some, Option.toList_none, List.cons_append, List.nil_append, if_true, if_false]
      rw [rX12_isBetter_68 hM.1]
      refine k_isFirst (fa := cbn J1 p) (fb := cbn J1 x) hM (by omega) px1 (fun j hj => pp2 j (by omega)) px2 (fun hy => ?_) (fun hy => ?_)
      · simp only [up2_eq, va_rf, eq_self, or_true, true_or, Option.toList_some, Option.toList_none, List.cons_append, List.nil_append, if_true, if_false]
        rw [rX12_isBetter_71 (Or.inr rfl)]
        exact hQ1 (Or.inr ⟨c1, Or.inr ⟨c2, by rw [c2]; exact hy⟩⟩)
      · simp only [up2_eq, va_rf, eq_self, or_true, true_or, Option.toList_some, Option.toList_none, List.cons_append, List.nil_append, if_true, if_false]
        rw [rX12_isBetter_71 (Or.inl rfl)]
        refine hQ0 (fun z => ?_)
        rcases z with z | ⟨z1, z | ⟨z2, z3⟩⟩
        · omega
        · omega
        · rw [c2] at z3; exact hy z3
    · have g2 : ¬ nI p.2.2.1 = nI x.2.2.1 := by rw [nI_eq (by omega) (by omega)]; exact c2
      simp only [rX12_isBetter_36, rX12_isBetter_39, rX12_isBetter_40, rX12_isBetter_41, rX12_isBetter_44, hM.1, g2, r35, up2_eq, va_rf, eq_self, or_true, true_or, Option.toList_some, Option.toList_none, List.cons_append, List.nil_append, if_true, if_false]
      rw [rX12_isBetter_46 s35 (by decide) hc (by omega), e2]
      by_cases c3 : x.2.2.1 < p.2.2.1
      · have g3 : ¬ nI p.2.2.1 ≤ nI x.2.2.1 := nI_ge c3 (by omega)
        simp only [rX12_isBetter_47, rX12_isBetter_50, rX12_isBetter_51, g3, up2_eq, va_rf, eq_self, or_true, true_or, Option.toList_some, Option.toList_none, List.cons_append, List.nil_append, if_true, if_false]
        rw [rX12_isBetter_71 (Or.inr rfl)]
        exact hQ1 (Or.inr ⟨c1, Or.inl c3⟩)
      · have g3 : nI p.2.2.1 ≤ nI x.2.2.1 := nI_le (by omega) (by omega)
        simp only [rX12_isBetter_47, rX12_isBetter_54, rX12_isBetter_55, g3, up2_eq, va_rf, eq_self, or_true, true_or, Option.toList_some, Option.toList_none, List.cons_append, List.nil_append, if_true, if_false]
        rw [rX12_isBetter_71 (Or.inl rfl)]
        refine hQ0 (fun z => ?_)
        rcases z with z | ⟨z1, z | ⟨z2, z3⟩⟩ <;> omega
  · have g1 : ¬ nI p.2.2.2 = nI x.2.2.2 := by rw [nI_eq (by omega) (by omega)]; exact c1
    simp only [rX12_isBetter_8, rX12_isBetter_11, rX12_isBetter_12, rX12_isBetter_13, rX12_isBetter_16, hM.1, g1, r36, up2_eq, va_rf, eq_self, or_true, true_or, Option.toList_some, Option.toList_none, List.cons_append, List.nil_append, if_true, if_false]
    rw [rX12_isBetter_18 s36 (by decide) hc (by omega), e3]
    by_cases c3 : x.2.2.2 < p.2.2.2
    · have g3 : ¬ nI p.2.2.2 ≤ nI x.2.2.2 := nI_ge c3 (by omega)
      simp only [rX12_isBetter_19, rX12_isBetter_22, rX12_isBetter_23, g3, up2_eq, va_rf, eq_self, or_true, true_or, Option.toList_some, Option.toList_none, List.cons_append, List.nil_append, if_true, if_false]
      rw [rX12_isBetter_27 (Or.inr rfl)]
      exact hQ1 (Or.inl c3)
    · have g3 : nI p.2.2.2 ≤ nI x.2.2.2 := nI_le (by omega) (by omega)
      simp only [rX12_isBetter_19, rX12_isBetter_26, g3, up2_eq, va_rf, eq_self, or_true, true_or, Option.toList_some, Option.toList_none, List.cons_append, List.nil_append, if_true, if_false]
      rw [rX12_isBetter_27 (Or.inl rfl)]
      refine hQ0 (fun z => ?_)
      rcases z with z | ⟨z1, z2⟩ <;> omega
end MCD
