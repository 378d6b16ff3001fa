/-! ===== the reference: a book is copied ===== -/
section MCP
variable {k n u : Nat} {sh : hs_} {F F' : hF_} {R : hR_} {A A' : hF_} {B : hR_} {Q : Option Value → pm_H → Prop} {y : Nat} {T : TT} {b c s to_ : Nat} {E f : Nat → Nat}
theorem l_copyE (hM : isM sh R y) (hb : b < 26) (ht : to_ < 26) (hne : b ≠ to_)
    (hQ : ∀ A1 x4, (∀ a, a ≠ y + 5 → A1 a = A a) → (∀ j, (j < 21 * to_ ∨ 21 * to_ + 21 ≤ j) → A1 (y + 5) j = A (y + 5) j) → (∀ q, q < 21 → A1 (y + 5) (21 * to_ + q) = A (y + 5) (21 * b + q)) → rw_ k mX12_copyBook 60 [.ref y, .int (nI b), .int (nI to_), .int (nI 21), x4] [] (mkh n u sh F R A1 B) Q) {x4 : Value} :
    ∀ d i A1, i + d = 21 → (∀ a, a ≠ y + 5 → A1 a = A a) → (∀ j, (j < 21 * to_ ∨ 21 * to_ + 21 ≤ j) → A1 (y + 5) j = A (y + 5) j) → (∀ q, q < i → A1 (y + 5) (21 * to_ + q) = A (y + 5) (21 * b + q)) → rw_ k mX12_copyBook 26 [.ref y, .int (nI b), .int (nI to_), .int (nI i), x4] [] (mkh n u sh F R A1 B) Q := by
  have r5 := hM.r 1208 5 0 546 (by decide)
  have s5 := hM.s 1208 5 0 546 (by decide)
  intro d
  induction d with
  | zero =>
    intro i A1 hi f1 f2 f3
    have e : i = 21 := by omega
    subst e
    have g1 : nI 21 ≤ nI 21 := by decide
    simp only [rX12_copyBook_26, rX12_copyBook_27, rX12_copyBook_29, g1, up2_eq, va_rf, eq_self, or_true, true_or, Option.toList_some, Option.toList_none, List.cons_append, List.nil_append, if_true, if_false]
    exact hQ A1 _ f1 f2 f3
  | succ d ih =>
    intro i A1 hi f1 f2 f3
    have g1 : ¬ nI 21 ≤ nI i := nI_ge (by omega) (by omega)
    simp only [rX12_copyBook_26, rX12_copyBook_27, rX12_copyBook_29, rX12_copyBook_32, rX12_copyBook_33, rX12_copyBook_36, rX12_copyBook_38, rX12_copyBook_39, rX12_copyBook_40, rX12_copyBook_41, rX12_copyBook_42, rX12_copyBook_43, rX12_copyBook_46, rX12_copyBook_48, rX12_copyBook_49, rX12_copyBook_50, rX12_copyBook_51, hM.1, g1, r5, pk_mul, nI_add, up2_eq, va_rf, eq_self, or_true, true_or, Option.toList_some, Option.toList_none, List.cons_append, List.nil_append, if_true, if_false]
    rw [rX12_copyBook_52 s5 (by decide) (by omega) (by omega)]
    rw [rX12_copyBook_53 s5 (by omega) (by omega), f2 (21 * b + i) (by omega)]
    simp only [rX12_copyBook_54, rX12_copyBook_57, nI_add]
    refine ih (i + 1) _ (by omega) (fun a ha => by rw [up2_row ha]; exact f1 a ha) (fun j hj => by rw [up2_a (by omega)]; exact f2 j hj) (fun q hq => ?_)
    by_cases e : q = i
    · subst e; rw [up2_eq]
    · rw [up2_a (by omega)]; exact f3 q (by omega)
theorem l_copyR (hM : isM sh R y) (hb : b < 26) (ht : to_ < 26) (hne : b ≠ to_) (hs : s ≤ 4000)
    (hQ : ∀ A1, (∀ a, a ≠ y + 6 → A1 a = A a) → (∀ j, (j < 4000 * to_ ∨ 4000 * to_ + 4000 ≤ j) → A1 (y + 6) j = A (y + 6) j) → (∀ q, q < s → A1 (y + 6) (4000 * to_ + q) = A (y + 6) (4000 * b + q)) → Q none (mkh n u sh F R A1 B)) :
    ∀ d i A1, i + d = s → (∀ a, a ≠ y + 6 → A1 a = A a) → (∀ j, (j < 4000 * to_ ∨ 4000 * to_ + 4000 ≤ j) → A1 (y + 6) j = A (y + 6) j) → (∀ q, q < i → A1 (y + 6) (4000 * to_ + q) = A (y + 6) (4000 * b + q)) → rw_ k mX12_copyBook 69 [.ref y, .int (nI b), .int (nI to_), .int (nI s), .int (nI i)] [] (mkh n u sh F R A1 B) Q := by
  have r6 := hM.r 1209 6 0 104000 (by decide)
  have s6 := hM.s 1209 6 0 104000 (by decide)
  intro d
  induction d with
  | zero =>
    intro i A1 hi f1 f2 f3
    have e : i = s := by omega
    subst e
    have g1 : nI i ≤ nI i := nI_le (Nat.le_refl _) (by omega)
    simp only [rX12_copyBook_69, rX12_copyBook_71, rX12_copyBook_72, rX12_copyBook_107, g1, up2_eq, va_rf, eq_self, or_true, true_or, Option.toList_some, Option.toList_none, List.cons_append, List.nil_append, if_true, if_false]
    exact hQ A1 f1 f2 f3
  | succ d ih =>
    intro i A1 hi f1 f2 f3
    have g1 : ¬ nI s ≤ nI i := nI_ge (by omega) (by omega)
    simp only [rX12_copyBook_69, rX12_copyBook_71, rX12_copyBook_72, rX12_copyBook_75, rX12_copyBook_76, rX12_copyBook_79, rX12_copyBook_82, rX12_copyBook_83, rX12_copyBook_84, rX12_copyBook_86, rX12_copyBook_87, rX12_copyBook_88, rX12_copyBook_91, rX12_copyBook_94, rX12_copyBook_95, rX12_copyBook_96, rX12_copyBook_98, hM.1, g1, r6, pk_mul, nI_add, up2_eq, va_rf, eq_self, or_true, true_or, Option.toList_some, Option.toList_none, List.cons_append, List.nil_append, if_true, if_false]
    rw [rX12_copyBook_99 s6 (by decide) (by omega) (by omega)]
    rw [rX12_copyBook_100 s6 (by omega) (by omega), f2 (4000 * b + i) (by omega)]
    simp only [rX12_copyBook_101, rX12_copyBook_104, nI_add]
    refine ih (i + 1) _ (by omega) (fun a ha => by rw [up2_row ha]; exact f1 a ha) (fun j hj => by rw [up2_a (by omega)]; exact f2 j hj) (fun q hq => ?_)
    by_cases e : q = i
    · subst e; rw [up2_eq]
    · rw [up2_a (by omega)]; exact f3 q (by omega)
theorem k_copyBook (hM : isM sh R y) (hb : b < 26) (ht : to_ < 26) (hne : b ≠ to_) (h : mB1 A y b c s E f) (hE : okE E c s) (hc : c ≤ 20) (hs : s ≤ 4000)
    (hQ : ∀ A', (∀ a, ¬ (y + 3 ≤ a ∧ a ≤ y + 6) → A' a = A a) → (∀ j, j ≠ to_ → A' (y + 3) j = A (y + 3) j) → A' (y + 3) to_ = A (y + 3) b → (∀ j, j ≠ to_ → A' (y + 4) j = A (y + 4) j) → (∀ j, (j < 21 * to_ ∨ 21 * to_ + 21 ≤ j) → A' (y + 5) j = A (y + 5) j) → (∀ j, (j < 4000 * to_ ∨ 4000 * to_ + 4000 ≤ j) → A' (y + 6) j = A (y + 6) j) → mB1 A' y to_ c s E f → Q none (mkh n u sh F R A' B)) :
    rc_ (k + 1) mX12_copyBook [.ref y, .int (nI b), .int (nI to_)] (mkh n u sh F R A B) Q := by
  have r3 := hM.r 1206 3 0 26 (by decide)
  have s3 := hM.s 1206 3 0 26 (by decide)
  have r4 := hM.r 1207 4 0 26 (by decide)
  have s4 := hM.s 1207 4 0 26 (by decide)
  rw [eX12_copyBook]
  simp only [rX12_copyBook_0, rX12_copyBook_1, rX12_copyBook_4, rX12_copyBook_5, rX12_copyBook_6, rX12_copyBook_9, hM.1, r3, up2_eq, va_rf, eq_self, or_true, true_or, Option.toList_some, Option.toList_none, List.cons_append, List.nil_append, if_true, if_false]
  rw [rX12_copyBook_10 s3 (by decide) hb (by omega)]
  rw [rX12_copyBook_11 s3 ht (by omega)]
  simp only [rX12_copyBook_12, rX12_copyBook_13, rX12_copyBook_16, rX12_copyBook_17, rX12_copyBook_18, rX12_copyBook_21, hM.1, r4, up2_eq, va_rf, eq_self, or_true, true_or, Option.toList_some, Option.toList_none, List.cons_append, List.nil_append, if_true, if_false]
  rw [rX12_copyBook_22 s4 (by decide) hb (by omega)]
  rw [rX12_copyBook_23 s4 ht (by omega)]
  simp only [rX12_copyBook_24, rX12_copyBook_25, up2_eq, va_rf, eq_self, or_true, true_or, Option.toList_some, Option.toList_none, List.cons_append, List.nil_append, if_true, if_false]
  refine l_copyE (k := k + 1) hM hb ht hne ?_ 21 0 _ (by omega) (fun _ _ => rfl) (fun _ _ => rfl) (fun q hq => absurd hq (Nat.not_lt_zero _))
  intro A1 x4 f1 f2 f3
  have e4 : A1 (y + 4) = up2 (up2 A (y + 3) to_ (A (y + 3) b)) (y + 4) to_ (up2 A (y + 3) to_ (A (y + 3) b) (y + 4) b) (y + 4) := f1 _ (by omega)
  have h1 : mB1 A1 y b c s E f := mB1_cong h (by rw [e4, up2_a hne, up2_k (by omega)]) (fun q hq => by rw [f2 _ (by omega), up2_k (by omega), up2_k (by omega)]) (fun q hq => by rw [f1 _ (by omega), up2_k (by omega), up2_k (by omega)])
  simp only [rX12_copyBook_60, rX12_copyBook_61, up2_eq, va_rf, eq_self, or_true, true_or, Option.toList_some, Option.toList_none, List.cons_append, List.nil_append, if_true, if_false]
  rw [rX12_copyBook_62 hM.1, k_rowLong hM hb h1 hE hc]
  simp only [rX12_copyBook_65, rX12_copyBook_66, rX12_copyBook_67, up2_eq, va_rf, eq_self, or_true, true_or, Option.toList_some, Option.toList_none, List.cons_append, List.nil_append, if_true, if_false]
  refine l_copyR (k := k + 1) (A := A1) hM hb ht hne hs ?_ s 0 A1 (by omega) (fun _ _ => rfl) (fun _ _ => rfl) (fun q hq => absurd hq (Nat.not_lt_zero _))
  intro A2 p1 p2 p3
  refine hQ A2 (fun a ha => ?_) (fun j hj => ?_) ?_ (fun j hj => ?_) (fun j hj => ?_) (fun j hj => ?_) ⟨?_, fun q hq => ?_, fun j hj => ?_⟩
  · rw [p1 _ (by omega), f1 _ (by omega), up2_row (by omega), up2_row (by omega)]
  · rw [p1 _ (by omega), f1 _ (by omega), up2_k (by omega), up2_a hj]
  · rw [p1 _ (by omega), f1 _ (by omega), up2_k (by omega), up2_eq]
  · rw [p1 _ (by omega), f1 _ (by omega), up2_a hj, up2_k (by omega)]
  · rw [p1 _ (by omega), f2 _ hj, up2_k (by omega), up2_k (by omega)]
  · rw [p2 _ hj, f1 _ (by omega), up2_k (by omega), up2_k (by omega)]
  · rw [p1 _ (by omega), e4, up2_eq, up2_k (by omega)]; exact h.1
  · rw [p1 _ (by omega), f3 q (by omega), up2_k (by omega), up2_k (by omega)]; exact h.2.1 q hq
  · rw [p3 j hj]; exact h1.2.2 j hj
theorem l_such (hM : isM sh R y) (h : mB1 A y 24 c s E f) (hE : okE E c s) (hc : c ≤ 20) (hs : s ≤ 4000) {x1 : Value} {a0 : Bool} :
    ∀ d i, i + d = c → (rw_ (k + 2) mX12_areSuch 40 [.ref y, x1, .int (if (a0 && fitL E i) = true then nI 1 else nI 0), .int (nI i)] [] (mkh n u sh F R A B) Q ↔ Q (some (.int (if (a0 && fitL E c) = true then nI 1 else nI 0))) (mkh n u sh F R A B)) := by
  have r4 := hM.r 1207 4 0 26 (by decide)
  have s4 := hM.s 1207 4 0 26 (by decide)
  have g : ¬ nI 1 = nI 0 := by decide
  intro d
  induction d with
  | zero =>
    intro i hi
    have e : i = c := by omega
    subst e
    have g1 : nI i ≤ nI i := nI_le (Nat.le_refl _) (by omega)
    simp only [rX12_areSuch_40, rX12_areSuch_41, rX12_areSuch_42, rX12_areSuch_45, hM.1, r4, up2_eq, va_rf, eq_self, or_true, true_or, Option.toList_some, Option.toList_none, List.cons_append, List.nil_append, if_true, if_false]
    rw [rX12_areSuch_47 s4 (by decide) (by omega) (by omega), h.1]
    simp only [rX12_areSuch_48, rX12_areSuch_83, g1, up2_eq, va_rf, eq_self, or_true, true_or, Option.toList_some, Option.toList_none, List.cons_append, List.nil_append, if_true, if_false]
    rw [rX12_areSuch_84 (b01 _)]
  | succ d ih =>
    intro i hi
    have g1 : ¬ nI c ≤ nI i := nI_ge (by omega) (by omega)
    have hEl := hE.E_le (j := i) (by omega)
    simp only [rX12_areSuch_40, rX12_areSuch_41, rX12_areSuch_42, rX12_areSuch_45, hM.1, r4, up2_eq, va_rf, eq_self, or_true, true_or, Option.toList_some, Option.toList_none, List.cons_append, List.nil_append, if_true, if_false]
    rw [rX12_areSuch_47 s4 (by decide) (by omega) (by omega), h.1]
    simp only [rX12_areSuch_48, rX12_areSuch_51, g1, up2_eq, va_rf, eq_self, or_true, true_or, Option.toList_some, Option.toList_none, List.cons_append, List.nil_append, if_true, if_false]
    have e1 : fitL E (i + 1) = (fitL E i && (decide (2 ≤ E i - pst E i) && decide (E i - pst E i ≤ 16))) := rfl
    have ih' := ih (i + 1) (by omega)
    cases hf : (a0 && fitL E i) with
    | false =>
      have e2 : (a0 && fitL E (i + 1)) = false := by rw [e1, ← Bool.and_assoc, hf]; rfl
      rw [e2] at ih'
      simp only [Bool.false_eq_true, rX12_areSuch_52, rX12_areSuch_75, rX12_areSuch_76, rX12_areSuch_77, rX12_areSuch_80, nI_add, up2_eq, va_rf, eq_self, or_true, true_or, Option.toList_some, Option.toList_none, List.cons_append, List.nil_append, if_true, if_false]
      simp only [Bool.false_eq_true, up2_eq, va_rf, eq_self, or_true, true_or, Option.toList_some, Option.toList_none, List.cons_append, List.nil_append, if_true, if_false] at ih'
      exact ih'
    | true =>
      simp only [rX12_areSuch_52, rX12_areSuch_55, rX12_areSuch_56, rX12_areSuch_58, g, up2_eq, va_rf, eq_self, or_true, true_or, Option.toList_some, Option.toList_none, List.cons_append, List.nil_append, if_true, if_false]
      rw [rX12_areSuch_59 hM.1, k_pieceLong12 hM (by omega) h hE hc (by omega)]
      simp only [rX12_areSuch_62, rX12_areSuch_63, up2_eq, va_rf, eq_self, or_true, true_or, Option.toList_some, Option.toList_none, List.cons_append, List.nil_append, if_true, if_false]
      rw [rX12_areSuch_65, k_in]
      have e2 : (a0 && fitL E (i + 1)) = (decide (2 ≤ E i - pst E i) && decide (E i - pst E i ≤ 16)) := by rw [e1, ← Bool.and_assoc, hf]; rfl
      rw [e2] at ih'
      by_cases c1 : 2 ≤ E i - pst E i ∧ E i - pst E i ≤ 16
      · have g2 : ¬ (nI (E i - pst E i) < nI 2 ∨ nI 16 < nI (E i - pst E i)) := by
          rintro (q | q)
          · rw [nI_ltI (by omega) (by omega)] at q; omega
          · rw [nI_ltI (by omega) (by omega)] at q; omega
        rw [decide_eq_true c1.1, decide_eq_true c1.2] at ih'
        rw [if_neg g2]
        simp only [rX12_areSuch_68, rX12_areSuch_71, rX12_areSuch_72, rX12_areSuch_76, rX12_areSuch_77, rX12_areSuch_80, g, nI_add, up2_eq, va_rf, eq_self, or_true, true_or, Option.toList_some, Option.toList_none, List.cons_append, List.nil_append, if_true, if_false]
        simp only [Bool.and_self, up2_eq, va_rf, eq_self, or_true, true_or, Option.toList_some, Option.toList_none, List.cons_append, List.nil_append, if_true, if_false] at ih'
        exact ih'
      · have g2 : nI (E i - pst E i) < nI 2 ∨ nI 16 < nI (E i - pst E i) := by
          by_cases q : 2 ≤ E i - pst E i
          · right; exact nI_lt (by omega) (by omega)
          · left; exact nI_lt (by omega) (by omega)
        have e3 : (decide (2 ≤ E i - pst E i) && decide (E i - pst E i ≤ 16)) = false := by
          by_cases q : 2 ≤ E i - pst E i
          · rw [decide_eq_true q, decide_eq_false (by omega : ¬ E i - pst E i ≤ 16)]; rfl
          · rw [decide_eq_false q]; rfl
        rw [e3] at ih'
        rw [if_pos g2]
        simp only [rX12_areSuch_68, rX12_areSuch_75, rX12_areSuch_76, rX12_areSuch_77, rX12_areSuch_80, nI_add, up2_eq, va_rf, eq_self, or_true, true_or, Option.toList_some, Option.toList_none, List.cons_append, List.nil_append, if_true, if_false]
        simp only [Bool.false_eq_true, up2_eq, va_rf, eq_self, or_true, true_or, Option.toList_some, Option.toList_none, List.cons_append, List.nil_append, if_true, if_false] at ih'
        exact ih'
theorem k_areSuch {kd : Nat} (hM : isM sh R y) (h : mB1 A y 24 c s E f) (hE : okE E c s) (hc : c ≤ 20) (hs : s ≤ 4000) (hkd : kd < 2 ^ 31) : rc_ (k + 2) mX12_areSuch [.ref y, .int (nI kd)] (mkh n u sh F R A B) Q ↔ Q (some (.int (if fitB E c kd = true then nI 1 else nI 0))) (mkh n u sh F R A B) := by
  have r4 := hM.r 1207 4 0 26 (by decide)
  have s4 := hM.s 1207 4 0 26 (by decide)
  rw [eX12_areSuch]
  unfold fitB
  by_cases c0 : kd = 0
  · subst c0
    simp only [rX12_areSuch_0, rX12_areSuch_1, rX12_areSuch_4, rX12_areSuch_5, rX12_areSuch_8, hM.1, r4, up2_eq, va_rf, eq_self, or_true, true_or, Option.toList_some, Option.toList_none, List.cons_append, List.nil_append, if_true, if_false]
    rw [rX12_areSuch_10 s4 (by decide) (by omega) (by omega), h.1]
    by_cases c1 : c ≤ 1
    · have g1 : ¬ nI 1 < nI c := nI_nlt c1 (by omega)
      simp only [rX12_areSuch_11, rX12_areSuch_12, rX12_areSuch_15, rX12_areSuch_16, g1, c1, decide_true, up2_eq, va_rf, eq_self, or_true, true_or, Option.toList_some, Option.toList_none, List.cons_append, List.nil_append, if_true, if_false]
      rw [rX12_areSuch_20 (Or.inr rfl)]
    · have g1 : nI 1 < nI c := nI_lt (by omega) (by omega)
      simp only [rX12_areSuch_11, rX12_areSuch_12, rX12_areSuch_19, g1, c1, decide_false, Bool.false_eq_true, up2_eq, va_rf, eq_self, or_true, true_or, Option.toList_some, Option.toList_none, List.cons_append, List.nil_append, if_true, if_false]
      rw [rX12_areSuch_20 (Or.inl rfl)]
  · have g0 : ¬ nI kd = nI 0 := nI_ne0 (by omega) hkd
    rw [if_neg c0]
    simp only [rX12_areSuch_0, rX12_areSuch_1, rX12_areSuch_21, rX12_areSuch_22, rX12_areSuch_25, g0, hM.1, r4, up2_eq, va_rf, eq_self, or_true, true_or, Option.toList_some, Option.toList_none, List.cons_append, List.nil_append, if_true, if_false]
    rw [rX12_areSuch_27 s4 (by decide) (by omega) (by omega), h.1]
    by_cases c1 : 0 < c
    · have g1 : ¬ nI c < nI 1 := nI_nlt c1 (by omega)
      have := l_such (k := k) (n := n) (u := u) (F := F) (B := B) (Q := Q) (x1 := .int (nI kd)) (a0 := true) hM h hE hc hs c 0 (by omega)
      have e0 : fitL E 0 = true := rfl
      rw [e0] at this
      simp only [Bool.and_self, Bool.true_and, up2_eq, va_rf, eq_self, or_true, true_or, Option.toList_some, Option.toList_none, List.cons_append, List.nil_append, if_true, if_false] at this
      rw [decide_eq_true c1, Bool.and_true]
      simp only [rX12_areSuch_28, rX12_areSuch_29, rX12_areSuch_32, rX12_areSuch_33, rX12_areSuch_36, rX12_areSuch_37, rX12_areSuch_38, rX12_areSuch_39, g1, up2_eq, va_rf, eq_self, or_true, true_or, Option.toList_some, Option.toList_none, List.cons_append, List.nil_append, if_true, if_false]
      exact this
    · have g1 : nI c < nI 1 := nI_lt (by omega) (by omega)
      have := l_such (k := k) (n := n) (u := u) (F := F) (B := B) (Q := Q) (x1 := .int (nI kd)) (a0 := false) hM h hE hc hs c 0 (by omega)
      simp only [Bool.false_and, Bool.false_eq_true, up2_eq, va_rf, eq_self, or_true, true_or, Option.toList_some, Option.toList_none, List.cons_append, List.nil_append, if_true, if_false] at this
      rw [decide_eq_false c1, Bool.and_false]
      simp only [rX12_areSuch_28, rX12_areSuch_29, rX12_areSuch_36, rX12_areSuch_37, rX12_areSuch_38, rX12_areSuch_39, g1, Bool.false_eq_true, up2_eq, va_rf, eq_self, or_true, true_or, Option.toList_some, Option.toList_none, List.cons_append, List.nil_append, if_true, if_false]
      exact this
end MCP
