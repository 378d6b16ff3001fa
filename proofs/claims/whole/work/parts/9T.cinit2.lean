/-! ===== the class: shelf, reader, wire, trainer are made ===== -/
section CI2
variable {k n u : Nat} {sh : hs_} {F : hF_} {R : hR_} {A : hF_} {B : hR_} {Q : Option Value → pm_H → Prop} {o : Nat}
/-- cells below o + 1 stay; of o itself the references may be others -/
def frO (o : Nat) (sh : hs_) (F : hF_) (R : hR_) (A : hF_) (B : hR_) (sh' : hs_) (F' : hF_) (R' : hR_) (A' : hF_) (B' : hR_) : Prop := (∀ a, a < o + 1 → sh' a = sh a) ∧ (∀ q a, a < o + 1 → F' q a = F q a) ∧ (∀ q a, a < o → R' q a = R q a) ∧ (∀ a, a < o + 1 → A' a = A a) ∧ ∀ a, a < o + 1 → B' a = B a
theorem k_Shelf_init (ho : sh o = some (0, 7, 0))
    (hQ : ∀ u' sh' F' R' A' B', frO o sh F R A B sh' F' R' A' B' → (R' 700 o = some (o + 1) ∧ R' 702 o = some (o + 2) ∧ R' 2 (o + 2) = some (o + 3) ∧ R' 500 (o + 3) = some (o + 4) ∧ R' 501 (o + 3) = some (o + 6) ∧ R' 100 (o + 4) = some (o + 5)) → (sh' (o + 1) = some (2, 0, 24) ∧ sh' (o + 2) = some (0, 0, 0) ∧ sh' (o + 3) = some (0, 5, 0) ∧ sh' (o + 4) = some (0, 1, 0) ∧ sh' (o + 5) = some (1, 0, 0) ∧ sh' (o + 6) = some (1, 0, 0)) → (bkV F' (o + 2) (-1) 2 1 0 0 0 0 ∧ F' 1 (o + 2) = nI 0 ∧ F' 502 (o + 3) = nI 0 ∧ F' 101 (o + 4) = nI 0) → u' ≤ u + 60 → Q none (mkh (o + 7) u' sh' F' R' A' B')) :
    rc_ (k + 3) mX7_init [.ref o] (mkh (o + 1) u sh F R A B) Q := by
  rw [eX7_init]
  simp only [rX7_init_0, rX7_init_1, rX7_init_4, rX7_init_5]
  have e1 : up1 sh (o + 1) (some (2, 0, 24)) o = some (0, 7, 0) := by rw [up1_ne (by omega)]; exact ho
  rw [rX7_init_7 (by decide), rX7_init_10 e1]
  simp only [rX7_init_13, rX7_init_14, rX7_init_17, rX7_init_18, rX7_init_19, rX7_init_20, rX7_init_23, rX7_init_24, rX7_init_25]
  rw [rX7_init_26, k_Pieces_init up1_eq (by omega) (by decide) (by decide)]
  simp only [up2_eq, va_rf, eq_self, or_true, true_or, Option.toList_some, Option.toList_none, List.cons_append, List.nil_append, if_true, if_false]
  obtain ⟨SH, hSH⟩ : ∃ SH : hs_, SH = up1 (up1 (up1 (up1 (up1 (up1 sh (o + 1) (some (2, 0, 24))) (o + 1 + 1) (some (0, 0, 0))) (o + 1 + 1 + 1) (some (0, 5, 0))) (o + 1 + 1 + 1 + 1) (some (0, 1, 0))) (o + 1 + 1 + 1 + 1 + 1) (some (1, 0, 0))) (o + 1 + 1 + 1 + 1 + 2) (some (1, 0, 0)) := ⟨_, rfl⟩
  rw [← hSH]
  have c0 : ∀ a, a < o + 1 → SH a = sh a := fun a ha => by rw [hSH, up1_ne (by omega), up1_ne (by omega), up1_ne (by omega), up1_ne (by omega), up1_ne (by omega), up1_ne (by omega)]
  have c1 : SH (o + 1) = some (2, 0, 24) := by rw [hSH, up1_ne (by omega), up1_ne (by omega), up1_ne (by omega), up1_ne (by omega), up1_ne (by omega), up1_eq]
  have c2 : SH (o + 1 + 1) = some (0, 0, 0) := by rw [hSH, up1_ne (by omega), up1_ne (by omega), up1_ne (by omega), up1_ne (by omega), up1_eq]
  have c3 : SH (o + 3) = some (0, 5, 0) := by rw [hSH, up1_ne (by omega), up1_ne (by omega), up1_ne (by omega), up1_eq]
  have c4 : SH (o + 4) = some (0, 1, 0) := by rw [hSH, up1_ne (by omega), up1_ne (by omega), up1_eq]
  have c5 : SH (o + 5) = some (1, 0, 0) := by rw [hSH, up1_ne (by omega), up1_eq]
  have c6 : SH (o + 6) = some (1, 0, 0) := by rw [hSH, up1_eq]
  have co : SH o = some (0, 7, 0) := by rw [c0 o (by omega)]; exact ho
  rw [rX7_init_29, k_Book_init c2]
  simp only [rX7_init_32, rX7_init_35, rX7_init_36, rX7_init_39, rX7_init_40, rX7_init_43, rX7_init_44, rX7_init_47, rX7_init_48, rX7_init_51, co, c2, up2_eq, va_rf, eq_self, or_true, true_or, Option.toList_some, Option.toList_none, List.cons_append, List.nil_append, if_true, if_false]
  refine hQ _ _ _ _ _ _ ⟨c0, fun q a ha => ?_, fun q a ha => ?_, fun a ha => ?_, fun a ha => ?_⟩ ⟨?_, ?_, ?_, ?_, ?_, ?_⟩ ⟨c1, c2, c3, c4, c5, c6⟩ ⟨⟨?_, ?_, ?_, ?_, ?_, ?_, ?_⟩, ?_, ?_, ?_⟩ (by omega)
  · rw [up2_o (by omega), up2_o (by omega), up2_o (by omega), up2_o (by omega), up2_o (by omega), zap_ne (by omega), zap_ne (by omega), zap_ne (by omega)]
  · rw [up2_o (by omega), up2_o (by omega), up2_o (by omega), up2_o (by omega), up2_o (by omega), zap_ne (by omega), zap_ne (by omega), zap_ne (by omega), up2_o (by omega)]
  · rw [up1_ne (by omega), up1_ne (by omega)]
  · rw [up1_ne (by omega)]
  · rw [up2_o (by omega), up2_o (by omega), up2_o (by omega), up2_o (by omega), up2_o (by omega), zap_ne (by omega), zap_ne (by omega), zap_ne (by omega), up2_eq]
  · rw [up2_eq]
  · rw [up2_o (by omega), up2_eq]
  · rw [up2_o (by omega), up2_o (by omega), up2_o (by omega), up2_eq]
  · rw [up2_o (by omega), up2_o (by omega), up2_eq]
  · rw [up2_o (by omega), up2_o (by omega), up2_o (by omega), up2_o (by omega), up2_eq]
  · rw [up2_k (by decide), up2_k (by decide), up2_k (by decide), up2_eq]
  · rw [up2_k (by decide), up2_eq]
  · rw [up2_k (by decide), up2_k (by decide), up2_k (by decide), up2_k (by decide), up2_k (by decide), zap_ne (by omega), zap_ne (by omega), zap_eq]
  · rw [up2_eq]
  · rw [up2_k (by decide), up2_k (by decide), up2_k (by decide), up2_k (by decide), up2_k (by decide), zap_ne (by omega), zap_ne (by omega), zap_eq]; rfl
  · rw [up2_k (by decide), up2_k (by decide), up2_k (by decide), up2_k (by decide), up2_k (by decide), zap_ne (by omega), zap_ne (by omega), zap_eq]
  · rw [up2_k (by decide), up2_k (by decide), up2_k (by decide), up2_k (by decide), up2_k (by decide), zap_ne (by omega), zap_ne (by omega), zap_eq]
  · rw [up2_k (by decide), up2_k (by decide), up2_eq]
  · rw [up2_k (by decide), up2_k (by decide), up2_k (by decide), up2_k (by decide), up2_k (by decide), zap_ne (by omega), zap_eq]; rfl
  · rw [up2_k (by decide), up2_k (by decide), up2_k (by decide), up2_k (by decide), up2_k (by decide), zap_eq]; rfl
theorem k_Reader_init {sp : Nat} (ho : sh o = some (0, 6, 0))
    (hQ : ∀ u' sh' F' R' A' B', frO o sh F R A B sh' F' R' A' B' → (R' 600 o = some sp ∧ R' 601 o = some (o + 1) ∧ R' 100 (o + 1) = some (o + 2)) → (sh' (o + 1) = some (0, 1, 0) ∧ sh' (o + 2) = some (1, 0, 120)) → F' 101 (o + 1) = nI 0 → u' ≤ u + 130 → Q none (mkh (o + 3) u' sh' F' R' A' B')) :
    rc_ (k + 2) mX6_init [.ref o, .ref sp] (mkh (o + 1) u sh F R A B) Q := by
  rw [eX6_init]
  simp only [rX6_init_0, rX6_init_1, rX6_init_4, rX6_init_5, rX6_init_8, rX6_init_9]
  rw [rX6_init_11, k_Bytes_init up1_eq (by omega) (by decide)]
  have co : up1 (up1 sh (o + 1) (some (0, 1, 0))) (o + 1 + 1) (some (1, 0, 120)) o = some (0, 6, 0) := by rw [up1_ne (by omega), up1_ne (by omega)]; exact ho
  simp only [rX6_init_14, rX6_init_17, rX6_init_18, rX6_init_18_n, rX6_init_19, rX6_init_22, co, up2_eq, va_rf, eq_self, or_true, true_or, Option.toList_some, Option.toList_none, List.cons_append, List.nil_append, if_true, if_false]
  refine hQ _ _ _ _ _ _ ⟨fun a ha => ?_, fun q a ha => ?_, fun q a ha => ?_, fun a ha => ?_, fun a ha => rfl⟩ ⟨up2_eq, ?_, ?_⟩ ⟨?_, up1_eq⟩ ?_ (by omega)
  · rw [up1_ne (by omega), up1_ne (by omega)]
  · rw [zap_ne (by omega)]
  · rw [up2_o (by omega), up2_o (by omega), up2_o (by omega), zap_ne (by omega)]
  · rw [up1_ne (by omega)]
  · rw [up2_k (by decide), up2_eq]
  · rw [up2_k (by decide), up2_k (by decide), up2_eq]
  · rw [up1_ne (by omega), up1_eq]
  · rw [zap_eq]; rfl
theorem k_Wire_init {sp : Nat} (ho : sh o = some (0, 9, 0)) (h903 : R 903 o = none)
    (hQ : ∀ u' sh' F' R' A' B', frO o sh F R A B sh' F' R' A' B' → (R' 900 o = some sp ∧ R' 901 o = some (o + 1) ∧ R' 902 o = some (o + 2) ∧ R' 100 (o + 2) = some (o + 3) ∧ R' 903 o = none) → (sh' (o + 1) = some (2, 3, 200) ∧ sh' (o + 2) = some (0, 1, 0) ∧ sh' (o + 3) = some (1, 0, 0)) → u' ≤ u + 210 → Q none (mkh (o + 4) u' sh' F' R' A' B')) :
    rc_ (k + 2) mX9_init [.ref o, .ref sp] (mkh (o + 1) u sh F R A B) Q := by
  rw [eX9_init]
  simp only [rX9_init_0, rX9_init_1, rX9_init_4, rX9_init_5]
  have e1 : up1 sh (o + 1) (some (2, 3, 200)) o = some (0, 9, 0) := by rw [up1_ne (by omega)]; exact ho
  rw [rX9_init_8 (by decide), rX9_init_11 e1]
  simp only [rX9_init_14, rX9_init_15, rX9_init_18, rX9_init_19]
  rw [rX9_init_20, k_Bytes_init up1_eq (by omega) (by decide)]
  have co : up1 (up1 (up1 sh (o + 1) (some (2, 3, 200))) (o + 1 + 1) (some (0, 1, 0))) (o + 1 + 1 + 1) (some (1, 0, 0)) o = some (0, 9, 0) := by rw [up1_ne (by omega), up1_ne (by omega)]; exact e1
  simp only [rX9_init_23, rX9_init_26, rX9_init_27, rX9_init_27_n, rX9_init_28, rX9_init_31, co, up2_eq, va_rf, eq_self, or_true, true_or, Option.toList_some, Option.toList_none, List.cons_append, List.nil_append, if_true, if_false]
  refine hQ _ _ _ _ _ _ ⟨fun a ha => ?_, fun q a ha => ?_, fun q a ha => ?_, fun a ha => ?_, fun a ha => ?_⟩ ⟨up2_eq, ?_, ?_, ?_, ?_⟩ ⟨?_, ?_, up1_eq⟩ (by omega)
  · rw [up1_ne (by omega), up1_ne (by omega), up1_ne (by omega)]
  · rw [zap_ne (by omega)]
  · rw [up2_o (by omega), up2_o (by omega), up2_o (by omega), zap_ne (by omega), up2_o (by omega)]
  · rw [up1_ne (by omega)]
  · rw [up1_ne (by omega)]
  · rw [up2_k (by decide), up2_k (by decide), up2_k (by decide), zap_ne (by omega), up2_eq]
  · rw [up2_k (by decide), up2_eq]
  · rw [up2_k (by decide), up2_k (by decide), up2_eq]
  · rw [up2_k (by decide), up2_k (by decide), up2_k (by decide), zap_ne (by omega), up2_k (by decide)]; exact h903
  · rw [up1_ne (by omega), up1_ne (by omega), up1_eq]
  · rw [up1_ne (by omega), up1_eq]
/-- the trainer's samples, one after the other -/
def tI1 (o i : Nat) (sh : hs_) (F : hF_) (R : hR_) (A : hF_) (B : hR_) (sh' : hs_) (F' : hF_) (R' : hR_) (A' : hF_) (B' : hR_) : Prop := (∀ a, a < o + 9 → sh' a = sh a) ∧ (∀ q a, a < o + 9 → F' q a = F q a) ∧ (∀ q a, a < o + 9 → R' q a = R q a) ∧ (∀ a, a < o + 9 → A' a = A a) ∧ (∀ a, a < o + 9 → a ≠ o + 1 → B' a = B a) ∧ ∀ j, j < i → sh' (o + 9 + 2 * j) = some (0, 1, 0) ∧ sh' (o + 10 + 2 * j) = some (1, 0, 40) ∧ R' 100 (o + 9 + 2 * j) = some (o + 10 + 2 * j) ∧ B' (o + 1) j = some (o + 9 + 2 * j)
theorem l_tI1 {x1 : Value} (ho : sh o = some (0, 8, 0)) (h1 : sh (o + 1) = some (2, 1, 8)) (hr : R 801 o = some (o + 1))
    (hQ : ∀ u' sh' F' R' A' B' x2, tI1 o 8 sh F R A B sh' F' R' A' B' → u' ≤ u + 336 → rw_ (k + 2) mX8_init 87 [.ref o, x1, x2] [] (mkh (o + 25) u' sh' F' R' A' B') Q) :
    ∀ d i n1 u1 sh1 F1 R1 A1 B1, i + d = 8 → n1 = o + 9 + 2 * i → u1 ≤ u + 42 * i → tI1 o i sh F R A B sh1 F1 R1 A1 B1 → rw_ (k + 2) mX8_init 60 [.ref o, x1, .int (nI i)] [] (mkh n1 u1 sh1 F1 R1 A1 B1) Q := by
  intro d
  induction d with
  | zero =>
    intro i n1 u1 sh1 F1 R1 A1 B1 hi hn hu h
    have e : i = 8 := by omega
    subst e
    have en : n1 = o + 25 := by omega
    subst en
    have g1 : nI 8 ≤ nI 8 := by decide
    simp only [rX8_init_60, rX8_init_61, rX8_init_63, g1, up2_eq, va_rf, eq_self, or_true, true_or, Option.toList_some, Option.toList_none, List.cons_append, List.nil_append, if_true, if_false]
    exact hQ _ _ _ _ _ _ _ h (by omega)
  | succ d ih =>
    intro i n1 u1 sh1 F1 R1 A1 B1 hi hn hu h
    subst hn
    obtain ⟨f1, f2, f3, f4, f5, f6⟩ := h
    have g1 : ¬ nI 8 ≤ nI i := nI_ge (by omega) (by omega)
    have e0 : sh1 o = some (0, 8, 0) := by rw [f1 _ (by omega)]; exact ho
    have er : R1 801 o = some (o + 1) := by rw [f3 _ _ (by omega)]; exact hr
    simp only [rX8_init_60, rX8_init_61, rX8_init_63, rX8_init_66, rX8_init_67, rX8_init_70, rX8_init_71, rX8_init_74, rX8_init_75, g1, e0, er, up2_eq, va_rf, eq_self, or_true, true_or, Option.toList_some, Option.toList_none, List.cons_append, List.nil_append, if_true, if_false]
    rw [rX8_init_77, k_Bytes_init up1_eq (by omega) (by decide)]
    have e1 : up1 (up1 sh1 (o + 9 + 2 * i) (some (0, 1, 0))) (o + 9 + 2 * i + 1) (some (1, 0, 40)) (o + 1) = some (2, 1, 8) := by rw [up1_ne (by omega), up1_ne (by omega), f1 _ (by omega)]; exact h1
    have e2 : up1 (up1 sh1 (o + 9 + 2 * i) (some (0, 1, 0))) (o + 9 + 2 * i + 1) (some (1, 0, 40)) (o + 9 + 2 * i) = some (0, 1, 0) := by rw [up1_ne (by omega), up1_eq]
    simp only [up2_eq, va_rf, eq_self, or_true, true_or, Option.toList_some, Option.toList_none, List.cons_append, List.nil_append, if_true, if_false]
    rw [rX8_init_80 e1 e2 (by omega) (by omega)]
    simp only [rX8_init_81, rX8_init_84, nI_add, up2_eq, va_rf, eq_self, or_true, true_or, Option.toList_some, Option.toList_none, List.cons_append, List.nil_append, if_true, if_false]
    refine ih (i + 1) _ _ _ _ _ _ _ (by omega) (by omega) (by omega) ⟨fun a ha => ?_, fun q a ha => ?_, fun q a ha => ?_, fun a ha => ?_, fun a ha hne => ?_, fun j hj => ?_⟩
    · rw [up1_ne (by omega), up1_ne (by omega)]; exact f1 a ha
    · rw [zap_ne (by omega)]; exact f2 q a ha
    · rw [up2_o (by omega), zap_ne (by omega)]; exact f3 q a ha
    · rw [up1_ne (by omega)]; exact f4 a ha
    · rw [up2_row (by omega)]; exact f5 a ha hne
    · by_cases z : j = i
      · subst z
        refine ⟨e2, ?_, ?_, up2_eq⟩
        · rw [show o + 10 + 2 * j = o + 9 + 2 * j + 1 by omega, up1_eq]
        · rw [up2_eq, show o + 10 + 2 * j = o + 9 + 2 * j + 1 by omega]
      · obtain ⟨c1, c2, c3, c4⟩ := f6 j (by omega)
        refine ⟨?_, ?_, ?_, ?_⟩
        · rw [up1_ne (by omega), up1_ne (by omega)]; exact c1
        · rw [up1_ne (by omega), up1_ne (by omega)]; exact c2
        · rw [up2_o (by omega), zap_ne (by omega)]; exact c3
        · rw [up2_a z]; exact c4
def tI2 (o i : Nat) (sh : hs_) (F : hF_) (R : hR_) (A : hF_) (B : hR_) (sh' : hs_) (F' : hF_) (R' : hR_) (A' : hF_) (B' : hR_) : Prop := (∀ a, a < o + 26 → sh' a = sh a) ∧ (∀ q a, a < o + 26 → F' q a = F q a) ∧ (∀ q a, a < o + 26 → R' q a = R q a) ∧ (∀ a, a < o + 26 → A' a = A a) ∧ (∀ a, a < o + 26 → a ≠ o + 2 → B' a = B a) ∧ ∀ j, j < i → sh' (o + 26 + j) = some (0, 2, 0) ∧ B' (o + 2) j = some (o + 26 + j)
theorem k_Cand_init {p : Nat} (ho : sh o = some (0, 2, 0)) : rc_ (k + 1) mX2_init [.ref o, .ref p] (mkh n u sh F R A B) Q ↔ Q none (mkh n u sh F (up2 R 200 o (some p)) A B) := by
  rw [eX2_init]
  simp only [rX2_init_0, rX2_init_1, rX2_init_4, rX2_init_5, rX2_init_5_n, rX2_init_6, rX2_init_9, ho, up2_eq, va_rf, eq_self, or_true, true_or, Option.toList_some, Option.toList_none, List.cons_append, List.nil_append, if_true, if_false]
theorem l_tI2 {x1 : Value} (ho : sh o = some (0, 8, 0)) (h1 : sh (o + 1) = some (2, 1, 8)) (h2 : sh (o + 2) = some (2, 2, 8)) (hr : R 801 o = some (o + 1)) (hr3 : R 803 o = some (o + 2)) (hB : B (o + 1) 0 = some (o + 9))
    (hQ : ∀ u' sh' F' R' A' B', tI2 o 8 sh F R A B sh' F' R' A' B' → u' ≤ u + 40 → Q none (mkh (o + 34) u' sh' F' R' A' B')) :
    ∀ d i n1 u1 sh1 F1 R1 A1 B1, i + d = 8 → n1 = o + 26 + i → u1 ≤ u + 5 * i → tI2 o i sh F R A B sh1 F1 R1 A1 B1 → rw_ (k + 2) mX8_init 106 [.ref o, x1, .int (nI i)] [] (mkh n1 u1 sh1 F1 R1 A1 B1) Q := by
  intro d
  induction d with
  | zero =>
    intro i n1 u1 sh1 F1 R1 A1 B1 hi hn hu h
    have e : i = 8 := by omega
    subst e
    have en : n1 = o + 34 := by omega
    subst en
    have g1 : nI 8 ≤ nI 8 := by decide
    simp only [rX8_init_106, rX8_init_107, rX8_init_109, rX8_init_137, g1, up2_eq, va_rf, eq_self, or_true, true_or, Option.toList_some, Option.toList_none, List.cons_append, List.nil_append, if_true, if_false]
    exact hQ _ _ _ _ _ _ h (by omega)
  | succ d ih =>
    intro i n1 u1 sh1 F1 R1 A1 B1 hi hn hu h
    subst hn
    obtain ⟨f1, f2, f3, f4, f5, f6⟩ := h
    have g1 : ¬ nI 8 ≤ nI i := nI_ge (by omega) (by omega)
    have e0 : up1 sh1 (o + 26 + i) (some (0, 2, 0)) o = some (0, 8, 0) := by rw [up1_ne (by omega), f1 _ (by omega)]; exact ho
    have e0' : sh1 o = some (0, 8, 0) := by rw [f1 _ (by omega)]; exact ho
    have er : zap R1 (o + 26 + i) none 801 o = some (o + 1) := by rw [zap_ne (by omega), f3 _ _ (by omega)]; exact hr
    have er3 : R1 803 o = some (o + 2) := by rw [f3 _ _ (by omega)]; exact hr3
    have e1 : up1 sh1 (o + 26 + i) (some (0, 2, 0)) (o + 1) = some (2, 1, 8) := by rw [up1_ne (by omega), f1 _ (by omega)]; exact h1
    have e2 : up1 sh1 (o + 26 + i) (some (0, 2, 0)) (o + 2) = some (2, 2, 8) := by rw [up1_ne (by omega), f1 _ (by omega)]; exact h2
    have eB : B1 (o + 1) 0 = some (o + 9) := by rw [f5 _ (by omega) (by omega)]; exact hB
    simp only [rX8_init_106, rX8_init_107, rX8_init_109, rX8_init_112, rX8_init_113, rX8_init_116, rX8_init_117, rX8_init_120, rX8_init_121, rX8_init_122, rX8_init_125, g1, e0', er3, e0, er, up2_eq, va_rf, eq_self, or_true, true_or, Option.toList_some, Option.toList_none, List.cons_append, List.nil_append, if_true, if_false]
    rw [rX8_init_126 e1 (by omega) (by omega), eB]
    simp only [up2_eq, va_rf, eq_self, or_true, true_or, Option.toList_some, Option.toList_none, List.cons_append, List.nil_append, if_true, if_false]
    rw [rX8_init_127, k_Cand_init up1_eq]
    simp only [up2_eq, va_rf, eq_self, or_true, true_or, Option.toList_some, Option.toList_none, List.cons_append, List.nil_append, if_true, if_false]
    rw [rX8_init_130 e2 up1_eq (by omega) (by omega)]
    simp only [rX8_init_131, rX8_init_134, nI_add, up2_eq, va_rf, eq_self, or_true, true_or, Option.toList_some, Option.toList_none, List.cons_append, List.nil_append, if_true, if_false]
    refine ih (i + 1) _ _ _ _ _ _ _ (by omega) (by omega) (by omega) ⟨fun a ha => ?_, fun q a ha => ?_, fun q a ha => ?_, fun a ha => f4 a ha, fun a ha hne => ?_, fun j hj => ?_⟩
    · rw [up1_ne (by omega)]; exact f1 a ha
    · rw [zap_ne (by omega)]; exact f2 q a ha
    · rw [up2_o (by omega), zap_ne (by omega)]; exact f3 q a ha
    · rw [up2_row hne]; exact f5 a ha hne
    · by_cases z : j = i
      · subst z
        exact ⟨up1_eq, up2_eq⟩
      · obtain ⟨c1, c4⟩ := f6 j (by omega)
        exact ⟨by rw [up1_ne (by omega)]; exact c1, by rw [up2_a z]; exact c4⟩
end CI2
