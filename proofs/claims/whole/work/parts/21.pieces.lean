/-! ===== widths, books, messages, pieces ===== -/
def wd (n : Nat) : Nat := if n = 0 then 0 else Nat.log2 n + 1
theorem wd_0 : wd 0 = 0 := rfl
theorem wd_s {n : Nat} (h : 0 < n) : wd n = wd (n / 2) + 1 := by
  unfold wd
  rw [if_neg (by omega)]
  by_cases h2 : n < 2
  · have e : n = 1 := by omega
    subst e
    decide
  · rw [if_neg (by omega), Nat.log2_def, if_pos (by omega)]
theorem wd_le : ∀ (m n : Nat), n < 2 ^ m → wd n ≤ m
  | 0, n, h => by
    have e : n = 0 := by omega
    subst e
    decide
  | m + 1, n, h => by
    by_cases h0 : n = 0
    · subst h0; rw [wd_0]; omega
    · rw [wd_s (by omega)]
      have := wd_le m (n / 2) (by rw [Nat.pow_succ] at h; omega)
      omega
theorem l_width {k : Nat} {hp : pm_H} {x : Value} {Q : Option Value → pm_H → Prop} : ∀ (m a b : Nat), a ≤ m → a < 2 ^ 31 → b + wd a < 2 ^ 31 → (rw_ k mX11_width 4 [x, .int (nI b), .int (nI a)] [] hp Q ↔ Q (some (.int (nI (b + wd a)))) hp) := by
  intro m
  induction m with
  | zero =>
    intro a b h1 h2 h3
    have e : a = 0 := by omega
    subst e
    have h4 : nI 0 ≤ nI 0 := nI_le (Nat.le_refl _) (by omega)
    simp only [rX11_width_4, rX11_width_5, rX11_width_18, rX11_width_19, h4, up2_eq, va_rf, eq_self, or_true, true_or, Option.toList_some, Option.toList_none, List.cons_append, List.nil_append, if_true, if_false]
    rfl
  | succ m ih =>
    intro a b h1 h2 h3
    by_cases h0 : a = 0
    · subst h0
      have h4 : nI 0 ≤ nI 0 := nI_le (Nat.le_refl _) (by omega)
      simp only [rX11_width_4, rX11_width_5, rX11_width_18, rX11_width_19, h4, up2_eq, va_rf, eq_self, or_true, true_or, Option.toList_some, Option.toList_none, List.cons_append, List.nil_append, if_true, if_false]
      rfl
    · have h4 : ¬ nI a ≤ nI 0 := nI_ge (by omega) (by omega)
      rw [wd_s (by omega)] at h3
      simp only [rX11_width_4, rX11_width_5, rX11_width_8, rX11_width_11, rX11_width_12, rX11_width_13, rX11_width_14, h4, nI_add, up2_eq, va_rf, eq_self, or_true, true_or, Option.toList_some, Option.toList_none, List.cons_append, List.nil_append, if_true, if_false]
      rw [pk_shrN h2 _ 1 (by decide)]
      simp only [rX11_width_15]
      rw [ih (a / 2 ^ 1) (b + 1) (by omega) (by omega) (by rw [show a / 2 ^ 1 = a / 2 from rfl]; omega), wd_s (n := a) (by omega), show a / 2 ^ 1 = a / 2 from rfl, show b + 1 + wd (a / 2) = b + (wd (a / 2) + 1) by omega]
theorem k_width {k a : Nat} {hp : pm_H} {Q : Option Value → pm_H → Prop} (h : a < 2 ^ 31) : rc_ k mX11_width [.int (nI a)] hp Q ↔ Q (some (.int (nI (wd a)))) hp := by
  rw [eX11_width]
  simp only [rX11_width_0, rX11_width_1, rX11_width_2, rX11_width_3]
  have := wd_le 31 a h
  rw [l_width a a 0 (Nat.le_refl _) h (by omega), Nat.zero_add]
/-- G -/
def gm (n : Nat) : Nat := 2 * wd n - 1
theorem k_gamma {k a : Nat} {hp : pm_H} {Q : Option Value → pm_H → Prop} (h0 : 0 < a) (h : a < 2 ^ 31) : rc_ (k + 1) mX11_gamma [.int (nI a)] hp Q ↔ Q (some (.int (nI (gm a)))) hp := by
  rw [eX11_gamma]
  have h4 : ¬ nI a ≤ nI 0 := nI_ge h0 (by omega)
  simp only [rX11_gamma_0, rX11_gamma_1, rX11_gamma_4, rX11_gamma_5, h4, up2_eq, va_rf, eq_self, or_true, true_or, Option.toList_some, Option.toList_none, List.cons_append, List.nil_append, if_true, if_false]
  rw [rX11_gamma_6, k_width h]
  have h5 : 1 ≤ 2 * wd a := by rw [wd_s h0]; omega
  simp only [rX11_gamma_0, rX11_gamma_1, rX11_gamma_4, rX11_gamma_5, rX11_gamma_6, rX11_gamma_9, rX11_gamma_10, rX11_gamma_11, rX11_gamma_12, rX11_gamma_15, rX11_gamma_16, pk_mul, up2_eq, va_rf, eq_self, or_true, true_or, Option.toList_some, Option.toList_none, List.cons_append, List.nil_append, if_true, if_false]
  rw [pk_sub h5]
  rfl
section BOOK
variable {k n u : Nat} {sh : hs_} {F : hF_} {R : hR_} {A : hF_} {B : hR_} {o : Nat} {Q : Option Value → pm_H → Prop}
/-- what releaseIfSettled does -/
def rel (F : hF_) (o : Nat) : hF_ := if F 6 o = nI 0 then F else if F 8 o < F 7 o then F else up2 F 5 o (nI 0)
theorem k_Book_rel (ho : sh o = some (0, 0, 0)) : rc_ k mX0_releaseIfSettled [.ref o] (mkh n u sh F R A B) Q ↔ Q none (mkh n u sh (rel F o) R A B) := by
  rw [eX0_releaseIfSettled]
  unfold rel
  by_cases h1 : F 6 o = nI 0
  · simp only [rX0_releaseIfSettled_0, rX0_releaseIfSettled_1, rX0_releaseIfSettled_4, rX0_releaseIfSettled_7, rX0_releaseIfSettled_8, rX0_releaseIfSettled_11, rX0_releaseIfSettled_12, rX0_releaseIfSettled_15, rX0_releaseIfSettled_18, rX0_releaseIfSettled_19, rX0_releaseIfSettled_20, rX0_releaseIfSettled_23, ho, h1, up2_eq, va_rf, eq_self, or_true, true_or, Option.toList_some, Option.toList_none, List.cons_append, List.nil_append, if_true, if_false]
  · simp only [rX0_releaseIfSettled_0, rX0_releaseIfSettled_1, rX0_releaseIfSettled_4, rX0_releaseIfSettled_7, rX0_releaseIfSettled_8, rX0_releaseIfSettled_11, rX0_releaseIfSettled_12, rX0_releaseIfSettled_15, ho, h1, up2_eq, va_rf, eq_self, or_true, true_or, Option.toList_some, Option.toList_none, List.cons_append, List.nil_append, if_true, if_false]
    by_cases h2 : F 8 o < F 7 o
    · simp only [rX0_releaseIfSettled_0, rX0_releaseIfSettled_1, rX0_releaseIfSettled_4, rX0_releaseIfSettled_7, rX0_releaseIfSettled_8, rX0_releaseIfSettled_11, rX0_releaseIfSettled_12, rX0_releaseIfSettled_15, rX0_releaseIfSettled_18, rX0_releaseIfSettled_19, rX0_releaseIfSettled_20, rX0_releaseIfSettled_23, h2, up2_eq, va_rf, eq_self, or_true, true_or, Option.toList_some, Option.toList_none, List.cons_append, List.nil_append, if_true, if_false]
    · simp only [rX0_releaseIfSettled_0, rX0_releaseIfSettled_1, rX0_releaseIfSettled_4, rX0_releaseIfSettled_7, rX0_releaseIfSettled_8, rX0_releaseIfSettled_11, rX0_releaseIfSettled_12, rX0_releaseIfSettled_15, rX0_releaseIfSettled_18, rX0_releaseIfSettled_19, rX0_releaseIfSettled_20, rX0_releaseIfSettled_23, ho, h2, up2_eq, va_rf, eq_self, or_true, true_or, Option.toList_some, Option.toList_none, List.cons_append, List.nil_append, if_true, if_false]
theorem k_Book_isRanked (ho : sh o = some (0, 0, 0)) : rc_ k mX0_isRanked [.ref o] (mkh n u sh F R A B) Q ↔ Q (some (.int (if F 1 o = nI 2 then nI 1 else nI 0))) (mkh n u sh F R A B) := by
  rw [eX0_isRanked]
  by_cases h1 : F 1 o = nI 2
  · simp only [rX0_isRanked_0, rX0_isRanked_1, rX0_isRanked_4, rX0_isRanked_5, rX0_isRanked_8, rX0_isRanked_9, rX0_isRanked_12, rX0_isRanked_13, ho, h1, up2_eq, va_rf, eq_self, or_true, true_or, Option.toList_some, Option.toList_none, List.cons_append, List.nil_append, if_true, if_false]
  · simp only [rX0_isRanked_0, rX0_isRanked_1, rX0_isRanked_4, rX0_isRanked_5, rX0_isRanked_8, rX0_isRanked_9, rX0_isRanked_12, rX0_isRanked_13, ho, h1, up2_eq, va_rf, eq_self, or_true, true_or, Option.toList_some, Option.toList_none, List.cons_append, List.nil_append, if_true, if_false]
theorem k_Book_hold (ho : sh o = some (0, 0, 0)) : rc_ k mX0_hold [.ref o] (mkh n u sh F R A B) Q ↔ Q none (mkh n u sh (up2 (up2 F 5 o (nI 1)) 6 o (nI 0)) R A B) := by
  rw [eX0_hold]
  simp only [rX0_hold_0, rX0_hold_1, rX0_hold_2, rX0_hold_5, rX0_hold_6, rX0_hold_7, rX0_hold_10, ho, up2_eq, va_rf, eq_self, or_true, true_or, Option.toList_some, Option.toList_none, List.cons_append, List.nil_append, if_true, if_false]
theorem k_Book_await {x : Int32} (ho : sh o = some (0, 0, 0)) : rc_ (k + 1) mX0_awaitLetters [.ref o, .int x] (mkh n u sh F R A B) Q ↔ Q none (mkh n u sh (rel (up2 (up2 F 6 o (nI 1)) 7 o x) o) R A B) := by
  rw [eX0_awaitLetters]
  simp only [rX0_awaitLetters_0, rX0_awaitLetters_1, rX0_awaitLetters_2, rX0_awaitLetters_5, rX0_awaitLetters_6, rX0_awaitLetters_7, rX0_awaitLetters_10, ho, up2_eq, va_rf, eq_self, or_true, true_or, Option.toList_some, Option.toList_none, List.cons_append, List.nil_append, if_true, if_false]
  rw [rX0_awaitLetters_11 ho, k_Book_rel ho]
  simp only [rX0_awaitLetters_14, up2_eq, va_rf, eq_self, or_true, true_or, Option.toList_some, Option.toList_none, List.cons_append, List.nil_append, if_true, if_false]
theorem k_Book_settle (ho : sh o = some (0, 0, 0)) : rc_ (k + 1) mX0_settleLetter [.ref o] (mkh n u sh F R A B) Q ↔ Q none (mkh n u sh (rel (up2 F 8 o (F 8 o + nI 1)) o) R A B) := by
  rw [eX0_settleLetter]
  simp only [rX0_settleLetter_0, rX0_settleLetter_1, rX0_settleLetter_2, rX0_settleLetter_5, rX0_settleLetter_6, rX0_settleLetter_7, rX0_settleLetter_10, ho, up2_eq, va_rf, eq_self, or_true, true_or, Option.toList_some, Option.toList_none, List.cons_append, List.nil_append, if_true, if_false]
  rw [rX0_settleLetter_11 ho, k_Book_rel ho]
  simp only [rX0_settleLetter_14, up2_eq, va_rf, eq_self, or_true, true_or, Option.toList_some, Option.toList_none, List.cons_append, List.nil_append, if_true, if_false]
theorem k_Book_init {x y : Int32} {p : Nat} (ho : sh o = some (0, 0, 0)) : rc_ (k + 1) mX0_init [.ref o, .int x, .int y, .ref p] (mkh n u sh F R A B) Q ↔ Q none (mkh n u sh (up2 (up2 (up2 F 3 o (nI 0)) 0 o x) 1 o y) (up2 R 2 o (some p)) A B) := by
  rw [eX0_init]
  simp only [rX0_init_0, rX0_init_1, rX0_init_4, rX0_init_5, rX0_init_6, rX0_init_9, rX0_init_10, rX0_init_11, rX0_init_14, rX0_init_15, rX0_init_16, rX0_init_19, rX0_init_20, rX0_init_20_n, rX0_init_21, rX0_init_24, ho, up2_eq, va_rf, eq_self, or_true, true_or, Option.toList_some, Option.toList_none, List.cons_append, List.nil_append, if_true, if_false]
theorem k_Message_init {x y : Int32} {p q : Nat} (ho : sh o = some (0, 3, 0)) : rc_ (k + 1) mX3_init [.ref o, .int x, .ref p, .int y, .ref q] (mkh n u sh F R A B) Q ↔ Q none (mkh n u sh (up2 (up2 (up2 (up2 F 304 o (nI 1)) 305 o (nI 0)) 300 o x) 302 o y) (up2 (up2 R 301 o (some p)) 303 o (some q)) A B) := by
  rw [eX3_init]
  simp only [rX3_init_0, rX3_init_1, rX3_init_4, rX3_init_5, rX3_init_6, rX3_init_9, rX3_init_10, rX3_init_11, rX3_init_14, rX3_init_15, rX3_init_16, rX3_init_19, rX3_init_20, rX3_init_20_n, rX3_init_21, rX3_init_24, rX3_init_25, rX3_init_26, rX3_init_29, rX3_init_30, rX3_init_30_n, rX3_init_32, rX3_init_35, ho, up2_eq, va_rf, eq_self, or_true, true_or, Option.toList_some, Option.toList_none, List.cons_append, List.nil_append, if_true, if_false]
/-- Pieces at o: their row, a Bytes at r (places at v, z of them, s used), their ends at e (ze places), c of them, being E -/
def isP (sh : hs_) (F : hF_) (R : hR_) (A : hF_) (o r v z s e ze c : Nat) (E : Nat → Nat) : Prop :=
  sh o = some (0, 5, 0) ∧ R 500 o = some r ∧ R 501 o = some e ∧ sh e = some (1, 0, ze) ∧ ze < 2 ^ 30 ∧ F 502 o = nI c ∧ c ≤ ze ∧ (∀ j, j < c → A e j = nI (E j)) ∧ isB sh F R r v z s
/-- where a piece begins -/
def pst (E : Nat → Nat) (j : Nat) : Nat := match j with
  | 0 => 0
  | j + 1 => E j
/-- the ends go up to the size of the row -/
def okE (E : Nat → Nat) (c s : Nat) : Prop := (∀ j, j < c → pst E j ≤ E j) ∧ pst E c = s
theorem okE.le {E : Nat → Nat} {c s : Nat} (h : okE E c s) : ∀ d j, j + d = c → pst E j ≤ s
  | 0, j, e => by rw [show j = c by omega, h.2]; exact Nat.le_refl _
  | d + 1, j, e => by
    have h1 := h.1 j (by omega)
    have h2 := okE.le h d (j + 1) (by omega)
    exact Nat.le_trans h1 h2
theorem okE.pst_le {E : Nat → Nat} {c s j : Nat} (h : okE E c s) (hj : j ≤ c) : pst E j ≤ s := h.le (c - j) j (by omega)
theorem okE.E_le {E : Nat → Nat} {c s j : Nat} (h : okE E c s) (hj : j < c) : E j ≤ s := h.pst_le (j := j + 1) hj
variable {r v z s e ze c : Nat} {E : Nat → Nat}
theorem k_Pieces_start {j : Nat} (hp : isP sh F R A o r v z s e ze c E) (hj : j ≤ c) : rc_ k mX5_start [.ref o, .int (nI j)] (mkh n u sh F R A B) Q ↔ Q (some (.int (nI (pst E j)))) (mkh n u sh F R A B) := by
  obtain ⟨h1, h2, h3, h4, h5, h6, h7, h8, h9⟩ := hp
  rw [eX5_start]
  cases j with
  | zero =>
    have h0 : nI 0 ≤ nI 0 := nI_le (Nat.le_refl _) (by omega)
    simp only [rX5_start_0, rX5_start_1, rX5_start_4, rX5_start_5, rX5_start_6, rX5_start_9, rX5_start_12, rX5_start_13, rX5_start_16, rX5_start_17, rX5_start_18, rX5_start_19, rX5_start_20, rX5_start_23, rX5_start_24, h0, up2_eq, va_rf, eq_self, or_true, true_or, Option.toList_some, Option.toList_none, List.cons_append, List.nil_append, if_true, if_false]
    rfl
  | succ j =>
    have h0 : ¬ nI (j + 1) ≤ nI 0 := nI_ge (by omega) (by omega)
    have h10 : ¬ nI c < nI (j + 1) := nI_nlt hj (by omega)
    have h11 : nI (j + 1) - nI 1 = nI j := by rw [pk_sub (by omega)]; rfl
    simp only [rX5_start_0, rX5_start_1, rX5_start_4, rX5_start_5, rX5_start_6, rX5_start_9, rX5_start_12, rX5_start_13, rX5_start_16, rX5_start_17, rX5_start_18, h0, h1, h3, h6, h10, h11, up2_eq, va_rf, eq_self, or_true, true_or, Option.toList_some, Option.toList_none, List.cons_append, List.nil_append, if_true, if_false]
    rw [rX5_start_19 h4 (by decide) (by omega) (by omega), h8 j (by omega)]
    simp only [rX5_start_0, rX5_start_1, rX5_start_4, rX5_start_5, rX5_start_6, rX5_start_9, rX5_start_12, rX5_start_13, rX5_start_16, rX5_start_17, rX5_start_18, rX5_start_19, rX5_start_20, rX5_start_23, rX5_start_24]
    rfl
theorem k_Pieces_end {j : Nat} (hp : isP sh F R A o r v z s e ze c E) (hj : j < c) : rc_ k mX5_end [.ref o, .int (nI j)] (mkh n u sh F R A B) Q ↔ Q (some (.int (nI (E j)))) (mkh n u sh F R A B) := by
  obtain ⟨h1, h2, h3, h4, h5, h6, h7, h8, h9⟩ := hp
  rw [eX5_end]
  have h0 : ¬ nI j < nI 0 := nI_nlt (Nat.zero_le _) (by omega)
  have h10 : ¬ nI c ≤ nI j := nI_ge hj (by omega)
  simp only [rX5_end_0, rX5_end_1, rX5_end_4, rX5_end_5, rX5_end_6, rX5_end_9, rX5_end_12, rX5_end_13, rX5_end_16, h0, h1, h3, h6, h10, up2_eq, va_rf, eq_self, or_true, true_or, Option.toList_some, Option.toList_none, List.cons_append, List.nil_append, if_true, if_false]
  rw [rX5_end_17 h4 (by decide) (by omega) (by omega), h8 j hj]
  simp only [rX5_end_0, rX5_end_1, rX5_end_4, rX5_end_5, rX5_end_6, rX5_end_9, rX5_end_12, rX5_end_13, rX5_end_16, rX5_end_17, rX5_end_18, rX5_end_21, rX5_end_22]
theorem k_Pieces_length {j : Nat} (hp : isP sh F R A o r v z s e ze c E) (hE : okE E c s) (hj : j < c) : rc_ k mX5_length [.ref o, .int (nI j)] (mkh n u sh F R A B) Q ↔ Q (some (.int (nI (E j - pst E j)))) (mkh n u sh F R A B) := by
  obtain ⟨h1, h2, h3, h4, h5, h6, h7, h8, h9⟩ := hp
  rw [eX5_length]
  have h0 : ¬ nI j < nI 0 := nI_nlt (Nat.zero_le _) (by omega)
  have h10 : nI j < nI c := nI_lt hj (by omega)
  simp only [rX5_length_0, rX5_length_1, rX5_length_4, rX5_length_5, rX5_length_6, rX5_length_9, rX5_length_12, rX5_length_13, rX5_length_14, h0, h1, h6, h10, up2_eq, va_rf, eq_self, or_true, true_or, Option.toList_some, Option.toList_none, List.cons_append, List.nil_append, if_true, if_false]
  cases j with
  | zero =>
    simp only [rX5_length_15, rX5_length_18, rX5_length_19, rX5_length_22, h1, h3, up2_eq, va_rf, eq_self, or_true, true_or, Option.toList_some, Option.toList_none, List.cons_append, List.nil_append, if_true, if_false]
    rw [rX5_length_23 h4 (by decide) (by omega) (by omega), h8 0 hj]
    simp only [rX5_length_0, rX5_length_1, rX5_length_4, rX5_length_5, rX5_length_6, rX5_length_9, rX5_length_12, rX5_length_13, rX5_length_14, rX5_length_15, rX5_length_18, rX5_length_19, rX5_length_22, rX5_length_23, rX5_length_24, rX5_length_27, rX5_length_28, rX5_length_31, rX5_length_32, rX5_length_33, rX5_length_34, rX5_length_37, rX5_length_38, rX5_length_39, rX5_length_40, rX5_length_41, rX5_length_42]
    rfl
  | succ j =>
    have h12 : ¬ nI (j + 1) = nI 0 := nI_ne0 (by omega) (by omega)
    have h11 : nI (j + 1) - nI 1 = nI j := by rw [pk_sub (by omega)]; rfl
    simp only [rX5_length_15, rX5_length_18, rX5_length_19, rX5_length_22, rX5_length_23, rX5_length_24, rX5_length_27, rX5_length_28, rX5_length_31, h12, h1, h3, up2_eq, va_rf, eq_self, or_true, true_or, Option.toList_some, Option.toList_none, List.cons_append, List.nil_append, if_true, if_false]
    rw [rX5_length_32 h4 (by decide) (by omega) (by omega), h8 (j + 1) hj]
    simp only [rX5_length_33, rX5_length_34, rX5_length_37, rX5_length_38, rX5_length_39, h1, h3, h11, up2_eq, va_rf, eq_self, or_true, true_or, Option.toList_some, Option.toList_none, List.cons_append, List.nil_append, if_true, if_false]
    rw [rX5_length_40 h4 (by decide) (by omega) (by omega), h8 j (by omega)]
    have h13 := hE.1 (j + 1) hj
    simp only [rX5_length_41, rX5_length_42]
    rw [pk_sub (show E j ≤ E (j + 1) from h13)]
    rfl
theorem k_Pieces_clear (hp : isP sh F R A o r v z s e ze c E) : rc_ (k + 1) mX5_clear [.ref o] (mkh n u sh F R A B) Q ↔ Q none (mkh n u sh (up2 (up2 F 101 r (nI 0)) 502 o (nI 0)) R A B) := by
  obtain ⟨h1, h2, h3, h4, h5, h6, h7, h8, h9⟩ := hp
  rw [eX5_clear]
  simp only [rX5_clear_0, rX5_clear_1, h1, h2, up2_eq, va_rf, eq_self, or_true, true_or, Option.toList_some, Option.toList_none, List.cons_append, List.nil_append, if_true, if_false]
  rw [rX5_clear_4 h9.1, k_Bytes_clear h9.1]
  simp only [rX5_clear_0, rX5_clear_1, rX5_clear_4, rX5_clear_7, rX5_clear_8, rX5_clear_9, rX5_clear_12, h1, up2_eq, va_rf, eq_self, or_true, true_or, Option.toList_some, Option.toList_none, List.cons_append, List.nil_append, if_true, if_false]
end BOOK
