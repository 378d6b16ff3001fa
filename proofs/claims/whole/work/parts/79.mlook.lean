/-! ===== the reference: books looked at, messages, counts ===== -/
section MLK
variable {k n u : Nat} {sh : hs_} {F : hF_} {R : hR_} {A : hF_} {B : hR_} {Q : Option Value → pm_H → Prop} {y : Nat} {T : TT} {b c s : Nat} {E f : Nat → Nat}
theorem k_rowLong (hM : isM sh R y) (hb : b < 26) (h : mB1 A y b c s E f) (hE : okE E c s) (hc : c ≤ 20) : rc_ k mX12_rowLong [.ref y, .int (nI b)] (mkh n u sh F R A B) Q ↔ Q (some (.int (nI s))) (mkh n u sh F R A B) := by
  have s4 := hM.s 1207 4 0 26 (by decide)
  have s5 := hM.s 1208 5 0 546 (by decide)
  have r4 := hM.r 1207 4 0 26 (by decide)
  have r5 := hM.r 1208 5 0 546 (by decide)
  have g0 : ¬ nI b = -1 := fun e => by
    have h1 := nI_toInt (n := b) (by omega)
    rw [e] at h1
    have h2 : (-1 : Int32).toInt = -1 := by decide
    omega
  rw [eX12_rowLong]
  simp only [rX12_rowLong_0, rX12_rowLong_1, rX12_rowLong_2, rX12_rowLong_5, rX12_rowLong_6, rX12_rowLong_9, hM.1, r4, g0, up2_eq, va_rf, eq_self, or_true, true_or, Option.toList_some, Option.toList_none, List.cons_append, List.nil_append, if_true, if_false]
  rw [rX12_rowLong_10 s4 (by decide) hb (by omega), h.1]
  by_cases c0 : c = 0
  · subst c0
    have e := hE.2
    have e2 : s = 0 := e.symm
    simp only [rX12_rowLong_11, rX12_rowLong_14, rX12_rowLong_15, rX12_rowLong_36, e2, up2_eq, va_rf, eq_self, or_true, true_or, Option.toList_some, Option.toList_none, List.cons_append, List.nil_append, if_true, if_false]
  · have g1 : ¬ nI c = nI 0 := nI_ne0 (by omega) (by omega)
    simp only [rX12_rowLong_11, rX12_rowLong_18, rX12_rowLong_19, rX12_rowLong_22, rX12_rowLong_24, rX12_rowLong_25, rX12_rowLong_26, rX12_rowLong_27, rX12_rowLong_30, g1, hM.1, r4, r5, pk_mul, up2_eq, va_rf, eq_self, or_true, true_or, Option.toList_some, Option.toList_none, List.cons_append, List.nil_append, if_true, if_false]
    rw [rX12_rowLong_31 s4 (by decide) hb (by omega), h.1]
    have e1 : nI (21 * b) + nI c - nI 1 = nI (21 * b + (c - 1)) := by
      rw [nI_add, pk_sub (by omega), show 21 * b + c - 1 = 21 * b + (c - 1) by omega]
    simp only [rX12_rowLong_32, rX12_rowLong_33, rX12_rowLong_34, e1, up2_eq, va_rf, eq_self, or_true, true_or, Option.toList_some, Option.toList_none, List.cons_append, List.nil_append, if_true, if_false]
    rw [rX12_rowLong_35 s5 (by decide) (by omega) (by omega), h.2.1 (c - 1) (by omega)]
    simp only [rX12_rowLong_36, up2_eq, va_rf, eq_self, or_true, true_or, Option.toList_some, Option.toList_none, List.cons_append, List.nil_append, if_true, if_false]
    have e2 := hE.2
    obtain ⟨c', rfl⟩ : ∃ c', c = c' + 1 := ⟨c - 1, by omega⟩
    have e3 : E c' = s := e2
    rw [Nat.add_sub_cancel, e3]
theorem k_rowLong0 : rc_ k mX12_rowLong [.ref y, .int (-1)] (mkh n u sh F R A B) Q ↔ Q (some (.int (nI 0))) (mkh n u sh F R A B) := by
  rw [eX12_rowLong]
  simp only [rX12_rowLong_0, rX12_rowLong_1, rX12_rowLong_2, rX12_rowLong_14, rX12_rowLong_15, rX12_rowLong_36, up2_eq, va_rf, eq_self, or_true, true_or, Option.toList_some, Option.toList_none, List.cons_append, List.nil_append, if_true, if_false]
theorem k_begin12 {q : Nat} (hM : isM sh R y) (hb : b < 26) (h : mB1 A y b c s E f) (hc : c ≤ 20) (hq : q ≤ c) : rc_ k mX12_begin [.ref y, .int (nI b), .int (nI q)] (mkh n u sh F R A B) Q ↔ Q (some (.int (nI (pst E q)))) (mkh n u sh F R A B) := by
  have s5 := hM.s 1208 5 0 546 (by decide)
  have r5 := hM.r 1208 5 0 546 (by decide)
  rw [eX12_begin]
  cases q with
  | zero =>
    simp only [rX12_begin_0, rX12_begin_1, rX12_begin_4, rX12_begin_5, rX12_begin_8, rX12_begin_9, rX12_begin_12, rX12_begin_14, rX12_begin_15, rX12_begin_16, rX12_begin_17, rX12_begin_18, rX12_begin_19, rX12_begin_20, rX12_begin_21, up2_eq, va_rf, eq_self, or_true, true_or, Option.toList_some, Option.toList_none, List.cons_append, List.nil_append, if_true, if_false]
    rfl
  | succ q =>
    have g1 : ¬ nI (q + 1) = nI 0 := nI_ne0 (by omega) (by omega)
    have e1 : nI (21 * b) + nI (q + 1) - nI 1 = nI (21 * b + q) := by
      rw [nI_add, pk_sub (by omega)]
      rfl
    simp only [rX12_begin_0, rX12_begin_1, rX12_begin_8, rX12_begin_9, rX12_begin_12, rX12_begin_14, rX12_begin_15, rX12_begin_16, rX12_begin_17, rX12_begin_18, rX12_begin_19, g1, hM.1, r5, pk_mul, e1, up2_eq, va_rf, eq_self, or_true, true_or, Option.toList_some, Option.toList_none, List.cons_append, List.nil_append, if_true, if_false]
    rw [rX12_begin_20 s5 (by decide) (by omega) (by omega), h.2.1 q (by omega)]
    simp only [rX12_begin_21, up2_eq, va_rf, eq_self, or_true, true_or, Option.toList_some, Option.toList_none, List.cons_append, List.nil_append, if_true, if_false]
    rfl
theorem k_end12 {q : Nat} (hM : isM sh R y) (hb : b < 26) (h : mB1 A y b c s E f) (hc : c ≤ 20) (hq : q < c) : rc_ k mX12_end [.ref y, .int (nI b), .int (nI q)] (mkh n u sh F R A B) Q ↔ Q (some (.int (nI (E q)))) (mkh n u sh F R A B) := by
  have s5 := hM.s 1208 5 0 546 (by decide)
  have r5 := hM.r 1208 5 0 546 (by decide)
  rw [eX12_end]
  simp only [rX12_end_0, rX12_end_1, rX12_end_4, rX12_end_6, rX12_end_7, rX12_end_8, rX12_end_9, hM.1, r5, pk_mul, nI_add, up2_eq, va_rf, eq_self, or_true, true_or, Option.toList_some, Option.toList_none, List.cons_append, List.nil_append, if_true, if_false]
  rw [rX12_end_10 s5 (by decide) (by omega) (by omega), h.2.1 q hq]
  simp only [rX12_end_11, up2_eq, va_rf, eq_self, or_true, true_or, Option.toList_some, Option.toList_none, List.cons_append, List.nil_append, if_true, if_false]
theorem k_pieceLong12 {q : Nat} (hM : isM sh R y) (hb : b < 26) (h : mB1 A y b c s E f) (hE : okE E c s) (hc : c ≤ 20) (hq : q < c) : rc_ (k + 1) mX12_pieceLong [.ref y, .int (nI b), .int (nI q)] (mkh n u sh F R A B) Q ↔ Q (some (.int (nI (E q - pst E q)))) (mkh n u sh F R A B) := by
  rw [eX12_pieceLong]
  simp only [rX12_pieceLong_0, rX12_pieceLong_1, rX12_pieceLong_2]
  rw [rX12_pieceLong_3 hM.1, k_end12 hM hb h hc hq]
  simp only [rX12_pieceLong_6, rX12_pieceLong_7, rX12_pieceLong_8, up2_eq, va_rf, eq_self, or_true, true_or, Option.toList_some, Option.toList_none, List.cons_append, List.nil_append, if_true, if_false]
  rw [rX12_pieceLong_9 hM.1, k_begin12 hM hb h hc (by omega)]
  simp only [rX12_pieceLong_12, rX12_pieceLong_13, pk_sub (hE.1 q hq), up2_eq, va_rf, eq_self, or_true, true_or, Option.toList_some, Option.toList_none, List.cons_append, List.nil_append, if_true, if_false]
/-- the piece in which a place is; d pieces from i on -/
def pat (E : Nat → Nat) (p : Nat) : Nat → Nat → Nat
  | 0, i => i
  | d + 1, i => if E i ≤ p then pat E p d (i + 1) else i
theorem pat_ear {p : Nat} : ∀ d i, ear E p d i = if pat E p d i < i + d then E (pat E p d i) else 0
  | 0, i => by
    unfold ear pat
    rw [if_neg (by omega)]
  | d + 1, i => by
    unfold ear pat
    by_cases c : p < E i
    · have c2 : ¬ E i ≤ p := by omega
      simp only [if_pos c, if_neg c2]
      rw [if_pos (by omega)]
    · have c2 : E i ≤ p := by omega
      simp only [if_neg c, if_pos c2]
      rw [pat_ear d (i + 1), show i + 1 + d = i + (d + 1) by omega]
theorem pat_le {p : Nat} : ∀ d i, pat E p d i ≤ i + d
  | 0, i => Nat.le_refl _
  | d + 1, i => by
    unfold pat
    split
    · have := pat_le (p := p) d (i + 1); omega
    · omega
theorem l_pieceAt {p : Nat} (hM : isM sh R y) (hb : b < 26) (h : mB1 A y b c s E f) (hE : okE E c s) (hs : s ≤ 4000) (hc : c ≤ 20) (hp : p < 2 ^ 31) : ∀ d i, i + d = c → (rw_ (k + 1) mX12_pieceAt 2 [.ref y, .int (nI b), .int (nI p), .int (nI i)] [] (mkh n u sh F R A B) Q ↔ Q (some (.int (nI (pat E p d i)))) (mkh n u sh F R A B)) := by
  have s4 := hM.s 1207 4 0 26 (by decide)
  have r4 := hM.r 1207 4 0 26 (by decide)
  intro d
  induction d with
  | zero =>
    intro i hi
    have e : i = c := by omega
    subst e
    have g1 : nI i ≤ nI i := nI_le (Nat.le_refl _) (by omega)
    simp only [rX12_pieceAt_2, rX12_pieceAt_3, rX12_pieceAt_4, rX12_pieceAt_7, hM.1, r4, up2_eq, va_rf, eq_self, or_true, true_or, Option.toList_some, Option.toList_none, List.cons_append, List.nil_append, if_true, if_false]
    rw [rX12_pieceAt_8 s4 (by decide) hb (by omega), h.1]
    simp only [rX12_pieceAt_9, rX12_pieceAt_28, rX12_pieceAt_29, g1, pat, up2_eq, va_rf, eq_self, or_true, true_or, Option.toList_some, Option.toList_none, List.cons_append, List.nil_append, if_true, if_false]
  | succ d ih =>
    intro i hi
    have g1 : ¬ nI c ≤ nI i := nI_ge (by omega) (by omega)
    have hEl := hE.E_le (j := i) (by omega)
    simp only [rX12_pieceAt_2, rX12_pieceAt_3, rX12_pieceAt_4, rX12_pieceAt_7, hM.1, r4, up2_eq, va_rf, eq_self, or_true, true_or, Option.toList_some, Option.toList_none, List.cons_append, List.nil_append, if_true, if_false]
    rw [rX12_pieceAt_8 s4 (by decide) hb (by omega), h.1]
    simp only [rX12_pieceAt_9, rX12_pieceAt_12, rX12_pieceAt_13, rX12_pieceAt_14, g1, up2_eq, va_rf, eq_self, or_true, true_or, Option.toList_some, Option.toList_none, List.cons_append, List.nil_append, if_true, if_false]
    rw [rX12_pieceAt_15 hM.1, k_end12 hM hb h hc (by omega)]
    unfold pat
    by_cases e : E i ≤ p
    · have g2 : ¬ nI p < nI (E i) := nI_nlt e hp
      rw [if_pos e]
      simp only [rX12_pieceAt_18, rX12_pieceAt_19, rX12_pieceAt_22, rX12_pieceAt_25, g2, nI_add, up2_eq, va_rf, eq_self, or_true, true_or, Option.toList_some, Option.toList_none, List.cons_append, List.nil_append, if_true, if_false]
      exact ih (i + 1) (by omega)
    · have g2 : nI p < nI (E i) := nI_lt (by omega) (by omega)
      rw [if_neg e]
      simp only [rX12_pieceAt_18, rX12_pieceAt_19, rX12_pieceAt_28, rX12_pieceAt_29, g2, up2_eq, va_rf, eq_self, or_true, true_or, Option.toList_some, Option.toList_none, List.cons_append, List.nil_append, if_true, if_false]
theorem k_pieceAt12 {p : Nat} (hM : isM sh R y) (hb : b < 26) (h : mB1 A y b c s E f) (hE : okE E c s) (hs : s ≤ 4000) (hc : c ≤ 20) (hp : p < 2 ^ 31) : rc_ (k + 1) mX12_pieceAt [.ref y, .int (nI b), .int (nI p)] (mkh n u sh F R A B) Q ↔ Q (some (.int (nI (pat E p c 0)))) (mkh n u sh F R A B) := by
  rw [eX12_pieceAt]
  simp only [rX12_pieceAt_0, rX12_pieceAt_1]
  exact l_pieceAt hM hb h hE hs hc hp c 0 (by omega)
theorem m_about {i w : Int32} (hM : isM sh R y) (h : MS F A y T) (hT : okT T) (hQ : mPost n u sh F R A B y (s_about T i w, T) Q) : rc_ (k + 8) mX12_about [.ref y, .int i, .int w] (mkh n u sh F R A B) Q := by
  obtain ⟨a1, a2, a3, a4, a5, a6⟩ := id h
  have hq := hQ _ _ (MS_th (v := nI 0) h hT) (frM_F (by decide))
  have h24 := hT.2.2.2.1.1
  have e05 : up2 F 1200 y (nI 0) 1205 y = nI (T.1 2 0) := by rw [up2_k (by decide)]; exact a2.1
  rw [eX12_about]
  simp only [rX12_about_0, rX12_about_1, rX12_about_2, rX12_about_5, rX12_about_6, hM.1, up2_eq, va_rf, eq_self, or_true, true_or, Option.toList_some, Option.toList_none, List.cons_append, List.nil_append, if_true, if_false]
  rw [rX12_about_7 hM.1, k_isBook hM e05 h24]
  unfold s_about at hq
  cases hi : ix i (T.1 2 0) with
  | none =>
    rw [hi] at hq
    simp only [rX12_about_10, rX12_about_13, rX12_about_15, up2_eq, va_rf, eq_self, or_true, true_or, Option.toList_some, Option.toList_none, List.cons_append, List.nil_append, if_true, if_false]
    exact hq
  | some b =>
    rw [hi] at hq
    obtain ⟨hb, -, rfl⟩ := ix_some hi
    obtain ⟨b1, b2, v1, v2, v3, v4, v5, v6⟩ := a2.2.2.1 b hb
    obtain ⟨o1, o2, o3, o4⟩ := hT.2.2.2.1.2.1 b (Or.inl hb)
    dsimp only at hq
    have g : ¬ nI 1 = nI 0 := by decide
    rw [if_neg (by simp)]
    simp only [rX12_about_10, rX12_about_16, rX12_about_17, g, up2_eq, va_rf, eq_self, or_true, true_or, Option.toList_some, Option.toList_none, List.cons_append, List.nil_append, if_true, if_false]
    by_cases w0 : w = nI 0
    · rw [if_pos w0] at hq ⊢
      simp only [rX12_about_56, rX12_about_57, rX12_about_60, hM.1, hM.r 1206 3 0 26 (by decide), up2_eq, va_rf, eq_self, or_true, true_or, Option.toList_some, Option.toList_none, List.cons_append, List.nil_append, if_true, if_false]
      rw [rX12_about_61 (hM.s 1206 3 0 26 (by decide)) (by decide) (by omega) (by omega), b1]
      simp only [rX12_about_62, up2_eq, va_rf, eq_self, or_true, true_or, Option.toList_some, Option.toList_none, List.cons_append, List.nil_append, if_true, if_false]
      exact hq
    rw [if_neg w0] at hq ⊢
    by_cases w0 : w = nI 1
    · rw [if_pos w0] at hq ⊢
      simp only [rX12_about_63, rX12_about_64, rX12_about_67, hM.1, hM.r 1207 4 0 26 (by decide), up2_eq, va_rf, eq_self, or_true, true_or, Option.toList_some, Option.toList_none, List.cons_append, List.nil_append, if_true, if_false]
      rw [rX12_about_68 (hM.s 1207 4 0 26 (by decide)) (by decide) (by omega) (by omega), b2.1]
      simp only [rX12_about_69, up2_eq, va_rf, eq_self, or_true, true_or, Option.toList_some, Option.toList_none, List.cons_append, List.nil_append, if_true, if_false]
      exact hq
    rw [if_neg w0] at hq ⊢
    by_cases w0 : w = nI 2
    · rw [if_pos w0] at hq ⊢
      simp only [rX12_about_70, rX12_about_71, up2_eq, va_rf, eq_self, or_true, true_or, Option.toList_some, Option.toList_none, List.cons_append, List.nil_append, if_true, if_false]
      rw [rX12_about_72 hM.1, k_rowLong hM (by omega) b2 o1.1 o1.2.1]
      simp only [rX12_about_75, up2_eq, va_rf, eq_self, or_true, true_or, Option.toList_some, Option.toList_none, List.cons_append, List.nil_append, if_true, if_false]
      exact hq
    rw [if_neg w0] at hq ⊢
    by_cases w0 : w = nI 3
    · rw [if_pos w0] at hq ⊢
      simp only [rX12_about_76, rX12_about_77, rX12_about_80, hM.1, hM.r 1210 7 0 24 (by decide), up2_eq, va_rf, eq_self, or_true, true_or, Option.toList_some, Option.toList_none, List.cons_append, List.nil_append, if_true, if_false]
      rw [rX12_about_81 (hM.s 1210 7 0 24 (by decide)) (by decide) (by omega) (by omega), v1]
      simp only [rX12_about_82, up2_eq, va_rf, eq_self, or_true, true_or, Option.toList_some, Option.toList_none, List.cons_append, List.nil_append, if_true, if_false]
      exact hq
    rw [if_neg w0] at hq ⊢
    by_cases w0 : w = nI 4
    · rw [if_pos w0] at hq ⊢
      simp only [rX12_about_83, rX12_about_84, rX12_about_87, hM.1, hM.r 1211 8 1 24 (by decide), up2_eq, va_rf, eq_self, or_true, true_or, Option.toList_some, Option.toList_none, List.cons_append, List.nil_append, if_true, if_false]
      rw [rX12_about_88 (hM.s 1211 8 1 24 (by decide)) (by omega) (by omega), v2]
      by_cases e : T.1 19 b = 0
      · rw [e] at hq ⊢
        simp only [rX12_about_89, rX12_about_96, rX12_about_97, up2_eq, va_rf, eq_self, or_true, true_or, Option.toList_some, Option.toList_none, List.cons_append, List.nil_append, if_true, if_false]
        exact hq
      · have e1 : T.1 19 b = 1 := by omega
        rw [e1] at hq ⊢
        simp only [rX12_about_89, rX12_about_92, rX12_about_93, rX12_about_97, g, up2_eq, va_rf, eq_self, or_true, true_or, Option.toList_some, Option.toList_none, List.cons_append, List.nil_append, if_true, if_false]
        exact hq
    rw [if_neg w0] at hq ⊢
    by_cases w0 : w = nI 5
    · rw [if_pos w0] at hq ⊢
      simp only [rX12_about_98, rX12_about_99, rX12_about_102, hM.1, hM.r 1214 11 0 25 (by decide), up2_eq, va_rf, eq_self, or_true, true_or, Option.toList_some, Option.toList_none, List.cons_append, List.nil_append, if_true, if_false]
      rw [rX12_about_103 (hM.s 1214 11 0 25 (by decide)) (by decide) (by omega) (by omega), v5]
      simp only [rX12_about_104, up2_eq, va_rf, eq_self, or_true, true_or, Option.toList_some, Option.toList_none, List.cons_append, List.nil_append, if_true, if_false]
      exact hq
    rw [if_neg w0] at hq ⊢
    simp only [rX12_about_105, rX12_about_107, up2_eq, va_rf, eq_self, or_true, true_or, Option.toList_some, Option.toList_none, List.cons_append, List.nil_append, if_true, if_false]
    exact hq
theorem m_isOf {i w : Int32} (hM : isM sh R y) (h : MS F A y T) (hT : okT T) (hQ : mPost n u sh F R A B y (s_isOf T i w, T) Q) : rc_ (k + 8) mX12_isOf [.ref y, .int i, .int w] (mkh n u sh F R A B) Q := by
  obtain ⟨a1, a2, a3, a4, a5, a6⟩ := id h
  have hq := hQ _ _ (MS_th (v := nI 0) h hT) (frM_F (by decide))
  have h24 := hT.2.2.2.1.1
  have e05 : up2 F 1200 y (nI 0) 1205 y = nI (T.1 2 0) := by rw [up2_k (by decide)]; exact a2.1
  rw [eX12_isOf]
  simp only [rX12_isOf_0, rX12_isOf_1, rX12_isOf_2, rX12_isOf_5, rX12_isOf_6, hM.1, up2_eq, va_rf, eq_self, or_true, true_or, Option.toList_some, Option.toList_none, List.cons_append, List.nil_append, if_true, if_false]
  rw [rX12_isOf_7 hM.1, k_isBook hM e05 h24]
  unfold s_isOf at hq
  cases hi : ix i (T.1 2 0) with
  | none =>
    rw [hi] at hq
    simp only [rX12_isOf_10, rX12_isOf_22, rX12_isOf_24, up2_eq, va_rf, eq_self, or_true, true_or, Option.toList_some, Option.toList_none, List.cons_append, List.nil_append, if_true, if_false]
    exact hq
  | some b =>
    rw [hi] at hq
    obtain ⟨hb, -, rfl⟩ := ix_some hi
    obtain ⟨b1, -⟩ := a2.2.2.1 b hb
    dsimp only at hq
    have g : ¬ nI 1 = nI 0 := by decide
    rw [if_neg (by simp)]
    simp only [rX12_isOf_10, rX12_isOf_13, rX12_isOf_14, rX12_isOf_15, g, up2_eq, va_rf, eq_self, or_true, true_or, Option.toList_some, Option.toList_none, List.cons_append, List.nil_append, if_true, if_false]
    rw [rX12_isOf_16, k_in]
    by_cases c : w < nI 0 ∨ nI 2 < w
    · rw [if_pos c] at hq ⊢
      simp only [rX12_isOf_19, rX12_isOf_22, rX12_isOf_24, up2_eq, va_rf, eq_self, or_true, true_or, Option.toList_some, Option.toList_none, List.cons_append, List.nil_append, if_true, if_false]
      exact hq
    · rw [if_neg c] at hq ⊢
      simp only [rX12_isOf_19, rX12_isOf_25, rX12_isOf_26, rX12_isOf_29, g, hM.1, hM.r 1206 3 0 26 (by decide), up2_eq, va_rf, eq_self, or_true, true_or, Option.toList_some, Option.toList_none, List.cons_append, List.nil_append, if_true, if_false]
      rw [rX12_isOf_30 (hM.s 1206 3 0 26 (by decide)) (by decide) (by omega) (by omega), b1]
      by_cases c3 : nI (T.1 3 b) < w
      · rw [if_pos c3] at hq
        simp only [rX12_isOf_31, rX12_isOf_32, rX12_isOf_39, rX12_isOf_40, c3, up2_eq, va_rf, eq_self, or_true, true_or, Option.toList_some, Option.toList_none, List.cons_append, List.nil_append, if_true, if_false]
        exact hq
      · rw [if_neg c3] at hq
        simp only [rX12_isOf_31, rX12_isOf_32, rX12_isOf_35, rX12_isOf_36, rX12_isOf_40, c3, up2_eq, va_rf, eq_self, or_true, true_or, Option.toList_some, Option.toList_none, List.cons_append, List.nil_append, if_true, if_false]
        exact hq
theorem m_part {i w : Int32} (hM : isM sh R y) (h : MS F A y T) (hT : okT T) (hQ : mPost n u sh F R A B y (s_part T i w, T) Q) : rc_ (k + 8) mX12_part [.ref y, .int i, .int w] (mkh n u sh F R A B) Q := by
  obtain ⟨a1, a2, a3, a4, a5, a6⟩ := id h
  have hq := hQ _ _ (MS_th (v := nI 0) h hT) (frM_F (by decide))
  obtain ⟨np, n0, n1, n2, n3⟩ := a3.2.2.1
  obtain ⟨p1, p2, p3, p4, p5⟩ := hT.2.2.2.2.1
  rw [eX12_part]
  unfold s_part at hq
  by_cases c1 : i < nI 0
  · rw [if_pos (Or.inl c1)] at hq
    simp only [rX12_part_0, rX12_part_1, rX12_part_2, rX12_part_5, rX12_part_6, rX12_part_18, rX12_part_20, hM.1, c1, up2_eq, va_rf, eq_self, or_true, true_or, Option.toList_some, Option.toList_none, List.cons_append, List.nil_append, if_true, if_false]
    exact hq
  simp only [rX12_part_0, rX12_part_1, rX12_part_2, rX12_part_5, rX12_part_6, rX12_part_9, rX12_part_10, rX12_part_11, hM.1, c1, up2_eq, va_rf, eq_self, or_true, true_or, Option.toList_some, Option.toList_none, List.cons_append, List.nil_append, if_true, if_false]
  rw [rX12_part_12, k_in]
  by_cases c2 : w < nI 0 ∨ nI 2 < w
  · rw [if_pos (Or.inr c2)] at hq
    rw [if_pos c2]
    simp only [rX12_part_15, rX12_part_18, rX12_part_20, up2_eq, va_rf, eq_self, or_true, true_or, Option.toList_some, Option.toList_none, List.cons_append, List.nil_append, if_true, if_false]
    exact hq
  rw [if_neg (fun e => e.elim c1 c2)] at hq
  have g : ¬ nI 1 = nI 0 := by decide
  rw [if_neg c2]
  have e41 : up2 F 1200 y (nI 0) 1241 y = nI np := by rw [up2_k (by decide)]; exact n1
  obtain ⟨j, hj, rfl⟩ := nI_of c1
  have hsop : ∀ q, q < np → q ≤ sop (T.1 22) (T.1 15 0) q := by
    intro q
    induction q with
    | zero => intro _; exact Nat.zero_le _
    | succ q ih =>
      intro hq
      have h1 := ih (by omega)
      have h2 := (n3 q (by omega)).1
      have h3 := (p5 _ h2).1
      show q + 1 ≤ (if sop (T.1 22) (T.1 15 0) q < T.1 15 0 then sop (T.1 22) (T.1 15 0) q + T.1 22 (sop (T.1 22) (T.1 15 0) q) else sop (T.1 22) (T.1 15 0) q)
      rw [if_pos h2]
      omega
  simp only [rX12_part_15, rX12_part_21, rX12_part_22, rX12_part_23, rX12_part_26, g, hM.1, e41, up2_eq, va_rf, eq_self, or_true, true_or, Option.toList_some, Option.toList_none, List.cons_append, List.nil_append, if_true, if_false]
  by_cases c3 : j < np
  · obtain ⟨m1, m2, m3, m4⟩ := n3 j c3
    have hjm := hsop j c3
    have g3 : nI j < nI np := nI_lt c3 (by omega)
    rw [ix_nI (show j < T.1 15 0 by omega) hj (by omega)] at hq
    dsimp only at hq
    rw [if_pos m1] at hq
    simp only [rX12_part_31, rX12_part_32, g3, up2_eq, va_rf, eq_self, or_true, true_or, Option.toList_some, Option.toList_none, List.cons_append, List.nil_append, if_true, if_false]
    by_cases w0 : w = nI 0
    · rw [if_pos w0] at hq ⊢
      simp only [rX12_part_35, rX12_part_36, rX12_part_39, hM.1, hM.r 1242 28 0 120 (by decide), up2_eq, va_rf, eq_self, or_true, true_or, Option.toList_some, Option.toList_none, List.cons_append, List.nil_append, if_true, if_false]
      rw [rX12_part_40 (hM.s 1242 28 0 120 (by decide)) (by decide) (by omega) (by omega), m2]
      simp only [rX12_part_41, rX12_part_64, up2_eq, va_rf, eq_self, or_true, true_or, Option.toList_some, Option.toList_none, List.cons_append, List.nil_append, if_true, if_false]
      exact hq
    rw [if_neg w0] at hq ⊢
    simp only [rX12_part_44, rX12_part_45, rX12_part_46, up2_eq, va_rf, eq_self, or_true, true_or, Option.toList_some, Option.toList_none, List.cons_append, List.nil_append, if_true, if_false]
    by_cases w0 : w = nI 1
    · rw [if_pos w0] at hq ⊢
      simp only [rX12_part_49, rX12_part_50, rX12_part_53, hM.1, hM.r 1243 29 0 120 (by decide), up2_eq, va_rf, eq_self, or_true, true_or, Option.toList_some, Option.toList_none, List.cons_append, List.nil_append, if_true, if_false]
      rw [rX12_part_54 (hM.s 1243 29 0 120 (by decide)) (by decide) (by omega) (by omega), m3]
      simp only [rX12_part_55, rX12_part_64, up2_eq, va_rf, eq_self, or_true, true_or, Option.toList_some, Option.toList_none, List.cons_append, List.nil_append, if_true, if_false]
      exact hq
    rw [if_neg w0] at hq ⊢
    simp only [rX12_part_58, rX12_part_59, rX12_part_62, hM.1, hM.r 1244 30 0 120 (by decide), up2_eq, va_rf, eq_self, or_true, true_or, Option.toList_some, Option.toList_none, List.cons_append, List.nil_append, if_true, if_false]
    rw [rX12_part_63 (hM.s 1244 30 0 120 (by decide)) (by decide) (by omega) (by omega), m4]
    simp only [rX12_part_64, up2_eq, va_rf, eq_self, or_true, true_or, Option.toList_some, Option.toList_none, List.cons_append, List.nil_append, if_true, if_false]
    exact hq
  · have g3 : ¬ nI j < nI np := nI_nlt (by omega) hj
    simp only [rX12_part_29, rX12_part_30, g3, up2_eq, va_rf, eq_self, or_true, true_or, Option.toList_some, Option.toList_none, List.cons_append, List.nil_append, if_true, if_false]
    have hend := sop_end (ln := T.1 22) (m := T.1 15 0) (j := np) (by omega) (j - np)
    rw [show np + (j - np) = j by omega, n2] at hend
    cases hi : ix (nI j) (T.1 15 0) with
    | none =>
      rw [hi] at hq
      exact hq
    | some q =>
      rw [hi] at hq
      obtain ⟨q1, q2, q3⟩ := ix_some hi
      have : q = j := ((nI_eq hj q2).mp q3).symm
      subst this
      dsimp only at hq
      rw [hend, if_neg (Nat.lt_irrefl _)] at hq
      exact hq
end MLK
