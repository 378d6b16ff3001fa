/-! ===== the reference: runs, whole pieces, offers ===== -/
section MRN
variable {k n u : Nat} {sh : hs_} {F : hF_} {R : hR_} {A A' : hF_} {B : hR_} {Q : Option Value → pm_H → Prop} {y : Nat} {b c s m : Nat} {E f : Nat → Nat} {bi : Int32} {rk : Bool} {lf : Nat → Int32}
theorem l_toldLong {i p : Nat} (hM : isM sh R y) (hb : b < 26) (h : mB1 A y b c s E f) (hs : s ≤ 4000) (h32 : F 1232 y = nI m) (hm : m ≤ 120) (hi : i < m) (he : ear E p c 0 ≤ s) (hp : p < ear E p c 0) (hl : ∀ j, j < m → A (y + 22) j = lf j) : ∀ d t, t + d = cpl (fun j => lf (i + j)) (fun j => fI f (p + j)) (min (m - i) (ear E p c 0 - p)) → (rw_ k mX12_toldLong 16 [.ref y, .int (nI b), .int (nI i), .int (nI p), .int (nI (ear E p c 0)), .int (nI t)] [] (mkh n u sh F R A B) Q ↔ Q (some (.int (nI (tol lf (fI f) m c E i p)))) (mkh n u sh F R A B)) := by
  have r22 := hM.r 1231 22 0 240 (by decide)
  have s22 := hM.s 1231 22 0 240 (by decide)
  have r6 := hM.r 1209 6 0 104000 (by decide)
  have s6 := hM.s 1209 6 0 104000 (by decide)
  have hle := cpl_le (f := fun j => lf (i + j)) (g := fun j => fI f (p + j)) (min (m - i) (ear E p c 0 - p))
  have hne := cpl_ne (f := fun j => lf (i + j)) (g := fun j => fI f (p + j)) (min (m - i) (ear E p c 0 - p))
  have heq := cpl_eq (f := fun j => lf (i + j)) (g := fun j => fI f (p + j)) (min (m - i) (ear E p c 0 - p))
  intro d
  induction d with
  | zero =>
    intro t ht
    have e : t = tol lf (fI f) m c E i p := by unfold tol; omega
    rw [← e]
    rw [Nat.add_zero] at ht
    rw [← ht] at hle hne
    by_cases c1 : m ≤ i + t
    · have g1 : nI m ≤ nI (i + t) := nI_le c1 (by omega)
      simp only [rX12_toldLong_16, rX12_toldLong_17, rX12_toldLong_19, rX12_toldLong_20, rX12_toldLong_21, rX12_toldLong_24, rX12_toldLong_69, rX12_toldLong_71, hM.1, h32, nI_add, g1, up2_eq, va_rf, eq_self, or_true, true_or, Option.toList_some, Option.toList_none, List.cons_append, List.nil_append, if_true, if_false]
    · have g1 : ¬ nI m ≤ nI (i + t) := nI_ge (by omega) (by omega)
      by_cases c2 : ear E p c 0 ≤ p + t
      · have g2 : nI (ear E p c 0) ≤ nI (p + t) := nI_le c2 (by omega)
        simp only [rX12_toldLong_16, rX12_toldLong_17, rX12_toldLong_19, rX12_toldLong_20, rX12_toldLong_21, rX12_toldLong_24, rX12_toldLong_27, rX12_toldLong_28, rX12_toldLong_30, rX12_toldLong_31, rX12_toldLong_33, rX12_toldLong_69, rX12_toldLong_71, hM.1, h32, nI_add, g1, g2, up2_eq, va_rf, eq_self, or_true, true_or, Option.toList_some, Option.toList_none, List.cons_append, List.nil_append, if_true, if_false]
      · have g2 : ¬ nI (ear E p c 0) ≤ nI (p + t) := nI_ge (by omega) (by omega)
        have h3 := hne (by omega)
        simp only [rX12_toldLong_16, rX12_toldLong_17, rX12_toldLong_19, rX12_toldLong_20, rX12_toldLong_21, rX12_toldLong_24, rX12_toldLong_27, rX12_toldLong_28, rX12_toldLong_30, rX12_toldLong_31, rX12_toldLong_33, rX12_toldLong_36, rX12_toldLong_37, rX12_toldLong_40, rX12_toldLong_41, rX12_toldLong_43, hM.1, h32, nI_add, g1, g2, r22, up2_eq, va_rf, eq_self, or_true, true_or, Option.toList_some, Option.toList_none, List.cons_append, List.nil_append, if_true, if_false]
        rw [rX12_toldLong_44 s22 (by decide) (by omega) (by omega), hl _ (by omega)]
        simp only [rX12_toldLong_45, rX12_toldLong_46, rX12_toldLong_49, rX12_toldLong_52, rX12_toldLong_53, rX12_toldLong_54, rX12_toldLong_55, rX12_toldLong_56, rX12_toldLong_58, hM.1, r6, pk_mul, nI_add, up2_eq, va_rf, eq_self, or_true, true_or, Option.toList_some, Option.toList_none, List.cons_append, List.nil_append, if_true, if_false]
        rw [rX12_toldLong_59 s6 (by decide) (by omega) (by omega), show 4000 * b + p + t = 4000 * b + (p + t) by omega, h.2.2 _ (by omega)]
        have h4 : ¬ lf (i + t) = nI (f (p + t)) := h3
        simp only [rX12_toldLong_60, rX12_toldLong_69, rX12_toldLong_71, h4, up2_eq, va_rf, eq_self, or_true, true_or, Option.toList_some, Option.toList_none, List.cons_append, List.nil_append, if_true, if_false]
  | succ d ih =>
    intro t ht
    have h3 : lf (i + t) = nI (f (p + t)) := heq t (by omega)
    have g1 : ¬ nI m ≤ nI (i + t) := nI_ge (by omega) (by omega)
    have g2 : ¬ nI (ear E p c 0) ≤ nI (p + t) := nI_ge (by omega) (by omega)
    simp only [rX12_toldLong_16, rX12_toldLong_17, rX12_toldLong_19, rX12_toldLong_20, rX12_toldLong_21, rX12_toldLong_24, rX12_toldLong_27, rX12_toldLong_28, rX12_toldLong_30, rX12_toldLong_31, rX12_toldLong_33, rX12_toldLong_36, rX12_toldLong_37, rX12_toldLong_40, rX12_toldLong_41, rX12_toldLong_43, hM.1, h32, nI_add, g1, g2, r22, up2_eq, va_rf, eq_self, or_true, true_or, Option.toList_some, Option.toList_none, List.cons_append, List.nil_append, if_true, if_false]
    rw [rX12_toldLong_44 s22 (by decide) (by omega) (by omega), hl _ (by omega)]
    simp only [rX12_toldLong_45, rX12_toldLong_46, rX12_toldLong_49, rX12_toldLong_52, rX12_toldLong_53, rX12_toldLong_54, rX12_toldLong_55, rX12_toldLong_56, rX12_toldLong_58, hM.1, r6, pk_mul, nI_add, up2_eq, va_rf, eq_self, or_true, true_or, Option.toList_some, Option.toList_none, List.cons_append, List.nil_append, if_true, if_false]
    rw [rX12_toldLong_59 s6 (by decide) (by omega) (by omega), show 4000 * b + p + t = 4000 * b + (p + t) by omega, h.2.2 _ (by omega)]
    simp only [rX12_toldLong_60, rX12_toldLong_63, rX12_toldLong_66, h3, nI_add, up2_eq, va_rf, eq_self, or_true, true_or, Option.toList_some, Option.toList_none, List.cons_append, List.nil_append, if_true, if_false]
    exact ih (t + 1) (by omega)
theorem pat_at {p : Nat} (hE : okE E c s) (hp : p < s) : pat E p c 0 < c ∧ E (pat E p c 0) = ear E p c 0 ∧ p < ear E p c 0 ∧ ear E p c 0 ≤ s := by
  obtain ⟨q, q1, q2, q3, q4⟩ := ear_ex hE hp
  have h1 := pat_ear (E := E) (p := p) c 0
  have hq := hE.E_le q1
  rw [Nat.zero_add] at h1
  by_cases g : pat E p c 0 < c
  · rw [if_pos g] at h1
    exact ⟨g, h1.symm, by omega, by omega⟩
  · rw [if_neg g] at h1
    omega
theorem k_toldLong {i p : Nat} (hM : isM sh R y) (hb : b < 26) (h : mB1 A y b c s E f) (hE : okE E c s) (hc : c ≤ 20) (hs : s ≤ 4000) (h32 : F 1232 y = nI m) (hm : m ≤ 120) (hi : i < m) (hp : p < s) (hl : ∀ j, j < m → A (y + 22) j = lf j) : rc_ (k + 2) mX12_toldLong [.ref y, .int (nI b), .int (nI i), .int (nI p)] (mkh n u sh F R A B) Q ↔ Q (some (.int (nI (tol lf (fI f) m c E i p)))) (mkh n u sh F R A B) := by
  obtain ⟨p1, p2, p3, p4⟩ := pat_at hE hp
  rw [eX12_toldLong]
  simp only [rX12_toldLong_0, rX12_toldLong_1, rX12_toldLong_2, rX12_toldLong_3, rX12_toldLong_4]
  rw [rX12_toldLong_5 hM.1, k_pieceAt12 hM hb h hE hs hc (by omega)]
  simp only [up2_eq, va_rf, eq_self, or_true, true_or, Option.toList_some, Option.toList_none, List.cons_append, List.nil_append, if_true, if_false]
  rw [rX12_toldLong_8 hM.1, k_end12 hM hb h hc p1, p2]
  simp only [rX12_toldLong_11, rX12_toldLong_13, rX12_toldLong_14, up2_eq, va_rf, eq_self, or_true, true_or, Option.toList_some, Option.toList_none, List.cons_append, List.nil_append, if_true, if_false]
  exact l_toldLong hM hb h hs h32 hm hi p4 p3 hl _ 0 (Nat.zero_add _)
theorem l_isWhole0 {i q nn j : Nat} (hn : nn < 2 ^ 31) (hj : j ≤ nn) : rw_ k mX12_isWhole 29 [.ref y, .int (nI b), .int (nI q), .int (nI i), .int (nI nn), .int (nI 0), .int (nI j)] [] (mkh n u sh F R A B) Q ↔ Q (some (.int (nI 0))) (mkh n u sh F R A B) := by
  by_cases c1 : nn ≤ j
  · have g1 : nI nn ≤ nI j := nI_le c1 (by omega)
    simp only [rX12_isWhole_29, rX12_isWhole_31, rX12_isWhole_33, rX12_isWhole_86, g1, up2_eq, va_rf, eq_self, or_true, true_or, Option.toList_some, Option.toList_none, List.cons_append, List.nil_append, if_true, if_false]
    rw [rX12_isWhole_88 (Or.inl rfl)]
  · have g1 : ¬ nI nn ≤ nI j := nI_ge (by omega) (by omega)
    simp only [rX12_isWhole_29, rX12_isWhole_31, rX12_isWhole_33, rX12_isWhole_36, rX12_isWhole_38, rX12_isWhole_86, g1, up2_eq, va_rf, eq_self, or_true, true_or, Option.toList_some, Option.toList_none, List.cons_append, List.nil_append, if_true, if_false]
    rw [rX12_isWhole_88 (Or.inl rfl)]
theorem l_isWhole {i q nn : Nat} {w : Bool} (hM : isM sh R y) (hb : b < 26) (h : mB1 A y b c s E f) (hc : c ≤ 20) (hq : q < c) (hEq : E q ≤ s) (hs : s ≤ 4000) (hn : pst E q + nn = E q) (hm : m ≤ 120) (him : i + nn ≤ m) (hl : ∀ j, j < m → A (y + 22) j = lf j) (hw : w = true ↔ ∀ j, j < nn → lf (i + j) = nI (f (pst E q + j))) : ∀ d j, j + d = nn → (∀ j', j' < j → lf (i + j') = nI (f (pst E q + j'))) → (rw_ (k + 1) mX12_isWhole 29 [.ref y, .int (nI b), .int (nI q), .int (nI i), .int (nI nn), .int (nI 1), .int (nI j)] [] (mkh n u sh F R A B) Q ↔ Q (some (.int (if w = true then nI 1 else nI 0))) (mkh n u sh F R A B)) := by
  have r22 := hM.r 1231 22 0 240 (by decide)
  have s22 := hM.s 1231 22 0 240 (by decide)
  have r6 := hM.r 1209 6 0 104000 (by decide)
  have s6 := hM.s 1209 6 0 104000 (by decide)
  have g : ¬ nI 1 = nI 0 := by decide
  intro d
  induction d with
  | zero =>
    intro j hj h1
    have e : j = nn := by omega
    subst e
    have g1 : nI j ≤ nI j := nI_le (Nat.le_refl _) (by omega)
    rw [if_pos (hw.mpr h1)]
    simp only [rX12_isWhole_29, rX12_isWhole_31, rX12_isWhole_33, rX12_isWhole_86, g1, up2_eq, va_rf, eq_self, or_true, true_or, Option.toList_some, Option.toList_none, List.cons_append, List.nil_append, if_true, if_false]
    rw [rX12_isWhole_88 (Or.inr rfl)]
  | succ d ih =>
    intro j hj h1
    have g1 : ¬ nI nn ≤ nI j := nI_ge (by omega) (by omega)
    simp only [rX12_isWhole_29, rX12_isWhole_31, rX12_isWhole_33, rX12_isWhole_36, rX12_isWhole_38, rX12_isWhole_41, rX12_isWhole_42, rX12_isWhole_45, rX12_isWhole_46, rX12_isWhole_48, hM.1, g1, g, r22, nI_add, up2_eq, va_rf, eq_self, or_true, true_or, Option.toList_some, Option.toList_none, List.cons_append, List.nil_append, if_true, if_false]
    rw [rX12_isWhole_49 s22 (by decide) (by omega) (by omega), hl _ (by omega)]
    simp only [rX12_isWhole_50, rX12_isWhole_51, rX12_isWhole_54, rX12_isWhole_57, rX12_isWhole_58, rX12_isWhole_59, rX12_isWhole_60, rX12_isWhole_61, hM.1, r6, pk_mul, up2_eq, va_rf, eq_self, or_true, true_or, Option.toList_some, Option.toList_none, List.cons_append, List.nil_append, if_true, if_false]
    rw [rX12_isWhole_62 hM.1, k_begin12 hM hb h hc (by omega)]
    simp only [rX12_isWhole_65, rX12_isWhole_66, rX12_isWhole_68, nI_add, up2_eq, va_rf, eq_self, or_true, true_or, Option.toList_some, Option.toList_none, List.cons_append, List.nil_append, if_true, if_false]
    rw [rX12_isWhole_69 s6 (by decide) (by omega) (by omega), show 4000 * b + pst E q + j = 4000 * b + (pst E q + j) by omega, h.2.2 _ (by omega)]
    by_cases c1 : lf (i + j) = nI (f (pst E q + j))
    · simp only [rX12_isWhole_70, rX12_isWhole_73, rX12_isWhole_74, rX12_isWhole_78, rX12_isWhole_80, rX12_isWhole_83, c1, nI_add, up2_eq, va_rf, eq_self, or_true, true_or, Option.toList_some, Option.toList_none, List.cons_append, List.nil_append, if_true, if_false]
      refine ih (j + 1) (by omega) (fun j' hj' => ?_)
      by_cases e : j' = j
      · subst e; exact c1
      · exact h1 j' (by omega)
    · simp only [rX12_isWhole_70, rX12_isWhole_77, rX12_isWhole_78, rX12_isWhole_80, rX12_isWhole_83, c1, nI_add, up2_eq, va_rf, eq_self, or_true, true_or, Option.toList_some, Option.toList_none, List.cons_append, List.nil_append, if_true, if_false]
      rw [l_isWhole0 (by omega) (by omega), if_neg (fun x => c1 (hw.mp x j (by omega)))]
theorem whl_iff {i q : Nat} (hi : i + (E q - pst E q) ≤ m) : whl lf (fI f) m E i q = true ↔ ∀ j, j < E q - pst E q → lf (i + j) = nI (f (pst E q + j)) := by
  unfold whl
  rw [Bool.and_eq_true, decide_eq_true_eq, decide_eq_true_eq, cpl_full]
  exact ⟨fun x => x.2, fun x => ⟨hi, x⟩⟩
theorem k_isWhole {i q : Nat} (hM : isM sh R y) (hb : b < 26) (h : mB1 A y b c s E f) (hE : okE E c s) (hc : c ≤ 20) (hs : s ≤ 4000) (h32 : F 1232 y = nI m) (hm : m ≤ 120) (hi : i < m) (hq : q < c) (hl : ∀ j, j < m → A (y + 22) j = lf j) : rc_ (k + 2) mX12_isWhole [.ref y, .int (nI b), .int (nI q), .int (nI i)] (mkh n u sh F R A B) Q ↔ Q (some (.int (if whl lf (fI f) m E i q = true then nI 1 else nI 0))) (mkh n u sh F R A B) := by
  have h1 := hE.E_le hq
  have h2 := hE.1 q hq
  rw [eX12_isWhole]
  simp only [rX12_isWhole_0, rX12_isWhole_1, rX12_isWhole_2]
  rw [rX12_isWhole_3 hM.1, k_pieceLong12 hM hb h hE hc hq]
  simp only [rX12_isWhole_6, rX12_isWhole_8, rX12_isWhole_9, rX12_isWhole_11, rX12_isWhole_12, rX12_isWhole_13, hM.1, h32, nI_add, up2_eq, va_rf, eq_self, or_true, true_or, Option.toList_some, Option.toList_none, List.cons_append, List.nil_append, if_true, if_false]
  by_cases c1 : i + (E q - pst E q) ≤ m
  · have g1 : ¬ nI m < nI (i + (E q - pst E q)) := nI_nlt c1 (by omega)
    simp only [rX12_isWhole_16, rX12_isWhole_19, rX12_isWhole_20, rX12_isWhole_24, rX12_isWhole_26, rX12_isWhole_27, g1, up2_eq, va_rf, eq_self, or_true, true_or, Option.toList_some, Option.toList_none, List.cons_append, List.nil_append, if_true, if_false]
    exact l_isWhole (k := k + 1) hM hb h hc hq h1 hs (by omega) hm c1 hl (whl_iff c1) _ 0 (Nat.zero_add _) (fun j' hj' => absurd hj' (Nat.not_lt_zero _))
  · have g1 : nI m < nI (i + (E q - pst E q)) := nI_lt (by omega) (by omega)
    have e : whl lf (fI f) m E i q = false := by unfold whl; rw [decide_eq_false c1]; rfl
    simp only [rX12_isWhole_16, rX12_isWhole_23, rX12_isWhole_24, rX12_isWhole_26, rX12_isWhole_27, g1, up2_eq, va_rf, eq_self, or_true, true_or, Option.toList_some, Option.toList_none, List.cons_append, List.nil_append, if_true, if_false]
    rw [l_isWhole0 (by omega) (by omega), e]
    simp only [Bool.false_eq_true, up2_eq, va_rf, eq_self, or_true, true_or, Option.toList_some, Option.toList_none, List.cons_append, List.nil_append, if_true, if_false]
/-- a book by its number, or none -/
def mBo (A : hF_) (y : Nat) (bi : Int32) (c s : Nat) (E f : Nat → Nat) (rk : Bool) : Prop := (bi = -1 ∧ c = 0 ∧ s = 0 ∧ rk = false) ∨ ∃ b kd, b < 26 ∧ bi = nI b ∧ mB1 A y b c s E f ∧ A (y + 3) b = nI kd ∧ kd ≤ 2 ∧ rk = decide (kd = 2)
theorem mBo_cong (h : mBo A y bi c s E f rk) (h1 : ∀ a, y + 3 ≤ a → a ≤ y + 6 → A' a = A a) : mBo A' y bi c s E f rk := by
  rcases h with h | ⟨b, kd, g1, g2, g3, g4, g5⟩
  · exact Or.inl h
  · exact Or.inr ⟨b, kd, g1, g2, mB1_cong g3 (by rw [h1 _ (by omega) (by omega)]) (fun _ _ => by rw [h1 _ (by omega) (by omega)]) (fun _ _ => by rw [h1 _ (by omega) (by omega)]), by rw [h1 _ (by omega) (by omega)]; exact g4, g5⟩
theorem k_rowLongO (hM : isM sh R y) (h : mBo A y bi c s E f rk) (hE : okE E c s) (hc : c ≤ 20) : rc_ k mX12_rowLong [.ref y, .int bi] (mkh n u sh F R A B) Q ↔ Q (some (.int (nI s))) (mkh n u sh F R A B) := by
  rcases h with ⟨rfl, -, rfl, -⟩ | ⟨b, kd, g1, rfl, g3, -⟩
  · exact k_rowLong0
  · exact k_rowLong hM g1 g3 hE hc
theorem nI_neg1 {b : Nat} (h : b < 2 ^ 31) : ¬ nI b = -1 := fun e => by
  have h1 := nI_toInt (n := b) h
  rw [e] at h1
  have h2 : (-1 : Int32).toInt = -1 := by decide
  omega
theorem k_isRanked (hM : isM sh R y) (h : mBo A y bi c s E f rk) : rc_ k mX12_isRanked [.ref y, .int bi] (mkh n u sh F R A B) Q ↔ Q (some (.int (if rk = true then nI 1 else nI 0))) (mkh n u sh F R A B) := by
  have r3 := hM.r 1206 3 0 26 (by decide)
  have s3 := hM.s 1206 3 0 26 (by decide)
  rw [eX12_isRanked]
  rcases h with ⟨rfl, -, -, rfl⟩ | ⟨b, kd, g1, rfl, -, g4, g5, rfl⟩
  · simp only [rX12_isRanked_0, rX12_isRanked_1, rX12_isRanked_2, rX12_isRanked_19, up2_eq, va_rf, eq_self, or_true, true_or, Option.toList_some, Option.toList_none, List.cons_append, List.nil_append, if_true, if_false]
    rw [rX12_isRanked_20 (Or.inl rfl)]
    simp only [Bool.false_eq_true, up2_eq, va_rf, eq_self, or_true, true_or, Option.toList_some, Option.toList_none, List.cons_append, List.nil_append, if_true, if_false]
  · have g0 := nI_neg1 (b := b) (by omega)
    simp only [rX12_isRanked_0, rX12_isRanked_1, rX12_isRanked_2, rX12_isRanked_5, rX12_isRanked_6, rX12_isRanked_9, g0, hM.1, r3, up2_eq, va_rf, eq_self, or_true, true_or, Option.toList_some, Option.toList_none, List.cons_append, List.nil_append, if_true, if_false]
    rw [rX12_isRanked_10 s3 (by decide) g1 (by omega), g4]
    by_cases c1 : kd = 2
    · subst c1
      simp only [rX12_isRanked_11, rX12_isRanked_12, rX12_isRanked_15, rX12_isRanked_16, decide_true, up2_eq, va_rf, eq_self, or_true, true_or, Option.toList_some, Option.toList_none, List.cons_append, List.nil_append, if_true, if_false]
      rw [rX12_isRanked_20 (Or.inr rfl)]
    · have c2 : ¬ nI kd = nI 2 := by rw [nI_eq (by omega) (by omega)]; exact c1
      simp only [rX12_isRanked_11, rX12_isRanked_12, rX12_isRanked_19, c1, c2, decide_false, Bool.false_eq_true, up2_eq, va_rf, eq_self, or_true, true_or, Option.toList_some, Option.toList_none, List.cons_append, List.nil_append, if_true, if_false]
      rw [rX12_isRanked_20 (Or.inl rfl)]
theorem k_offer12 {i m : Nat} {kd pl bits : Int32} (hM : isM sh R y) (hi : i + m ≤ 240) : rc_ k mX12_offer [.ref y, .int (nI i), .int kd, .int pl, .int (nI m), .int bits] (mkh n u sh F R A B) Q ↔ Q none (mkh n u sh F R (offA A (y + 22) i kd pl m bits) B) := by
  have h0 := hM.1
  have r0 : R 1233 y = some (y + 22 + 1) := hM.r 1233 23 0 241 (by decide)
  have r1 : R 1234 y = some (y + 22 + 2) := hM.r 1234 24 0 241 (by decide)
  have r2 : R 1235 y = some (y + 22 + 3) := hM.r 1235 25 0 241 (by decide)
  have r3 : R 1236 y = some (y + 22 + 4) := hM.r 1236 26 0 241 (by decide)
  have r4 : R 1237 y = some (y + 22 + 5) := hM.r 1237 27 0 241 (by decide)
  have s0 : sh (y + 22 + 1) = some (1, 0, 241) := hM.s 1233 23 0 241 (by decide)
  have s1 : sh (y + 22 + 2) = some (1, 0, 241) := hM.s 1234 24 0 241 (by decide)
  have s2 : sh (y + 22 + 3) = some (1, 0, 241) := hM.s 1235 25 0 241 (by decide)
  have s3 : sh (y + 22 + 4) = some (1, 0, 241) := hM.s 1236 26 0 241 (by decide)
  have s4 : sh (y + 22 + 5) = some (1, 0, 241) := hM.s 1237 27 0 241 (by decide)
  generalize y + 22 = pk at *
  rw [eX12_offer]
  simp only [rX12_offer_0, rX12_offer_2, rX12_offer_3, rX12_offer_6, rX12_offer_7, rX12_offer_9, h0, r0, nI_add, up2_eq, va_rf, eq_self, or_true, true_or, Option.toList_some, Option.toList_none, List.cons_append, List.nil_append, if_true, if_false]
  rw [rX12_offer_10 s0 (by decide) (by omega) (by omega)]
  simp only [rX12_offer_11, rX12_offer_12, rX12_offer_14, rX12_offer_15, rX12_offer_16, rX12_offer_19, rX12_offer_20, rX12_offer_22, h0, r1, nI_add, up2_eq, va_rf, eq_self, or_true, true_or, Option.toList_some, Option.toList_none, List.cons_append, List.nil_append, if_true, if_false]
  rw [rX12_offer_23 s1 (by decide) (by omega) (by omega)]
  simp only [rX12_offer_24, rX12_offer_25, rX12_offer_27, rX12_offer_29, rX12_offer_30, rX12_offer_33, h0, r0, up2_eq, va_rf, eq_self, or_true, true_or, Option.toList_some, Option.toList_none, List.cons_append, List.nil_append, if_true, if_false]
  rw [rX12_offer_34 s0 (by decide) (by omega) (by omega)]
  have good : ∀ (hc : bits + A (pk + 1) (i + m) < A (pk + 1) i ∨ (bits + A (pk + 1) (i + m) = A (pk + 1) i ∧ nI 1 + A (pk + 2) (i + m) < A (pk + 2) i)), (rw_ k mX12_offer 60 [.ref y, .int (nI i), .int kd, .int pl, .int (nI m), .int bits, .int (bits + A (pk + 1) (i + m)), .int (nI 1 + A (pk + 2) (i + m))] [] (mkh n u sh F R A B) Q ↔ Q none (mkh n u sh F R (offA A pk i kd pl m bits) B)) := by
    intro hc
    unfold offA
    rw [if_pos hc]
    simp only [rX12_offer_60, rX12_offer_61, rX12_offer_64, rX12_offer_65, h0, r0, up2_eq, va_rf, eq_self, or_true, true_or, Option.toList_some, Option.toList_none, List.cons_append, List.nil_append, if_true, if_false]
    rw [rX12_offer_67 s0 (by omega) (by omega)]
    simp only [rX12_offer_68, rX12_offer_69, rX12_offer_72, rX12_offer_73, h0, r1, up2_eq, va_rf, eq_self, or_true, true_or, Option.toList_some, Option.toList_none, List.cons_append, List.nil_append, if_true, if_false]
    rw [rX12_offer_75 s1 (by omega) (by omega)]
    simp only [rX12_offer_76, rX12_offer_77, rX12_offer_80, rX12_offer_81, h0, r2, up2_eq, va_rf, eq_self, or_true, true_or, Option.toList_some, Option.toList_none, List.cons_append, List.nil_append, if_true, if_false]
    rw [rX12_offer_82 s2 (by omega) (by omega)]
    simp only [rX12_offer_83, rX12_offer_84, rX12_offer_87, rX12_offer_88, h0, r3, up2_eq, va_rf, eq_self, or_true, true_or, Option.toList_some, Option.toList_none, List.cons_append, List.nil_append, if_true, if_false]
    rw [rX12_offer_89 s3 (by omega) (by omega)]
    simp only [rX12_offer_90, rX12_offer_91, rX12_offer_94, rX12_offer_95, h0, r4, up2_eq, va_rf, eq_self, or_true, true_or, Option.toList_some, Option.toList_none, List.cons_append, List.nil_append, if_true, if_false]
    rw [rX12_offer_97 s4 (by omega) (by omega), rX12_offer_98]
  by_cases c1 : bits + A (pk + 1) (i + m) < A (pk + 1) i
  · simp only [rX12_offer_35, c1, up2_eq, va_rf, eq_self, or_true, true_or, Option.toList_some, Option.toList_none, List.cons_append, List.nil_append, if_true, if_false]
    exact good (Or.inl c1)
  · simp only [rX12_offer_35, rX12_offer_38, rX12_offer_40, rX12_offer_41, rX12_offer_44, c1, h0, r0, up2_eq, va_rf, eq_self, or_true, true_or, Option.toList_some, Option.toList_none, List.cons_append, List.nil_append, if_true, if_false]
    rw [rX12_offer_45 s0 (by decide) (by omega) (by omega)]
    by_cases c2 : bits + A (pk + 1) (i + m) = A (pk + 1) i
    · simp only [rX12_offer_46, rX12_offer_49, rX12_offer_51, rX12_offer_52, rX12_offer_55, c2, h0, r1, up2_eq, va_rf, eq_self, or_true, true_or, Option.toList_some, Option.toList_none, List.cons_append, List.nil_append, if_true, if_false]
      rw [rX12_offer_56 s1 (by decide) (by omega) (by omega)]
      by_cases c3 : nI 1 + A (pk + 2) (i + m) < A (pk + 2) i
      · have c4 : ¬ A (pk + 2) i ≤ nI 1 + A (pk + 2) (i + m) := Int32.not_le.mpr c3
        simp only [rX12_offer_57, c4, up2_eq, va_rf, eq_self, or_true, true_or, Option.toList_some, Option.toList_none, List.cons_append, List.nil_append, if_true, if_false]
        have := good (Or.inr ⟨c2, c3⟩)
        rw [c2] at this
        exact this
      · have c4 : A (pk + 2) i ≤ nI 1 + A (pk + 2) (i + m) := Int32.not_lt.mp c3
        have hc : ¬ (bits + A (pk + 1) (i + m) < A (pk + 1) i ∨ (bits + A (pk + 1) (i + m) = A (pk + 1) i ∧ nI 1 + A (pk + 2) (i + m) < A (pk + 2) i)) := fun q => q.elim c1 (fun q => c3 q.2)
        unfold offA
        rw [if_neg hc]
        simp only [rX12_offer_57, rX12_offer_98, c4, up2_eq, va_rf, eq_self, or_true, true_or, Option.toList_some, Option.toList_none, List.cons_append, List.nil_append, if_true, if_false]
    · have hc : ¬ (bits + A (pk + 1) (i + m) < A (pk + 1) i ∨ (bits + A (pk + 1) (i + m) = A (pk + 1) i ∧ nI 1 + A (pk + 2) (i + m) < A (pk + 2) i)) := fun q => q.elim c1 (fun q => c2 q.1)
      unfold offA
      rw [if_neg hc]
      simp only [rX12_offer_46, rX12_offer_98, c2, up2_eq, va_rf, eq_self, or_true, true_or, Option.toList_some, Option.toList_none, List.cons_append, List.nil_append, if_true, if_false]
end MRN
