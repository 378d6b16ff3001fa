/-! ===== the reference: pieces, books ===== -/
section MPI
variable {k n u : Nat} {sh : hs_} {F F' : hF_} {R : hR_} {A A' : hF_} {B : hR_} {Q : Option Value → pm_H → Prop} {y : Nat} {T : TT} {b c s : Nat} {E f : Nat → Nat}
theorem l_addPiece {fr z at_ nn : Nat} (hM : isM sh R y) (hb : b < 26) (hs : sh fr = some (1, 0, z)) (hz : at_ + nn ≤ z) (hz2 : z < 2 ^ 30) (hne : fr ≠ y + 6) (hr : s + nn ≤ 4000)
    (hQ : ∀ A1 x6, (∀ a, a ≠ y + 6 → A1 a = A a) → (∀ j, (j < 4000 * b + s ∨ 4000 * b + s + nn ≤ j) → A1 (y + 6) j = A (y + 6) j) → (∀ j, j < nn → A1 (y + 6) (4000 * b + s + j) = A fr (at_ + j)) → rw_ (k + 1) mX12_addPiece 45 [.ref y, .int (nI b), .ref fr, .int (nI at_), .int (nI nn), .int (nI s), x6] [] (mkh n u sh F R A1 B) Q) :
    ∀ d i A1, i + d = nn → (∀ a, a ≠ y + 6 → A1 a = A a) → (∀ j, (j < 4000 * b + s ∨ 4000 * b + s + nn ≤ j) → A1 (y + 6) j = A (y + 6) j) → (∀ j, j < i → A1 (y + 6) (4000 * b + s + j) = A fr (at_ + j)) →
    rw_ (k + 1) mX12_addPiece 10 [.ref y, .int (nI b), .ref fr, .int (nI at_), .int (nI nn), .int (nI s), .int (nI i)] [] (mkh n u sh F R A1 B) Q := by
  have r6 := hM.r 1209 6 0 104000 (by decide)
  have s6 := hM.s 1209 6 0 104000 (by decide)
  intro d
  induction d with
  | zero =>
    intro i A1 hi f1 f2 f3
    have e : i = nn := by omega
    subst e
    have g1 : nI i ≤ nI i := nI_le (Nat.le_refl _) (by omega)
    simp only [rX12_addPiece_10, rX12_addPiece_12, rX12_addPiece_14, g1, up2_eq, va_rf, eq_self, or_true, true_or, Option.toList_some, Option.toList_none, List.cons_append, List.nil_append, if_true, if_false]
    exact hQ A1 _ f1 f2 f3
  | succ d ih =>
    intro i A1 hi f1 f2 f3
    have g1 : ¬ nI nn ≤ nI i := nI_ge (by omega) (by omega)
    simp only [rX12_addPiece_10, rX12_addPiece_12, rX12_addPiece_14, rX12_addPiece_17, rX12_addPiece_18, rX12_addPiece_21, rX12_addPiece_24, rX12_addPiece_25, rX12_addPiece_26, rX12_addPiece_28, rX12_addPiece_29, rX12_addPiece_31, rX12_addPiece_32, rX12_addPiece_32_n, rX12_addPiece_33, rX12_addPiece_34, rX12_addPiece_36, hM.1, g1, r6, pk_mul, nI_add, up2_eq, va_rf, eq_self, or_true, true_or, Option.toList_some, Option.toList_none, List.cons_append, List.nil_append, if_true, if_false]
    rw [rX12_addPiece_37 hs (by decide) (by omega) (by omega)]
    rw [rX12_addPiece_38 s6 (by omega) (by omega)]
    simp only [rX12_addPiece_39, rX12_addPiece_42, nI_add]
    refine ih (i + 1) _ (by omega) (fun a ha => by rw [up2_row ha]; exact f1 a ha) (fun j hj => by rw [up2_a (by omega)]; exact f2 j hj) (fun j hj => ?_)
    by_cases e : j = i
    · subst e; rw [up2_eq, f1 _ hne]
    · rw [up2_a (by omega)]; exact f3 j (by omega)
theorem k_addPiece {fr z at_ nn : Nat} (hM : isM sh R y) (hb : b < 26) (h : mB1 A y b c s E f) (hE : okE E c s) (hc : c < 21) (hc2 : c ≤ 20) (hs : sh fr = some (1, 0, z)) (hz : at_ + nn ≤ z) (hz2 : z < 2 ^ 30) (hne : fr ≠ y + 6) (hr : s + nn ≤ 4000)
    (hQ : ∀ A', (∀ a, a ≠ y + 4 → a ≠ y + 5 → a ≠ y + 6 → A' a = A a) → (∀ j, (j < 4000 * b + s ∨ 4000 * b + s + nn ≤ j) → A' (y + 6) j = A (y + 6) j) → (∀ j, j < nn → A' (y + 6) (4000 * b + s + j) = A fr (at_ + j)) → (∀ j, j ≠ 21 * b + c → A' (y + 5) j = A (y + 5) j) → A' (y + 5) (21 * b + c) = nI (s + nn) → (∀ j, j ≠ b → A' (y + 4) j = A (y + 4) j) → A' (y + 4) b = nI (c + 1) → Q none (mkh n u sh F R A' B)) :
    rc_ (k + 1) mX12_addPiece [.ref y, .int (nI b), .ref fr, .int (nI at_), .int (nI nn)] (mkh n u sh F R A B) Q := by
  have r4 := hM.r 1207 4 0 26 (by decide)
  have s4 := hM.s 1207 4 0 26 (by decide)
  have r5 := hM.r 1208 5 0 546 (by decide)
  have s5 := hM.s 1208 5 0 546 (by decide)
  rw [eX12_addPiece]
  simp only [rX12_addPiece_0, rX12_addPiece_1]
  rw [rX12_addPiece_2 hM.1, k_rowLong hM hb h hE hc2]
  simp only [rX12_addPiece_5, rX12_addPiece_7, rX12_addPiece_8, up2_eq, va_rf, eq_self, or_true, true_or, Option.toList_some, Option.toList_none, List.cons_append, List.nil_append, if_true, if_false]
  refine l_addPiece hM hb hs hz hz2 hne hr ?_ nn 0 A (by omega) (fun _ _ => rfl) (fun _ _ => rfl) (fun j hj => absurd hj (Nat.not_lt_zero _))
  intro A1 x6 f1 f2 f3
  have e4 : A1 (y + 4) b = nI c := by rw [f1 _ (by omega)]; exact h.1
  simp only [rX12_addPiece_45, rX12_addPiece_46, rX12_addPiece_49, rX12_addPiece_51, rX12_addPiece_52, rX12_addPiece_53, rX12_addPiece_54, rX12_addPiece_57, hM.1, r4, r5, pk_mul, up2_eq, va_rf, eq_self, or_true, true_or, Option.toList_some, Option.toList_none, List.cons_append, List.nil_append, if_true, if_false]
  rw [rX12_addPiece_58 s4 (by decide) hb (by omega), e4]
  simp only [rX12_addPiece_59, rX12_addPiece_60, rX12_addPiece_62, rX12_addPiece_64, nI_add, up2_eq, va_rf, eq_self, or_true, true_or, Option.toList_some, Option.toList_none, List.cons_append, List.nil_append, if_true, if_false]
  rw [rX12_addPiece_65 s5 (by omega) (by omega)]
  simp only [rX12_addPiece_66, rX12_addPiece_67, rX12_addPiece_70, rX12_addPiece_71, hM.1, r4, up2_eq, va_rf, eq_self, or_true, true_or, Option.toList_some, Option.toList_none, List.cons_append, List.nil_append, if_true, if_false]
  rw [rX12_addPiece_72 s4 (by decide) hb (by omega), up2_k (by omega), e4]
  simp only [rX12_addPiece_73, rX12_addPiece_74, nI_add, up2_eq, va_rf, eq_self, or_true, true_or, Option.toList_some, Option.toList_none, List.cons_append, List.nil_append, if_true, if_false]
  rw [rX12_addPiece_75 s4 hb (by omega)]
  simp only [rX12_addPiece_76, up2_eq, va_rf, eq_self, or_true, true_or, Option.toList_some, Option.toList_none, List.cons_append, List.nil_append, if_true, if_false]
  refine hQ _ (fun a a1 a2 a3 => ?_) (fun j hj => ?_) (fun j hj => ?_) (fun j hj => ?_) ?_ (fun j hj => ?_) up2_eq
  · rw [up2_row a1, up2_row a2]; exact f1 a a3
  · rw [up2_k (by omega), up2_k (by omega)]; exact f2 j hj
  · rw [up2_k (by omega), up2_k (by omega)]; exact f3 j hj
  · rw [up2_k (by omega), up2_a hj, f1 _ (by omega)]
  · rw [up2_k (by omega), up2_eq]
  · rw [up2_a hj, up2_k (by omega), f1 _ (by omega)]
theorem mB1_add {g : Nat → Nat} {nn : Nat} (h : mB1 A y b c s E f) (hE : okE E c s) (h6 : ∀ j, (j < 4000 * b + s ∨ 4000 * b + s + nn ≤ j) → A' (y + 6) j = A (y + 6) j) (h6n : ∀ j, j < nn → A' (y + 6) (4000 * b + s + j) = nI (g j)) (h5 : ∀ j, j ≠ 21 * b + c → A' (y + 5) j = A (y + 5) j) (h5n : A' (y + 5) (21 * b + c) = nI (s + nn)) (h4 : A' (y + 4) b = nI (c + 1)) : mB1 A' y b (c + 1) (s + nn) (apE E c (s + nn)) (fun j => if j < s then f j else g (j - s)) := by
  refine ⟨h4, fun q hq => ?_, fun j hj => ?_⟩
  · unfold apE
    by_cases e : q = c
    · rw [if_pos e, e]; exact h5n
    · rw [if_neg e, h5 _ (by omega)]; exact h.2.1 q (by omega)
  · show A' (y + 6) (4000 * b + j) = nI (if j < s then f j else g (j - s))
    by_cases e : j < s
    · rw [if_pos e, h6 _ (by omega)]; exact h.2.2 j e
    · rw [if_neg e]
      have := h6n (j - s) (by omega)
      rw [show 4000 * b + s + (j - s) = 4000 * b + j by omega] at this
      exact this
/-- the draft with a piece more -/
def drT (T : TT) (nn : Nat) (g : Nat → Nat) : TT := (up2 (up2 T.1 4 24 (T.1 4 24 + 1)) 5 24 (T.1 5 24 + nn), up2 (up2 T.2.1 3 24 (apE (T.2.1 3 24) (T.1 4 24) (T.1 5 24 + nn))) 0 24 (fun j => if j < T.1 5 24 then T.2.1 0 24 j else g (j - T.1 5 24)), T.2.2)
theorem MS_dr {g : Nat → Nat} {nn : Nat} (h : MS F A y T) (hT : okT T) (f1 : ∀ a, a ≠ y + 4 → a ≠ y + 5 → a ≠ y + 6 → A' a = A a) (h6 : ∀ j, (j < 4000 * 24 + T.1 5 24 ∨ 4000 * 24 + T.1 5 24 + nn ≤ j) → A' (y + 6) j = A (y + 6) j) (h6n : ∀ j, j < nn → A' (y + 6) (4000 * 24 + T.1 5 24 + j) = nI (g j)) (h5 : ∀ j, j ≠ 21 * 24 + T.1 4 24 → A' (y + 5) j = A (y + 5) j) (h5n : A' (y + 5) (21 * 24 + T.1 4 24) = nI (T.1 5 24 + nn)) (h4 : ∀ j, j ≠ 24 → A' (y + 4) j = A (y + 4) j) (h4n : A' (y + 4) 24 = nI (T.1 4 24 + 1)) : MS F A' y (drT T nn g) := by
  obtain ⟨a1, a2, a3, a4, a5, a6⟩ := id h
  have h24 := hT.2.2.2.1.1
  refine ⟨mTO_cong (N := T.1) a1 rfl rfl (f1 _ (by omega) (by omega) (by omega)) (f1 _ (by omega) (by omega) (by omega)), ?_, mPk_cong (T := T) a3 (fun _ _ => rfl) (fun k k1 k2 => f1 _ (by omega) (by omega) (by omega)), mSm_cong (T := T) a4 rfl (f1 _ (by omega) (by omega) (by omega)) (f1 _ (by omega) (by omega) (by omega)), mGa_cong (T := T) a5 (fun _ _ _ => rfl) (f1 _ (by omega) (by omega) (by omega)), mWi_cong (T := T) a6 (fun _ _ => rfl) (fun k k1 k2 => f1 _ (by omega) (by omega) (by omega))⟩
  obtain ⟨b1, b2, b3, b4, b5⟩ := a2
  refine ⟨b1, ?_, fun b hb => ?_, fun b g1 g2 => mBV_cong (b4 b g1 g2) (fun k k1 k2 => by rw [f1 _ (by omega) (by omega) (by omega)]), by rw [f1 _ (by omega) (by omega) (by omega)]; exact b5⟩
  · have := mB1_add (g := g) b2 hT.2.2.1.2.1 h6 h6n h5 h5n h4n
    unfold drT
    dsimp only
    rw [up2_k (by decide), up2_eq, up2_eq, up2_k (by decide), up2_eq, up2_eq]
    exact this
  · have hb' : b < T.1 2 0 := hb
    obtain ⟨c1, c2, c3⟩ := b3 b hb'
    have hok := (hT.2.2.2.1.2.1 b (Or.inl hb')).1
    have o2 := hok.2.1
    have o3 := hok.2.2.1
    have hne : b ≠ 24 := by omega
    unfold drT
    dsimp only
    rw [up2_o (by omega), up2_o (by omega), up2_o (by omega), up2_o (by omega), up2_o (by omega), up2_o (by omega), up2_o (by omega), up2_o (by omega), up2_o (by omega), up2_o (by omega), up2_o (by omega), up2_o (by omega), up2_o (by omega), up2_o (by omega), up2_o (by omega), up2_o (by omega)]
    exact ⟨by rw [f1 _ (by omega) (by omega) (by omega)]; exact c1, mB1_cong c2 (h4 _ hne) (fun q hq => h5 _ (by omega)) (fun j hj => h6 _ (by omega)), mBV_cong c3 (fun k k1 k2 => by rw [f1 _ (by omega) (by omega) (by omega)])⟩
theorem dr_clr {nn : Nat} {g : Nat → Nat} : drT (clrT T) nn g = (up2 (up2 (sTO T.1 0 (T.1 1 0) (T.1 30) (T.1 31)) 4 24 (T.1 4 24 + 1)) 5 24 (T.1 5 24 + nn), up2 (up2 T.2.1 3 24 (apE (T.2.1 3 24) (T.1 4 24) (T.1 5 24 + nn))) 0 24 (fun j => if j < T.1 5 24 then T.2.1 0 24 j else g (j - T.1 5 24)), T.2.2) := rfl
theorem m_piece (hM : isM sh R y) (h : MS F A y T) (hT : okT T) (hQ : mPost n u sh F R A B y (s_piece T) Q) : rc_ (k + 8) mX12_piece [.ref y] (mkh n u sh F R A B) Q := by
  have h0 := MS_th (v := nI 0) h hT
  have hc := MS_clr h0 hT
  have hTc := okT_clr hT
  have t0 := hT.1.1
  obtain ⟨d1, d2, d3, d4⟩ := hT.2.2.1
  have dsum := okE_sum _ d2 (fun q hq => (d3 q hq).2) (T.1 4 24) (Nat.le_refl _)
  rw [d2.2] at dsum
  have e02 : up2 F 1200 y (nI 0) 1202 y = nI (T.1 0 0) := h0.1.1.1
  have frc : frM y F A (up2 (up2 F 1200 y (nI 0)) 1202 y (nI 0)) A := frM_trans (frM_F (by decide)) (frM_F (by decide))
  have r4 := hM.r 1207 4 0 26 (by decide)
  have s4 := hM.s 1207 4 0 26 (by decide)
  have e4 : A (y + 4) 24 = nI (T.1 4 24) := h.2.1.2.1.1
  have g : ¬ nI 1 = nI 0 := by decide
  rw [eX12_piece]
  simp only [rX12_piece_0, rX12_piece_1, rX12_piece_2, rX12_piece_5, rX12_piece_6, rX12_piece_9, rX12_piece_10, rX12_piece_11, rX12_piece_12, rX12_piece_15, rX12_piece_16, rX12_piece_17, hM.1, e02, up2_eq, va_rf, eq_self, or_true, true_or, Option.toList_some, Option.toList_none, List.cons_append, List.nil_append, if_true, if_false]
  rw [rX12_piece_20, k_in]
  unfold s_piece at hQ
  by_cases c1 : T.1 0 0 = 0 ∨ 200 < T.1 0 0
  · rw [if_pos c1] at hQ
    have g1 : nI (T.1 0 0) < nI 1 ∨ nI 200 < nI (T.1 0 0) := by
      rcases c1 with c | c
      · left; exact nI_lt (by omega) (by omega)
      · right; exact nI_lt c (by omega)
    rw [if_pos g1]
    simp only [rX12_piece_23, rX12_piece_26, rX12_piece_28, up2_eq, va_rf, eq_self, or_true, true_or, Option.toList_some, Option.toList_none, List.cons_append, List.nil_append, if_true, if_false]
    exact hQ _ _ hc frc
  rw [if_neg c1] at hQ
  have g1 : ¬ (nI (T.1 0 0) < nI 1 ∨ nI 200 < nI (T.1 0 0)) := by
    rintro (e | e)
    · rw [nI_ltI (by omega) (by omega)] at e; omega
    · rw [nI_ltI (by omega) (by omega)] at e; omega
  rw [if_neg g1]
  simp only [rX12_piece_23, rX12_piece_29, rX12_piece_30, rX12_piece_33, g, hM.1, r4, up2_eq, va_rf, eq_self, or_true, true_or, Option.toList_some, Option.toList_none, List.cons_append, List.nil_append, if_true, if_false]
  rw [rX12_piece_35 s4 (by decide) (by omega) (by omega), e4]
  by_cases c2 : 20 ≤ T.1 4 24
  · rw [if_pos c2] at hQ
    have e20 : T.1 4 24 = 20 := by omega
    rw [e20]
    simp only [rX12_piece_36, rX12_piece_38, rX12_piece_41, rX12_piece_43, up2_eq, va_rf, eq_self, or_true, true_or, Option.toList_some, Option.toList_none, List.cons_append, List.nil_append, if_true, if_false]
    exact hQ _ _ hc frc
  · rw [if_neg c2] at hQ
    have g2 : ¬ nI (T.1 4 24) = nI 20 := by rw [nI_eq (by omega) (by omega)]; omega
    simp only [rX12_piece_36, rX12_piece_38, rX12_piece_44, rX12_piece_45, rX12_piece_47, rX12_piece_48, rX12_piece_51, rX12_piece_52, g2, hM.1, hM.r 1201 1 0 240 (by decide), up2_eq, va_rf, eq_self, or_true, true_or, Option.toList_some, Option.toList_none, List.cons_append, List.nil_append, if_true, if_false]
    rw [rX12_piece_53 hM.1]
    refine k_addPiece (b := 24) (z := 240) (at_ := 0) hM (by omega) h.2.1.2.1 d2 (by omega) d1 (hM.s 1201 1 0 240 (by decide)) (by omega) (by omega) (by omega) (by omega) ?_
    intro A' f1 f2 f3 f4 f5 f6 f7
    simp only [rX12_piece_56, rX12_piece_57, rX12_piece_60, hM.1, r4, up2_eq, va_rf, eq_self, or_true, true_or, Option.toList_some, Option.toList_none, List.cons_append, List.nil_append, if_true, if_false]
    rw [rX12_piece_62 s4 (by decide) (by omega) (by omega), f7]
    simp only [rX12_piece_63, up2_eq, va_rf, eq_self, or_true, true_or, Option.toList_some, Option.toList_none, List.cons_append, List.nil_append, if_true, if_false]
    have f3' : ∀ j, j < T.1 0 0 → A' (y + 6) (4000 * 24 + T.1 5 24 + j) = nI (T.1 30 j) := fun j hj => by rw [f3 j hj, Nat.zero_add]; exact h.1.1.2 j hj
    have h2 := MS_dr (g := T.1 30) (nn := T.1 0 0) hc hTc f1 f2 f3' f4 f5 f6 f7
    rw [dr_clr] at h2
    exact hQ _ _ h2 (frM_trans frc ⟨fun _ _ _ => rfl, fun a g => f1 a (by omega) (by omega) (by omega)⟩)
end MPI
