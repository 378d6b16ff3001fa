/-! ===== the reference: offer, over, lose, latest ===== -/
theorem pu_bv {T : TT} {so b1 lm : Nat} {le : Int32} {L : Nat → Nat} {b st hd go : Nat} {sn tg se : Int32} : puT (bvT T b st hd go sn tg se) so b1 le lm L = bvT (puT T so b1 le lm L) b st hd go sn tg se := by
  have e1 : (puT (bvT T b st hd go sn tg se) so b1 le lm L).1 = (bvT (puT T so b1 le lm L) b st hd go sn tg se).1 := by
    show up2 (up2 (up2 (up2 (up2 (up2 (up2 (up2 (up2 T.1 18 b st) 19 b hd) 20 b go) 8 0 (T.1 8 0 + 1)) 9 (T.1 8 0) so) 10 (T.1 8 0) b1) 11 (T.1 8 0) 1) 12 (T.1 8 0) lm) 21 (T.1 8 0) 0 = up2 (up2 (up2 (up2 (up2 (up2 (up2 (up2 (up2 T.1 8 0 (T.1 8 0 + 1)) 9 (T.1 8 0) so) 10 (T.1 8 0) b1) 11 (T.1 8 0) 1) 12 (T.1 8 0) lm) 21 (T.1 8 0) 0) 18 b st) 19 b hd) 20 b go
    funext q i
    by_cases h : q = 18
    · subst h; simp [up2]
    by_cases h1 : q = 19
    · subst h1; simp [up2]
    by_cases h2 : q = 20
    · subst h2; simp [up2]
    simp [up2, h, h1, h2]
  have e2 : (puT (bvT T b st hd go sn tg se) so b1 le lm L).2.2 = (bvT (puT T so b1 le lm L) b st hd go sn tg se).2.2 := by
    show up2 (up2 (up2 (up2 T.2.2 2 b sn) 3 b tg) 4 b se) 5 (T.1 8 0) le = up2 (up2 (up2 (up2 T.2.2 5 (T.1 8 0) le) 2 b sn) 3 b tg) 4 b se
    rw [up2_sw (k := 4) (k' := 5) (by decide), up2_sw (k := 3) (k' := 5) (by decide), up2_sw (k := 2) (k' := 5) (by decide)]
  have e3 : (puT (bvT T b st hd go sn tg se) so b1 le lm L).2.1 = (bvT (puT T so b1 le lm L) b st hd go sn tg se).2.1 := rfl
  exact Prod.ext e1 (Prod.ext e3 e2)
section MOF
variable {k n u : Nat} {sh : hs_} {F F' : hF_} {R : hR_} {A A' : hF_} {B : hR_} {Q : Option Value → pm_H → Prop} {y : Nat} {T : TT} {b m : Nat}
/-- a message that is no letter, out of what was written -/
theorem MS_puA {so : Nat} {le : Int32} (h : MS F A y T) (hT : okT T) (hb : isB3 T.1 b) (hso : so ≠ 3) (f1 : ∀ a, ¬ (y + 15 ≤ a ∧ a ≤ y + 19) → A' a = A a) (f2 : ∀ k, 15 ≤ k → k ≤ 19 → ∀ j, j ≠ T.1 8 0 → A' (y + k) j = A (y + k) j) (f3 : mM1 A' y (T.1 8 0) so (nm3 b) 1 le (if so = 3 then nI 0 else -1)) : MS (up2 F 1219 y (nI (T.1 8 0 + 1))) A' y (puT T so (b5 b) le 0 (fun _ => 0)) :=
  MS_pu h hT hb (fun q _ h2 => up2_k h2) up2_eq (fun k k1 k2 k3 => f1 _ (by omega)) (fun k k1 k2 j hj => by
    by_cases e : k = 20
    · rw [f1 _ (by omega)]
    · exact f2 k k1 (by omega) j hj) (fun j _ => by rw [f1 _ (by omega)]) f3 (fun g => absurd g hso)
theorem frM_pu {v : Int32} (f1 : ∀ a, ¬ (y + 15 ≤ a ∧ a ≤ y + 19) → A' a = A a) : frM y F A (up2 F 1219 y v) A' := ⟨fun q a g => up2_o (by omega), fun a g => f1 a (by omega)⟩
theorem mBV_st {st hd go st' : Nat} {sn tg se : Int32} (h : mBV A y b st hd go sn tg se) : mBV (up2 A (y + 7) b (nI st')) y b st' hd go sn tg se := by
  obtain ⟨v1, v2, v3, v4, v5, v6⟩ := h
  exact ⟨up2_eq, by rw [up2_k (by omega)]; exact v2, by rw [up2_k (by omega)]; exact v3, by rw [up2_k (by omega)]; exact v4, by rw [up2_k (by omega)]; exact v5, by rw [up2_k (by omega)]; exact v6⟩
theorem MS_st {st : Nat} (h : MS F A y T) (h24 : T.1 2 0 ≤ 24) (hb : b < T.1 2 0) : MS F (up2 A (y + 7) b (nI st)) y (stT T b st) :=
  MS_bv h h24 hb (fun _ _ => rfl) (fun k k1 k2 k3 => up2_row (by omega)) (fun k k1 k2 j hj => up2_a hj) (mBV_st ((h.2.1.2.2.1 b hb).2.2))
theorem m_offer {i : Int32} (hM : isM sh R y) (h : MS F A y T) (hT : okT T) (hQ : mPost n u sh F R A B y (s_offer T i) Q) : rc_ (k + 8) mX12_offer_ [.ref y, .int i] (mkh n u sh F R A B) Q := by
  have h0 := MS_th (v := nI 0) h hT
  obtain ⟨a1, a2, a3, a4, a5, a6⟩ := id h0
  have h24 := hT.2.2.2.1.1
  have h200 := hT.2.2.2.2.2.2.1.1
  have r7 := hM.r 1210 7 0 24 (by decide)
  have s7 := hM.s 1210 7 0 24 (by decide)
  rw [eX12_offer_]
  simp only [rX12_offer__0, rX12_offer__1, rX12_offer__2, rX12_offer__5, rX12_offer__6, hM.1, up2_eq, va_rf, eq_self, or_true, true_or, Option.toList_some, Option.toList_none, List.cons_append, List.nil_append, if_true, if_false]
  rw [rX12_offer__7 hM.1, k_isBook hM a2.1 h24]
  unfold s_offer at hQ
  cases hi : ix i (T.1 2 0) with
  | none =>
    rw [hi] at hQ
    simp only [rX12_offer__10, rX12_offer__13, rX12_offer__15, up2_eq, va_rf, eq_self, or_true, true_or, Option.toList_some, Option.toList_none, List.cons_append, List.nil_append, if_true, if_false]
    exact hQ _ _ h0 (frM_F (by decide))
  | some b =>
    rw [hi] at hQ
    obtain ⟨hb, -, rfl⟩ := ix_some hi
    have hb3 : isB3 T.1 b := Or.inl hb
    obtain ⟨b1, b2, v⟩ := a2.2.2.1 b hb
    have h18 := (hT.2.2.2.1.2.1 b hb3).2.1
    dsimp only at hQ
    have g : ¬ nI 1 = nI 0 := by decide
    rw [if_neg (by simp)]
    simp only [rX12_offer__10, rX12_offer__16, rX12_offer__17, rX12_offer__20, g, hM.1, r7, up2_eq, va_rf, eq_self, or_true, true_or, Option.toList_some, Option.toList_none, List.cons_append, List.nil_append, if_true, if_false]
    rw [rX12_offer__21 s7 (by decide) (by omega) (by omega), v.1]
    by_cases c : 1 < T.1 18 b
    · rw [if_pos (by omega)] at hQ
      have g2 : ¬ nI (T.1 18 b) ≤ nI 1 := nI_ge c (by omega)
      simp only [rX12_offer__22, rX12_offer__23, rX12_offer__26, rX12_offer__28, g2, up2_eq, va_rf, eq_self, or_true, true_or, Option.toList_some, Option.toList_none, List.cons_append, List.nil_append, if_true, if_false]
      exact hQ _ _ h0 (frM_F (by decide))
    · rw [if_neg (by omega)] at hQ
      have g2 : nI (T.1 18 b) ≤ nI 1 := nI_le (by omega) (by omega)
      simp only [rX12_offer__22, rX12_offer__23, rX12_offer__29, rX12_offer__30, rX12_offer__33, rX12_offer__36, g2, hM.1, a6.1, up2_eq, va_rf, eq_self, or_true, true_or, Option.toList_some, Option.toList_none, List.cons_append, List.nil_append, if_true, if_false]
      by_cases c3 : 200 ≤ T.1 8 0
      · rw [if_pos c3] at hQ
        have e3 : T.1 8 0 = 200 := by omega
        rw [e3]
        simp only [rX12_offer__39, rX12_offer__41, up2_eq, va_rf, eq_self, or_true, true_or, Option.toList_some, Option.toList_none, List.cons_append, List.nil_append, if_true, if_false]
        exact hQ _ _ h0 (frM_F (by decide))
      · rw [if_neg c3] at hQ
        have g3 : ¬ nI (T.1 8 0) = nI 200 := by rw [nI_eq (by omega) (by omega)]; omega
        simp only [rX12_offer__42, rX12_offer__43, rX12_offer__46, rX12_offer__47, g3, hM.1, r7, up2_eq, va_rf, eq_self, or_true, true_or, Option.toList_some, Option.toList_none, List.cons_append, List.nil_append, if_true, if_false]
        rw [rX12_offer__48 s7 (by omega) (by omega)]
        simp only [rX12_offer__49, rX12_offer__50, rX12_offer__51, rX12_offer__52, up2_eq, va_rf, eq_self, or_true, true_or, Option.toList_some, Option.toList_none, List.cons_append, List.nil_append, if_true, if_false]
        rw [rX12_offer__53 hM.1]
        have h1 := MS_st (st := 1) h0 h24 hb
        obtain ⟨t18, t19, t20⟩ := (hT.2.2.2.1.2.1 b hb3).2
        have hT1 : okT (stT T b 1) := okT_bv hT (by omega) t19 t20 (fun e => by omega)
        refine k_sendMessage (so := 0) hM a6.1 (by omega) (by decide) (fun A' f1 f2 f3 => ?_)
        have h2 := MS_puA (b := b) (so := 0) (le := -1) h1 hT1 hb3 (by decide) f1 f2 (by unfold nm3; rw [if_neg (by omega)]; exact f3)
        unfold stT at h2
        rw [pu_bv] at h2
        simp only [rX12_offer__56, rX12_offer__57, rX12_offer__60, hM.1, up2_eq, va_rf, eq_self, or_true, true_or, Option.toList_some, Option.toList_none, List.cons_append, List.nil_append, if_true, if_false]
        exact hQ _ _ h2 (frM_trans (frM_F (by decide)) (frM_trans (frM_A (k := 7) (by decide) (by decide)) (frM_pu f1)))
theorem m_over {i : Int32} (hM : isM sh R y) (h : MS F A y T) (hT : okT T) (hQ : mPost n u sh F R A B y (s_over T i) Q) : rc_ (k + 8) mX12_over [.ref y, .int i] (mkh n u sh F R A B) Q := by
  have h0 := MS_th (v := nI 0) h hT
  obtain ⟨a1, a2, a3, a4, a5, a6⟩ := id h0
  have h24 := hT.2.2.2.1.1
  have h200 := hT.2.2.2.2.2.2.1.1
  have r7 := hM.r 1210 7 0 24 (by decide)
  have s7 := hM.s 1210 7 0 24 (by decide)
  have r11 := hM.r 1214 11 0 25 (by decide)
  have s11 := hM.s 1214 11 0 25 (by decide)
  rw [eX12_over]
  simp only [rX12_over_0, rX12_over_1, rX12_over_2, rX12_over_5, rX12_over_6, hM.1, up2_eq, va_rf, eq_self, or_true, true_or, Option.toList_some, Option.toList_none, List.cons_append, List.nil_append, if_true, if_false]
  rw [rX12_over_7 hM.1, k_isBook hM a2.1 h24]
  unfold s_over at hQ
  cases hi : ix i (T.1 2 0) with
  | none =>
    rw [hi] at hQ
    simp only [rX12_over_10, rX12_over_13, rX12_over_15, up2_eq, va_rf, eq_self, or_true, true_or, Option.toList_some, Option.toList_none, List.cons_append, List.nil_append, if_true, if_false]
    exact hQ _ _ h0 (frM_F (by decide))
  | some b =>
    rw [hi] at hQ
    obtain ⟨hb, -, rfl⟩ := ix_some hi
    have hb3 : isB3 T.1 b := Or.inl hb
    obtain ⟨b1, b2, v⟩ := a2.2.2.1 b hb
    have h18 := (hT.2.2.2.1.2.1 b hb3).2.1
    dsimp only at hQ
    have g : ¬ nI 1 = nI 0 := by decide
    rw [if_neg (by simp)]
    simp only [rX12_over_10, rX12_over_16, rX12_over_17, rX12_over_20, g, hM.1, r7, up2_eq, va_rf, eq_self, or_true, true_or, Option.toList_some, Option.toList_none, List.cons_append, List.nil_append, if_true, if_false]
    rw [rX12_over_21 s7 (by decide) (by omega) (by omega), v.1]
    by_cases c : T.1 18 b = 2
    · rw [if_neg (fun e => e c)] at hQ
      rw [c]
      simp only [rX12_over_22, rX12_over_23, rX12_over_29, rX12_over_30, rX12_over_33, rX12_over_36, hM.1, a6.1, up2_eq, va_rf, eq_self, or_true, true_or, Option.toList_some, Option.toList_none, List.cons_append, List.nil_append, if_true, if_false]
      by_cases c3 : 200 ≤ T.1 8 0
      · rw [if_pos c3] at hQ
        have e3 : T.1 8 0 = 200 := by omega
        rw [e3]
        simp only [rX12_over_39, rX12_over_41, up2_eq, va_rf, eq_self, or_true, true_or, Option.toList_some, Option.toList_none, List.cons_append, List.nil_append, if_true, if_false]
        exact hQ _ _ h0 (frM_F (by decide))
      · rw [if_neg c3] at hQ
        have g3 : ¬ nI (T.1 8 0) = nI 200 := by rw [nI_eq (by omega) (by omega)]; omega
        simp only [rX12_over_42, rX12_over_43, rX12_over_46, rX12_over_47, g3, hM.1, r7, up2_eq, va_rf, eq_self, or_true, true_or, Option.toList_some, Option.toList_none, List.cons_append, List.nil_append, if_true, if_false]
        rw [rX12_over_48 s7 (by omega) (by omega)]
        simp only [rX12_over_49, rX12_over_50, rX12_over_51, rX12_over_52, rX12_over_53, rX12_over_56, hM.1, r11, up2_eq, va_rf, eq_self, or_true, true_or, Option.toList_some, Option.toList_none, List.cons_append, List.nil_append, if_true, if_false]
        rw [rX12_over_57 s11 (by decide) (by omega) (by omega), up2_k (by omega), v.2.2.2.2.1]
        rw [rX12_over_58 hM.1]
        have h1 := MS_st (st := 3) h0 h24 hb
        obtain ⟨t18, t19, t20⟩ := (hT.2.2.2.1.2.1 b hb3).2
        have hT1 : okT (stT T b 3) := okT_bv hT (by omega) t19 t20 (fun e => by omega)
        refine k_sendMessage (so := 4) hM a6.1 (by omega) (by decide) (fun A' f1 f2 f3 => ?_)
        have h2 := MS_puA (b := b) (so := 4) (le := T.2.2 2 b) h1 hT1 hb3 (by decide) f1 f2 (by unfold nm3; rw [if_neg (by omega)]; exact f3)
        unfold stT at h2
        rw [pu_bv] at h2
        simp only [rX12_over_61, rX12_over_62, rX12_over_65, hM.1, up2_eq, va_rf, eq_self, or_true, true_or, Option.toList_some, Option.toList_none, List.cons_append, List.nil_append, if_true, if_false]
        exact hQ _ _ h2 (frM_trans (frM_F (by decide)) (frM_trans (frM_A (k := 7) (by decide) (by decide)) (frM_pu f1)))
    · rw [if_pos c] at hQ
      have g2 : ¬ nI (T.1 18 b) = nI 2 := by rw [nI_eq (by omega) (by omega)]; exact c
      simp only [rX12_over_22, rX12_over_23, rX12_over_26, rX12_over_28, g2, up2_eq, va_rf, eq_self, or_true, true_or, Option.toList_some, Option.toList_none, List.cons_append, List.nil_append, if_true, if_false]
      exact hQ _ _ h0 (frM_F (by decide))
/-- release, of a book that is one -/
theorem k_release {hd go : Nat} {tg se : Int32} (hM : isM sh R y) (hb : b < 24) (h8 : A (y + 8) b = nI hd) (h9 : A (y + 9) b = nI go) (hg : go ≤ 1) (h10 : A (y + 10) b = tg) (h12 : A (y + 12) b = se) : rc_ k mX12_release [.ref y, .int (nI b)] (mkh n u sh F R A B) Q ↔ Q none (mkh n u sh F R (up2 A (y + 8) b (nI (relT hd go tg se))) B) := by
  have g0 : ¬ nI b = -1 := fun e => by
    have h1 := nI_toInt (n := b) (by omega)
    rw [e] at h1
    have h2 : (-1 : Int32).toInt = -1 := by decide
    omega
  have r8 := hM.r 1211 8 1 24 (by decide)
  have s8 := hM.s 1211 8 1 24 (by decide)
  have r9 := hM.r 1212 9 1 24 (by decide)
  have s9 := hM.s 1212 9 1 24 (by decide)
  have r10 := hM.r 1213 10 0 24 (by decide)
  have s10 := hM.s 1213 10 0 24 (by decide)
  have r12 := hM.r 1215 12 0 24 (by decide)
  have s12 := hM.s 1215 12 0 24 (by decide)
  rw [eX12_release]
  simp only [rX12_release_0, rX12_release_1, rX12_release_2, rX12_release_5, rX12_release_6, rX12_release_9, hM.1, g0, r9, up2_eq, va_rf, eq_self, or_true, true_or, Option.toList_some, Option.toList_none, List.cons_append, List.nil_append, if_true, if_false]
  rw [rX12_release_10 s9 hb (by omega), h9]
  unfold relT
  by_cases c1 : go = 0
  · have g1 : nI go = nI 0 := by rw [c1]
    rw [if_pos c1, ← h8, up2_id]
    simp only [rX12_release_11, rX12_release_36, g1, up2_eq, va_rf, eq_self, or_true, true_or, Option.toList_some, Option.toList_none, List.cons_append, List.nil_append, if_true, if_false]
  · have g1 : ¬ nI go = nI 0 := nI_ne0 (by omega) (by omega)
    rw [if_neg c1]
    simp only [rX12_release_11, rX12_release_14, rX12_release_15, rX12_release_18, g1, hM.1, r12, up2_eq, va_rf, eq_self, or_true, true_or, Option.toList_some, Option.toList_none, List.cons_append, List.nil_append, if_true, if_false]
    rw [rX12_release_19 s12 (by decide) hb (by omega), h12]
    simp only [rX12_release_20, rX12_release_21, rX12_release_24, hM.1, r10, up2_eq, va_rf, eq_self, or_true, true_or, Option.toList_some, Option.toList_none, List.cons_append, List.nil_append, if_true, if_false]
    rw [rX12_release_25 s10 (by decide) hb (by omega), h10]
    by_cases c2 : se < tg
    · rw [if_pos c2, ← h8, up2_id]
      simp only [rX12_release_26, rX12_release_36, c2, up2_eq, va_rf, eq_self, or_true, true_or, Option.toList_some, Option.toList_none, List.cons_append, List.nil_append, if_true, if_false]
    · rw [if_neg c2]
      simp only [rX12_release_26, rX12_release_29, rX12_release_30, rX12_release_33, rX12_release_34, c2, hM.1, r8, up2_eq, va_rf, eq_self, or_true, true_or, Option.toList_some, Option.toList_none, List.cons_append, List.nil_append, if_true, if_false]
      rw [rX12_release_35 s8 hb (by omega) (Or.inl rfl)]
      simp only [rX12_release_36, up2_eq, va_rf, eq_self, or_true, true_or, Option.toList_some, Option.toList_none, List.cons_append, List.nil_append, if_true, if_false]
theorem k_release0 : rc_ k mX12_release [.ref y, .int (-1)] (mkh n u sh F R A B) Q ↔ Q none (mkh n u sh F R A B) := by
  rw [eX12_release]
  simp only [rX12_release_0, rX12_release_1, rX12_release_2, rX12_release_36, up2_eq, va_rf, eq_self, or_true, true_or, Option.toList_some, Option.toList_none, List.cons_append, List.nil_append, if_true, if_false]
end MOF
