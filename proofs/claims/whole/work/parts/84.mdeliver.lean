/-! ===== the reference: lose, deliver, latest ===== -/
section MDE
variable {k n u : Nat} {sh : hs_} {F F' : hF_} {R : hR_} {A A' : hF_} {B : hR_} {Q : Option Value → pm_H → Prop} {y : Nat} {T : TT} {b m : Nat}
/-- a letter settled, on the rows -/
def stA (A : hF_) (y b : Nat) (T : TT) : hF_ := if b = 25 then A else up2 (up2 A (y + 12) b (T.2.2 4 b + nI 1)) (y + 8) b (nI (relT (T.1 19 b) (T.1 20 b) (T.2.2 3 b) (T.2.2 4 b + nI 1)))
theorem MS_set (h : MS F A y T) (hT : okT T) (hb : isB3 T.1 b) : MS F (stA A y b T) y (setT T b) := by
  have h24 := hT.2.2.2.1.1
  unfold stA setT
  by_cases e : b = 25
  · subst e
    rw [if_pos rfl]
    exact MS_b25 h h24 (fun _ _ => rfl) (fun _ _ _ _ => rfl) (fun _ _ => rfl) h.2.1.2.2.2.2
  · rw [if_neg e]
    have hbn : b < T.1 2 0 := by rcases hb with hb | hb <;> omega
    obtain ⟨v1, v2, v3, v4, v5, v6⟩ := (h.2.1.2.2.1 b hbn).2.2
    refine MS_bv h h24 hbn (fun _ _ => rfl) (fun k k1 k2 k3 => by rw [up2_row (by omega), up2_row (by omega)]) (fun k k1 k2 j hj => by rw [up2_a hj, up2_a hj]) ⟨?_, up2_eq, ?_, ?_, ?_, ?_⟩
    · rw [up2_k (by omega), up2_k (by omega)]; exact v1
    · rw [up2_k (by omega), up2_k (by omega)]; exact v3
    · rw [up2_k (by omega), up2_k (by omega)]; exact v4
    · rw [up2_k (by omega), up2_k (by omega)]; exact v5
    · rw [up2_k (by omega), up2_eq]
theorem frM_stA {v : Nat} : frM y F A F (stA A y v T) := by
  unfold stA
  by_cases e : v = 25
  · rw [if_pos e]; exact frM_refl
  · rw [if_neg e]; exact frM_trans (frM_A (k := 12) (by decide) (by decide)) (frM_A (k := 8) (by decide) (by decide))
/-- settle and release behind each other; W between them leaves the arrays -/
theorem k_settle {how : Int32} (hM : isM sh R y) (hm : m < 200) (h16 : A (y + 16) m = nm3 b) (hb : b < 24 ∨ b = 25) : rc_ k mX12_settle [.ref y, .int (nI m), .int how] (mkh n u sh F R A B) Q ↔ Q none (mkh n u sh F R (if b = 25 then up2 A (y + 19) m how else up2 (up2 A (y + 19) m how) (y + 12) b (A (y + 12) b + nI 1)) B) := by
  have r16 := hM.r 1221 16 0 200 (by decide)
  have s16 := hM.s 1221 16 0 200 (by decide)
  have r19 := hM.r 1224 19 0 200 (by decide)
  have s19 := hM.s 1224 19 0 200 (by decide)
  have r12 := hM.r 1215 12 0 24 (by decide)
  have s12 := hM.s 1215 12 0 24 (by decide)
  rw [eX12_settle]
  simp only [rX12_settle_0, rX12_settle_1, rX12_settle_4, hM.1, r16, up2_eq, va_rf, eq_self, or_true, true_or, Option.toList_some, Option.toList_none, List.cons_append, List.nil_append, if_true, if_false]
  rw [rX12_settle_5 s16 (by decide) hm (by omega), h16]
  simp only [rX12_settle_6, rX12_settle_7, rX12_settle_8, rX12_settle_11, rX12_settle_12, hM.1, r19, up2_eq, va_rf, eq_self, or_true, true_or, Option.toList_some, Option.toList_none, List.cons_append, List.nil_append, if_true, if_false]
  rw [rX12_settle_13 s19 hm (by omega)]
  unfold nm3
  by_cases e : b = 25
  · rw [if_pos e, if_pos e]
    simp only [rX12_settle_14, rX12_settle_15, rX12_settle_16, rX12_settle_29, up2_eq, va_rf, eq_self, or_true, true_or, Option.toList_some, Option.toList_none, List.cons_append, List.nil_append, if_true, if_false]
  · rw [if_neg e, if_neg e]
    have g0 : ¬ nI b = -1 := fun e => by
      have h1 := nI_toInt (n := b) (by omega)
      rw [e] at h1
      have h2 : (-1 : Int32).toInt = -1 := by decide
      omega
    simp only [rX12_settle_14, rX12_settle_15, rX12_settle_16, rX12_settle_19, rX12_settle_20, rX12_settle_23, rX12_settle_24, hM.1, g0, r12, up2_eq, va_rf, eq_self, or_true, true_or, Option.toList_some, Option.toList_none, List.cons_append, List.nil_append, if_true, if_false]
    rw [rX12_settle_25 s12 (by decide) (by omega) (by omega), up2_k (by omega)]
    simp only [rX12_settle_26, rX12_settle_27, up2_eq, va_rf, eq_self, or_true, true_or, Option.toList_some, Option.toList_none, List.cons_append, List.nil_append, if_true, if_false]
    rw [rX12_settle_28 s12 (by omega) (by omega)]
    simp only [rX12_settle_29, up2_eq, va_rf, eq_self, or_true, true_or, Option.toList_some, Option.toList_none, List.cons_append, List.nil_append, if_true, if_false]
/-- release of book b where its settled one was raised -/
theorem k_releaseT {A0 : hF_} (hM : isM sh R y) (h : MS F' A0 y T) (hT : okT T) (hb : isB3 T.1 b) (hA : A = if b = 25 then A0 else up2 A0 (y + 12) b (A0 (y + 12) b + nI 1)) : rc_ k mX12_release [.ref y, .int (nm3 b)] (mkh n u sh F R A B) Q ↔ Q none (mkh n u sh F R (stA A0 y b T) B) := by
  have h24 := hT.2.2.2.1.1
  unfold nm3 stA
  by_cases e : b = 25
  · rw [if_pos e, if_pos e]
    rw [if_pos e] at hA
    rw [k_release0, hA]
  · rw [if_neg e, if_neg e]
    rw [if_neg e] at hA
    have hbn : b < T.1 2 0 := by rcases hb with hb | hb <;> omega
    obtain ⟨v1, v2, v3, v4, v5, v6⟩ := (h.2.1.2.2.1 b hbn).2.2
    have t20 := (hT.2.2.2.1.2.1 b hb).2.2.2
    rw [v6] at hA
    subst hA
    rw [k_release (hd := T.1 19 b) (go := T.1 20 b) (tg := T.2.2 3 b) (se := T.2.2 4 b + nI 1) hM (by omega) (by rw [up2_k (by omega)]; exact v2) (by rw [up2_k (by omega)]; exact v3) t20 (by rw [up2_k (by omega)]; exact v4) up2_eq]
theorem m_lose {i : Int32} (hM : isM sh R y) (h : MS F A y T) (hT : okT T) (hQ : mPost n u sh F R A B y (s_lose T i) Q) : rc_ (k + 8) mX12_lose [.ref y, .int i] (mkh n u sh F R A B) Q := by
  have h0 := MS_th (v := nI 0) h hT
  obtain ⟨a1, a2, a3, a4, a5, a6⟩ := id h0
  have h200 := hT.2.2.2.2.2.2.1.1
  have h24 := hT.2.2.2.1.1
  have e := in_ix (v := i) (n := T.1 8 0) (by omega)
  have r15 := hM.r 1220 15 0 200 (by decide)
  have s15 := hM.s 1220 15 0 200 (by decide)
  have r16 := hM.r 1221 16 0 200 (by decide)
  have s16 := hM.s 1221 16 0 200 (by decide)
  have r17 := hM.r 1222 17 0 200 (by decide)
  have s17 := hM.s 1222 17 0 200 (by decide)
  have r19 := hM.r 1224 19 0 200 (by decide)
  have s19 := hM.s 1224 19 0 200 (by decide)
  rw [eX12_lose]
  simp only [rX12_lose_0, rX12_lose_1, rX12_lose_2, rX12_lose_5, rX12_lose_6, rX12_lose_7, rX12_lose_8, rX12_lose_11, rX12_lose_12, hM.1, a6.1, up2_eq, va_rf, eq_self, or_true, true_or, Option.toList_some, Option.toList_none, List.cons_append, List.nil_append, if_true, if_false]
  rw [rX12_lose_13, k_in]
  unfold s_lose at hQ
  cases hi : ix i (T.1 8 0) with
  | none =>
    rw [hi] at hQ
    rw [if_pos (e.mpr hi)]
    simp only [rX12_lose_16, rX12_lose_19, rX12_lose_21, up2_eq, va_rf, eq_self, or_true, true_or, Option.toList_some, Option.toList_none, List.cons_append, List.nil_append, if_true, if_false]
    exact hQ _ _ h0 (frM_F (by decide))
  | some m =>
    rw [hi] at hQ
    obtain ⟨hm, -, rfl⟩ := ix_some hi
    obtain ⟨⟨v1, v2, v3, v4, v5⟩, -⟩ := a6.2.2.2.2.2 m hm
    obtain ⟨o1, o2, o3, o4, o5, o6, o7⟩ := hT.2.2.2.2.2.2.1.2.1 m hm
    have hb2 : mbk T.1 m < 24 ∨ mbk T.1 m = 25 := by rcases o2 with o2 | o2 <;> omega
    dsimp only at hQ
    have g : ¬ nI 1 = nI 0 := by decide
    rw [if_neg (fun q => by have := e.mp q; rw [hi] at this; cases this)]
    simp only [rX12_lose_16, rX12_lose_22, rX12_lose_23, rX12_lose_26, g, hM.1, r17, up2_eq, va_rf, eq_self, or_true, true_or, Option.toList_some, Option.toList_none, List.cons_append, List.nil_append, if_true, if_false]
    rw [rX12_lose_27 s17 (by decide) (by omega) (by omega), v3]
    by_cases c : T.1 11 m = 0
    · rw [if_pos c] at hQ
      rw [c]
      simp only [rX12_lose_28, rX12_lose_31, rX12_lose_33, up2_eq, va_rf, eq_self, or_true, true_or, Option.toList_some, Option.toList_none, List.cons_append, List.nil_append, if_true, if_false]
      exact hQ _ _ h0 (frM_F (by decide))
    · rw [if_neg c] at hQ
      have g1 : ¬ nI (T.1 11 m) = nI 0 := nI_ne0 (by omega) (by omega)
      have g2 : nI (T.1 11 m) - nI 1 = nI (T.1 11 m - 1) := pk_sub (by omega)
      simp only [rX12_lose_28, rX12_lose_34, rX12_lose_35, rX12_lose_38, rX12_lose_39, g1, hM.1, r17, up2_eq, va_rf, eq_self, or_true, true_or, Option.toList_some, Option.toList_none, List.cons_append, List.nil_append, if_true, if_false]
      rw [rX12_lose_40 s17 (by decide) (by omega) (by omega), v3]
      simp only [rX12_lose_41, rX12_lose_42, g2, up2_eq, va_rf, eq_self, or_true, true_or, Option.toList_some, Option.toList_none, List.cons_append, List.nil_append, if_true, if_false]
      rw [rX12_lose_43 s17 (by omega) (by omega)]
      simp only [rX12_lose_44, rX12_lose_45, rX12_lose_48, hM.1, r15, up2_eq, va_rf, eq_self, or_true, true_or, Option.toList_some, Option.toList_none, List.cons_append, List.nil_append, if_true, if_false]
      rw [rX12_lose_49 s15 (by decide) (by omega) (by omega), up2_k (by omega), v1]
      have hplain := MS_ms (F' := up2 F 1200 y (nI 0)) (A' := up2 A (y + 17) m (nI (T.1 11 m - 1))) (uw := T.1 11 m - 1) (fa := T.1 21 m) h0 hT hm (fun _ _ => rfl) (fun k k1 k2 k3 k4 => up2_row (by omega)) (fun j hj => up2_a hj) (fun j hj => by rw [up2_k (by omega)]) up2_eq (by rw [up2_k (by omega)]; exact v5)
      have fr1 : frM y F A (up2 F 1200 y (nI 0)) (up2 A (y + 17) m (nI (T.1 11 m - 1))) := frM_trans (frM_F (by decide)) (frM_A (k := 17) (by decide) (by decide))
      have fin : ∀ A2, A2 (y + 17) m = nI (T.1 11 m - 1) → MS (up2 F 1200 y (nI 0)) A2 y (if T.1 9 m = 3 ∧ T.1 21 m = 0 ∧ T.1 11 m - 1 = 0 then setT (msT T m (T.1 11 m - 1) 2) (mbk T.1 m) else msT T m (T.1 11 m - 1) (T.1 21 m)) → frM y F A (up2 F 1200 y (nI 0)) A2 → rw_ (k + 8) mX12_lose 88 [.ref y, .int (nI m)] [] (mkh n u sh (up2 F 1200 y (nI 0)) R A2 B) Q := by
        intro A2 e1 e2 e3
        simp only [rX12_lose_88, rX12_lose_89, rX12_lose_92, hM.1, r17, up2_eq, va_rf, eq_self, or_true, true_or, Option.toList_some, Option.toList_none, List.cons_append, List.nil_append, if_true, if_false]
        rw [rX12_lose_93 s17 (by decide) (by omega) (by omega), e1]
        simp only [rX12_lose_94, up2_eq, va_rf, eq_self, or_true, true_or, Option.toList_some, Option.toList_none, List.cons_append, List.nil_append, if_true, if_false]
        exact hQ _ _ e2 e3
      by_cases c1 : T.1 9 m = 3
      · rw [if_pos c1] at v5
        rw [c1]
        simp only [rX12_lose_50, rX12_lose_51, rX12_lose_54, rX12_lose_55, rX12_lose_58, hM.1, r19, up2_eq, va_rf, eq_self, or_true, true_or, Option.toList_some, Option.toList_none, List.cons_append, List.nil_append, if_true, if_false]
        rw [rX12_lose_59 s19 (by decide) (by omega) (by omega), up2_k (by omega), v5]
        by_cases c2 : T.1 21 m = 0
        · rw [c2]
          simp only [rX12_lose_60, rX12_lose_63, rX12_lose_64, rX12_lose_67, hM.1, r17, up2_eq, va_rf, eq_self, or_true, true_or, Option.toList_some, Option.toList_none, List.cons_append, List.nil_append, if_true, if_false]
          rw [rX12_lose_68 s17 (by decide) (by omega) (by omega), up2_eq]
          by_cases c3 : T.1 11 m - 1 = 0
          · rw [c3]
            simp only [rX12_lose_69, rX12_lose_72, rX12_lose_73, rX12_lose_74, up2_eq, va_rf, eq_self, or_true, true_or, Option.toList_some, Option.toList_none, List.cons_append, List.nil_append, if_true, if_false]
            rw [rX12_lose_75 hM.1, k_settle (b := mbk T.1 m) hM (by omega) (by rw [up2_k (by omega)]; exact v2) hb2]
            simp only [rX12_lose_78, rX12_lose_79, rX12_lose_80, rX12_lose_83, hM.1, r16, up2_eq, va_rf, eq_self, or_true, true_or, Option.toList_some, Option.toList_none, List.cons_append, List.nil_append, if_true, if_false]
            rw [rX12_lose_84 s16 (by decide) (by omega) (by omega)]
            have h1 := MS_ms (F' := up2 F 1200 y (nI 0)) (A' := up2 (up2 A (y + 17) m (nI 0)) (y + 19) m (nI 2)) (uw := 0) (fa := 2) h0 hT hm (fun _ _ => rfl) (fun k k1 k2 k3 k4 => by rw [up2_row (by omega), up2_row (by omega)]) (fun j hj => by rw [up2_a hj, up2_a hj]) (fun j hj => by rw [up2_a hj, up2_a hj]) (by rw [up2_k (by omega), up2_eq]) (by rw [up2_eq, if_pos c1])
            have hT1 : okT (msT T m 0 2) := okT_ms hT (by omega) (by omega)
            have h2 := MS_set (b := mbk T.1 m) h1 hT1 o2
            have e12 : (if mbk T.1 m = 25 then up2 (up2 A (y + 17) m (nI 0)) (y + 19) m (nI 2) else up2 (up2 (up2 A (y + 17) m (nI 0)) (y + 19) m (nI 2)) (y + 12) (mbk T.1 m) (up2 A (y + 17) m (nI 0) (y + 12) (mbk T.1 m) + nI 1)) = (if mbk T.1 m = 25 then up2 (up2 A (y + 17) m (nI 0)) (y + 19) m (nI 2) else up2 (up2 (up2 A (y + 17) m (nI 0)) (y + 19) m (nI 2)) (y + 12) (mbk T.1 m) (up2 (up2 A (y + 17) m (nI 0)) (y + 19) m (nI 2) (y + 12) (mbk T.1 m) + nI 1)) := by
              rw [up2_k (k := y + 19) (by omega)]
            rw [e12]
            have e16 : (if mbk T.1 m = 25 then up2 (up2 A (y + 17) m (nI 0)) (y + 19) m (nI 2) else up2 (up2 (up2 A (y + 17) m (nI 0)) (y + 19) m (nI 2)) (y + 12) (mbk T.1 m) (up2 (up2 A (y + 17) m (nI 0)) (y + 19) m (nI 2) (y + 12) (mbk T.1 m) + nI 1)) (y + 16) m = nm3 (mbk T.1 m) := by
              split
              · rw [up2_k (by omega), up2_k (by omega)]; exact v2
              · rw [up2_k (by omega), up2_k (by omega), up2_k (by omega)]; exact v2
            rw [e16, rX12_lose_85 hM.1, k_releaseT (T := msT T m 0 2) hM h1 hT1 o2 rfl]
            simp only [up2_eq, va_rf, eq_self, or_true, true_or, Option.toList_some, Option.toList_none, List.cons_append, List.nil_append, if_true, if_false]
            refine fin _ ?_ ?_ (frM_trans (frM_trans (frM_F (by decide)) (frM_trans (frM_A (k := 17) (by decide) (by decide)) (frM_A (k := 19) (by decide) (by decide)))) frM_stA)
            · unfold stA
              rw [c3]
              split
              · rw [up2_k (by omega), up2_eq]
              · rw [up2_k (by omega), up2_k (by omega), up2_k (by omega), up2_eq]
            · rw [if_pos ⟨c1, c2, c3⟩, c3]
              exact h2
          · have g5 : ¬ nI (T.1 11 m - 1) = nI 0 := nI_ne0 (by omega) (by omega)
            simp only [rX12_lose_69, g5, up2_eq, va_rf, eq_self, or_true, true_or, Option.toList_some, Option.toList_none, List.cons_append, List.nil_append, if_true, if_false]
            exact fin _ up2_eq (by rw [if_neg (fun e => c3 e.2.2)]; exact hplain) fr1
        · have g4 : ¬ nI (T.1 21 m) = nI 0 := nI_ne0 (by omega) (by omega)
          simp only [rX12_lose_60, g4, up2_eq, va_rf, eq_self, or_true, true_or, Option.toList_some, Option.toList_none, List.cons_append, List.nil_append, if_true, if_false]
          exact fin _ up2_eq (by rw [if_neg (fun e => c2 e.2.1)]; exact hplain) fr1
      · have g3 : ¬ nI (T.1 9 m) = nI 3 := by rw [nI_eq (by omega) (by omega)]; exact c1
        simp only [rX12_lose_50, rX12_lose_51, g3, up2_eq, va_rf, eq_self, or_true, true_or, Option.toList_some, Option.toList_none, List.cons_append, List.nil_append, if_true, if_false]
        exact fin _ up2_eq (by rw [if_neg (fun e => c1 e.1)]; exact hplain) fr1
end MDE
