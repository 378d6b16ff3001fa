/-! ===== the reference: deliver, latest ===== -/
section MD2
variable {k n u : Nat} {sh : hs_} {F F' : hF_} {R : hR_} {A A' : hF_} {B : hR_} {Q : Option Value → pm_H → Prop} {y : Nat} {T : TT} {b m : Nat}
def bPost (n u : Nat) (sh : hs_) (F : hF_) (R : hR_) (A : hF_) (B : hR_) (y : Nat) (z : Bool × TT) (Q : Option Value → pm_H → Prop) : Prop := ∀ F' A', MS F' A' y z.2 → frM y F A F' A' → Q (some (.int (if z.1 = true then nI 0 else nI 1))) (mkh n u sh F' R A' B)
theorem nm3_lt (hb : b < 24) : nm3 b = nI b := by
  unfold nm3
  rw [if_neg (by omega)]
theorem k_ansT {so : Nat} {le : Int32} (hM : isM sh R y) (h : MS F A y T) (hT : okT T) (hb : b < T.1 2 0) (hso : so ≠ 3) (hso4 : so ≤ 4) (hQ : bPost n u sh F R A B y (poT T so b le) Q) : rc_ (k + 1) mX12_answer [.ref y, .int (nI so), .int (nI b), .int le] (mkh n u sh F R A B) Q := by
  have h24 := hT.2.2.2.1.1
  unfold poT at hQ
  refine k_answer hM h.2.2.2.2.2.1 hT.2.2.2.2.2.2.1.1 hso4 (fun c => ?_) (fun c A' f1 f2 f3 => ?_)
  · rw [if_pos (by omega)] at hQ
    exact hQ _ _ h frM_refl
  · rw [if_neg (by omega)] at hQ
    exact hQ _ _ (MS_puA (b := b) h hT (Or.inl hb) hso f1 f2 (by rw [nm3_lt (by omega)]; exact f3)) (frM_pu f1)
theorem k_takeOffer12 (hM : isM sh R y) (h : MS F A y T) (hT : okT T) (hH : hcT T.1 (T.1 2 0) ≤ 4) (hb : b < T.1 2 0) (hQ : bPost n u sh F R A B y (ofrA T b) Q) : rc_ (k + 2) mX12_takeOffer [.ref y, .int (nI b)] (mkh n u sh F R A B) Q := by
  have h24 := hT.2.2.2.1.1
  have hb3 : isB3 T.1 b := Or.inl hb
  obtain ⟨a1, a2, a3, a4, a5, a6⟩ := id h
  obtain ⟨v1, v2, v3, v4, v5, v6⟩ := (a2.2.2.1 b hb).2.2
  obtain ⟨-, t18, t19, t20⟩ := hT.2.2.2.1.2.1 b hb3
  have r8 := hM.r 1211 8 1 24 (by decide)
  have s8 := hM.s 1211 8 1 24 (by decide)
  have r9 := hM.r 1212 9 1 24 (by decide)
  have s9 := hM.s 1212 9 1 24 (by decide)
  rw [eX12_takeOffer]
  simp only [rX12_takeOffer_0, rX12_takeOffer_1, rX12_takeOffer_4, hM.1, r8, up2_eq, va_rf, eq_self, or_true, true_or, Option.toList_some, Option.toList_none, List.cons_append, List.nil_append, if_true, if_false]
  rw [rX12_takeOffer_5 s8 (by omega) (by omega), v2]
  unfold ofrA at hQ
  by_cases c1 : T.1 19 b = 0
  · rw [if_pos c1] at hQ
    rw [c1]
    simp only [rX12_takeOffer_6, rX12_takeOffer_9, up2_eq, va_rf, eq_self, or_true, true_or, Option.toList_some, Option.toList_none, List.cons_append, List.nil_append, if_true, if_false]
    rw [rX12_takeOffer_10 hM.1, k_heldMany (N := T.1) hM a2.1 h24 (fun b hb => ⟨(a2.2.2.1 b hb).2.2.2.1, (hT.2.2.2.1.2.1 b (Or.inl hb)).2.2.1⟩)]
    by_cases c2 : 4 ≤ hcT T.1 (T.1 2 0)
    · rw [if_pos c2] at hQ
      have e4 : hcT T.1 (T.1 2 0) = 4 := by omega
      rw [e4]
      simp only [rX12_takeOffer_13, rX12_takeOffer_14, rX12_takeOffer_17, rX12_takeOffer_18, rX12_takeOffer_19, rX12_takeOffer_20, up2_eq, va_rf, eq_self, or_true, true_or, Option.toList_some, Option.toList_none, List.cons_append, List.nil_append, if_true, if_false]
      rw [rX12_takeOffer_21 hM.1]
      refine k_ansT hM h hT hb (by decide) (by decide) (fun F' A' e1 e2 => ?_)
      simp only [rX12_takeOffer_24, up2_eq, va_rf, eq_self, or_true, true_or, Option.toList_some, Option.toList_none, List.cons_append, List.nil_append, if_true, if_false]
      exact hQ F' A' e1 e2
    · rw [if_neg c2] at hQ
      have g4 : ¬ nI (hcT T.1 (T.1 2 0)) = nI 4 := by rw [nI_eq (by omega) (by omega)]; omega
      simp only [rX12_takeOffer_13, rX12_takeOffer_14, rX12_takeOffer_25, rX12_takeOffer_26, rX12_takeOffer_29, rX12_takeOffer_30, g4, hM.1, r8, up2_eq, va_rf, eq_self, or_true, true_or, Option.toList_some, Option.toList_none, List.cons_append, List.nil_append, if_true, if_false]
      rw [rX12_takeOffer_31 s8 (by omega) (by omega) (Or.inr rfl)]
      simp only [rX12_takeOffer_32, rX12_takeOffer_33, rX12_takeOffer_36, rX12_takeOffer_37, hM.1, r9, up2_eq, va_rf, eq_self, or_true, true_or, Option.toList_some, Option.toList_none, List.cons_append, List.nil_append, if_true, if_false]
      rw [rX12_takeOffer_38 s9 (by omega) (by omega) (Or.inl rfl)]
      simp only [rX12_takeOffer_39, rX12_takeOffer_40, rX12_takeOffer_41, rX12_takeOffer_42, up2_eq, va_rf, eq_self, or_true, true_or, Option.toList_some, Option.toList_none, List.cons_append, List.nil_append, if_true, if_false]
      rw [rX12_takeOffer_43 hM.1]
      have h1 : MS F (up2 (up2 A (y + 8) b (nI 1)) (y + 9) b (nI 0)) y (holT T b) := MS_bv h h24 hb (fun _ _ => rfl) (fun k k1 k2 k3 => by rw [up2_row (by omega), up2_row (by omega)]) (fun k k1 k2 j hj => by rw [up2_a hj, up2_a hj]) ⟨by rw [up2_k (by omega), up2_k (by omega)]; exact v1, by rw [up2_k (by omega), up2_eq], up2_eq, by rw [up2_k (by omega), up2_k (by omega)]; exact v4, by rw [up2_k (by omega), up2_k (by omega)]; exact v5, by rw [up2_k (by omega), up2_k (by omega)]; exact v6⟩
      have hT1 : okT (holT T b) := okT_bv hT t18 (by omega) (by omega) (fun e => by omega)
      refine k_ansT (T := holT T b) hM h1 hT1 hb (by decide) (by decide) (fun F' A' e1 e2 => ?_)
      simp only [rX12_takeOffer_46, up2_eq, va_rf, eq_self, or_true, true_or, Option.toList_some, Option.toList_none, List.cons_append, List.nil_append, if_true, if_false]
      exact hQ F' A' e1 (frM_trans (frM_trans (frM_A (k := 8) (by decide) (by decide)) (frM_A (k := 9) (by decide) (by decide))) e2)
  · rw [if_neg c1] at hQ
    have g1 : ¬ nI (T.1 19 b) = nI 0 := nI_ne0 (by omega) (by omega)
    simp only [rX12_takeOffer_6, rX12_takeOffer_39, rX12_takeOffer_40, rX12_takeOffer_41, rX12_takeOffer_42, g1, up2_eq, va_rf, eq_self, or_true, true_or, Option.toList_some, Option.toList_none, List.cons_append, List.nil_append, if_true, if_false]
    rw [rX12_takeOffer_43 hM.1]
    refine k_ansT hM h hT hb (by decide) (by decide) (fun F' A' e1 e2 => ?_)
    simp only [rX12_takeOffer_46, up2_eq, va_rf, eq_self, or_true, true_or, Option.toList_some, Option.toList_none, List.cons_append, List.nil_append, if_true, if_false]
    exact hQ F' A' e1 e2
theorem k_takeLetter12 (hM : isM sh R y) (h : MS F A y T) (hT : okT T) (hm : m < T.1 8 0) (hs : T.1 9 m = 3) (hQ : ∀ F' A', MS F' A' y (letA T m).2 → frM y F A F' A' → Q none (mkh n u sh F' R A' B)) : rc_ (k + 1) mX12_takeLetter [.ref y, .int (nI m)] (mkh n u sh F R A B) Q := by
  obtain ⟨a1, a2, a3, a4, a5, a6⟩ := id h
  have h200 := hT.2.2.2.2.2.2.1.1
  have h24 := hT.2.2.2.1.1
  obtain ⟨⟨v1, v2, v3, v4, v5⟩, -⟩ := a6.2.2.2.2.2 m hm
  obtain ⟨o1, o2, o3, o4, o5, o6, o7⟩ := hT.2.2.2.2.2.2.1.2.1 m hm
  have hl1 := hT.2.2.2.2.2.2.1.2.2.1
  have hl2 := hT.2.2.2.2.2.2.1.2.2.2
  have hb2 : mbk T.1 m < 24 ∨ mbk T.1 m = 25 := by rcases o2 with o2 | o2 <;> omega
  have r8 := hM.r 1211 8 1 24 (by decide)
  have s8 := hM.s 1211 8 1 24 (by decide)
  have r16 := hM.r 1221 16 0 200 (by decide)
  have s16 := hM.s 1221 16 0 200 (by decide)
  have r19 := hM.r 1224 19 0 200 (by decide)
  have s19 := hM.s 1224 19 0 200 (by decide)
  rw [if_pos hs] at v5
  rw [eX12_takeLetter]
  simp only [rX12_takeLetter_0, rX12_takeLetter_1, rX12_takeLetter_4, hM.1, r19, up2_eq, va_rf, eq_self, or_true, true_or, Option.toList_some, Option.toList_none, List.cons_append, List.nil_append, if_true, if_false]
  rw [rX12_takeLetter_5 s19 (by decide) (by omega) (by omega), v5]
  unfold letA at hQ
  by_cases c1 : T.1 21 m = 0
  · rw [if_pos c1] at hQ
    rw [c1]
    simp only [rX12_takeLetter_6, rX12_takeLetter_20, rX12_takeLetter_21, rX12_takeLetter_24, hM.1, r16, up2_eq, va_rf, eq_self, or_true, true_or, Option.toList_some, Option.toList_none, List.cons_append, List.nil_append, if_true, if_false]
    rw [rX12_takeLetter_25 s16 (by decide) (by omega) (by omega), v2]
    simp only [rX12_takeLetter_26, rX12_takeLetter_27, rX12_takeLetter_28, rX12_takeLetter_29, up2_eq, va_rf, eq_self, or_true, true_or, Option.toList_some, Option.toList_none, List.cons_append, List.nil_append, if_true, if_false]
    rw [rX12_takeLetter_30 hM.1, k_settle (b := mbk T.1 m) hM (by omega) v2 hb2]
    have h1 := MS_ms (F' := F) (A' := up2 A (y + 19) m (nI 1)) (uw := T.1 11 m) (fa := 1) h hT hm (fun _ _ => rfl) (fun k k1 k2 k3 k4 => up2_row (by omega)) (fun j hj => by rw [up2_k (by omega)]) (fun j hj => up2_a hj) (by rw [up2_k (by omega)]; exact v3) (by rw [up2_eq, if_pos hs])
    have hT1 : okT (msT T m (T.1 11 m) 1) := okT_ms hT o5 (by omega)
    have e12 : (if mbk T.1 m = 25 then up2 A (y + 19) m (nI 1) else up2 (up2 A (y + 19) m (nI 1)) (y + 12) (mbk T.1 m) (A (y + 12) (mbk T.1 m) + nI 1)) = (if mbk T.1 m = 25 then up2 A (y + 19) m (nI 1) else up2 (up2 A (y + 19) m (nI 1)) (y + 12) (mbk T.1 m) (up2 A (y + 19) m (nI 1) (y + 12) (mbk T.1 m) + nI 1)) := by
      rw [up2_k (k := y + 19) (by omega)]
    rw [e12]
    have t19 := (hT.2.2.2.1.2.1 _ o2).2.2.1
    have h25 := hT.2.2.2.1.2.2.2.2.2.2.1
    have e28 := a6.2.2.1
    simp only [rX12_takeLetter_33, rX12_takeLetter_34, rX12_takeLetter_35, rX12_takeLetter_38, rX12_takeLetter_39, rX12_takeLetter_40, rX12_takeLetter_43, rX12_takeLetter_44, rX12_takeLetter_45, hM.1, e28, up2_eq, va_rf, eq_self, or_true, true_or, Option.toList_some, Option.toList_none, List.cons_append, List.nil_append, if_true, if_false]
    have held : ∀ e : ¬ mbk T.1 m = 25, (if mbk T.1 m = 25 then up2 A (y + 19) m (nI 1) else up2 (up2 A (y + 19) m (nI 1)) (y + 12) (mbk T.1 m) (up2 A (y + 19) m (nI 1) (y + 12) (mbk T.1 m) + nI 1)) (y + 8) (mbk T.1 m) = nI (T.1 19 (mbk T.1 m)) := fun e => by
      have hbn : mbk T.1 m < T.1 2 0 := by rcases o2 with o2 | o2 <;> omega
      rw [if_neg e, up2_k (by omega), up2_k (by omega)]
      exact (a2.2.2.1 _ hbn).2.2.2.1
    have frA : frM y F A F (up2 A (y + 19) m (nI 1)) := frM_A (k := 19) (by decide) (by decide)
    by_cases c2 : T.1 19 (mbk T.1 m) = 0
    · rw [if_pos c2] at hQ
      have e25 : ¬ mbk T.1 m = 25 := fun e => by rw [e, h25] at c2; cases c2
      have hlt : mbk T.1 m < 24 := by omega
      have g0 : ¬ nm3 (mbk T.1 m) = -1 := fun e => by
        rw [nm3_lt hlt] at e
        have h1 := nI_toInt (n := mbk T.1 m) (by omega)
        rw [e] at h1
        have h2 : (-1 : Int32).toInt = -1 := by decide
        omega
      have hh := held e25
      rw [c2] at hh
      have e30 : up2 F 1228 y (T.2.2 6 0 + nI 1) 1230 y = T.2.2 8 0 := by rw [up2_k (by decide)]; exact a6.2.2.2.2.1
      simp only [rX12_takeLetter_48, rX12_takeLetter_49, rX12_takeLetter_52, g0, hM.1, r8, up2_eq, va_rf, eq_self, or_true, true_or, Option.toList_some, Option.toList_none, List.cons_append, List.nil_append, if_true, if_false]
      rw [nm3_lt hlt, rX12_takeLetter_53 s8 (by omega) (by omega), hh]
      simp only [rX12_takeLetter_54, rX12_takeLetter_57, rX12_takeLetter_58, rX12_takeLetter_59, rX12_takeLetter_62, rX12_takeLetter_63, rX12_takeLetter_64, rX12_takeLetter_67, rX12_takeLetter_75, rX12_takeLetter_76, hM.1, e30, up2_eq, va_rf, eq_self, or_true, true_or, Option.toList_some, Option.toList_none, List.cons_append, List.nil_append, if_true, if_false]
      rw [← nm3_lt hlt, rX12_takeLetter_77 hM.1, k_releaseT (T := msT T m (T.1 11 m) 1) hM h1 hT1 o2 rfl]
      simp only [rX12_takeLetter_80, up2_eq, va_rf, eq_self, or_true, true_or, Option.toList_some, Option.toList_none, List.cons_append, List.nil_append, if_true, if_false]
      have h2 := MS_wi (F' := up2 (up2 F 1228 y (T.2.2 6 0 + nI 1)) 1230 y (T.2.2 8 0 + nI 1)) (la := T.1 13 0) (cm := T.2.2 6 0 + nI 1) (rp := T.2.2 7 0) (mi := T.2.2 8 0 + nI 1) h1 hT1 (fun q hq => by rw [up2_k (by omega), up2_k (by omega)]) (by rw [up2_k (by decide), up2_k (by decide)]; exact a6.2.1) (by rw [up2_k (by decide), up2_eq]) (by rw [up2_k (by decide), up2_k (by decide)]; exact a6.2.2.2.1) up2_eq
      have hT2 : okT (wiT (msT T m (T.1 11 m) 1) (T.1 13 0) (T.2.2 6 0 + nI 1) (T.2.2 7 0) (T.2.2 8 0 + nI 1)) := okT_wi hT1 hl1 hl2
      have h3 := MS_set (b := mbk T.1 m) h2 hT2 o2
      exact hQ _ _ h3 (frM_trans frA (frM_trans (frM_trans (frM_F (q := 1228) (by decide)) (frM_F (q := 1230) (by decide))) frM_stA))
    · rw [if_neg c2] at hQ
      have fin : rw_ (k + 1) mX12_takeLetter 70 [.ref y, .int (nI m), .int (nm3 (mbk T.1 m))] [] (mkh n u sh (up2 F 1228 y (T.2.2 6 0 + nI 1)) R (if mbk T.1 m = 25 then up2 A (y + 19) m (nI 1) else up2 (up2 A (y + 19) m (nI 1)) (y + 12) (mbk T.1 m) (up2 A (y + 19) m (nI 1) (y + 12) (mbk T.1 m) + nI 1)) B) Q := by
        simp only [rX12_takeLetter_70, rX12_takeLetter_71, rX12_takeLetter_72, rX12_takeLetter_75, rX12_takeLetter_76, hM.1, up2_eq, va_rf, eq_self, or_true, true_or, Option.toList_some, Option.toList_none, List.cons_append, List.nil_append, if_true, if_false]
        rw [rX12_takeLetter_77 hM.1, k_releaseT (T := msT T m (T.1 11 m) 1) hM h1 hT1 o2 rfl]
        simp only [rX12_takeLetter_80, up2_eq, va_rf, eq_self, or_true, true_or, Option.toList_some, Option.toList_none, List.cons_append, List.nil_append, if_true, if_false]
        have h2 := MS_wi (F' := up2 (up2 F 1228 y (T.2.2 6 0 + nI 1)) 1227 y (nI m)) (la := m + 1) (cm := T.2.2 6 0 + nI 1) (rp := T.2.2 7 0) (mi := T.2.2 8 0) h1 hT1 (fun q hq => by rw [up2_k (by omega), up2_k (by omega)]) (by rw [up2_eq, if_neg (by omega), Nat.add_sub_cancel]) (by rw [up2_k (by decide), up2_eq]) (by rw [up2_k (by decide), up2_k (by decide)]; exact a6.2.2.2.1) (by rw [up2_k (by decide), up2_k (by decide)]; exact a6.2.2.2.2.1)
        have hT2 : okT (wiT (msT T m (T.1 11 m) 1) (m + 1) (T.2.2 6 0 + nI 1) (T.2.2 7 0) (T.2.2 8 0)) := okT_wi hT1 hm (fun _ => by rw [Nat.add_sub_cancel]; exact hs)
        have h3 := MS_set (b := mbk T.1 m) h2 hT2 o2
        exact hQ _ _ h3 (frM_trans frA (frM_trans (frM_trans (frM_F (q := 1228) (by decide)) (frM_F (q := 1227) (by decide))) frM_stA))
      by_cases e25 : mbk T.1 m = 25
      · have g0 : nm3 (mbk T.1 m) = -1 := by unfold nm3; rw [if_pos e25]
        rw [if_pos g0]
        exact fin
      · have hlt : mbk T.1 m < 24 := by omega
        have g0 : ¬ nm3 (mbk T.1 m) = -1 := fun e => by
          rw [nm3_lt hlt] at e
          have h1 := nI_toInt (n := mbk T.1 m) (by omega)
          rw [e] at h1
          have h2 : (-1 : Int32).toInt = -1 := by decide
          omega
        have g2 : ¬ nI (T.1 19 (mbk T.1 m)) = nI 0 := nI_ne0 (by omega) (by omega)
        have hh := held e25
        rw [if_neg g0]
        simp only [rX12_takeLetter_48, rX12_takeLetter_49, rX12_takeLetter_52, hM.1, r8, up2_eq, va_rf, eq_self, or_true, true_or, Option.toList_some, Option.toList_none, List.cons_append, List.nil_append, if_true, if_false]
        rw [nm3_lt hlt, rX12_takeLetter_53 s8 (by omega) (by omega), hh]
        simp only [rX12_takeLetter_54, g2, up2_eq, va_rf, eq_self, or_true, true_or, Option.toList_some, Option.toList_none, List.cons_append, List.nil_append, if_true, if_false]
        rw [← nm3_lt hlt]
        exact fin
  · rw [if_neg c1] at hQ
    have g1 : ¬ nI (T.1 21 m) = nI 0 := nI_ne0 (by omega) (by omega)
    simp only [rX12_takeLetter_6, rX12_takeLetter_9, rX12_takeLetter_10, rX12_takeLetter_11, rX12_takeLetter_14, rX12_takeLetter_15, rX12_takeLetter_16, rX12_takeLetter_19, g1, hM.1, a6.2.2.2.1, up2_eq, va_rf, eq_self, or_true, true_or, Option.toList_some, Option.toList_none, List.cons_append, List.nil_append, if_true, if_false]
    exact hQ _ _ (MS_wi (F' := up2 F 1229 y (T.2.2 7 0 + nI 1)) (la := T.1 13 0) (cm := T.2.2 6 0) (rp := T.2.2 7 0 + nI 1) (mi := T.2.2 8 0) h hT (fun q hq => up2_k (by omega)) (by rw [up2_k (by decide)]; exact a6.2.1) (by rw [up2_k (by decide)]; exact a6.2.2.1) up2_eq (by rw [up2_k (by decide)]; exact a6.2.2.2.2.1)) (frM_F (by decide))
end MD2
