/-! ===== the reference: deliver, latest ===== -/
section MD3
variable {k n u : Nat} {sh : hs_} {F F' : hF_} {R : hR_} {A A' : hF_} {B : hR_} {Q : Option Value → pm_H → Prop} {y : Nat} {T : TT} {b m : Nat}
theorem stT_id (hb : b < T.1 2 0) : stT T b (T.1 18 b) = T := by
  have e1 : (stT T b (T.1 18 b)).1 = T.1 := by
    show up2 (up2 (up2 T.1 18 b (T.1 18 b)) 19 b (T.1 19 b)) 20 b (T.1 20 b) = T.1
    rw [up2_id, up2_id, up2_id]
  have e2 : (stT T b (T.1 18 b)).2.2 = T.2.2 := by
    show up2 (up2 (up2 T.2.2 2 b (T.2.2 2 b)) 3 b (T.2.2 3 b)) 4 b (T.2.2 4 b) = T.2.2
    rw [up2_id, up2_id, up2_id]
  exact Prod.ext e1 (Prod.ext rfl e2)
theorem MS_gon {le : Int32} (h : MS F A y T) (hT : okT T) (hb : b < T.1 2 0) : MS F (up2 (up2 (up2 A (y + 9) b (nI 1)) (y + 10) b le) (y + 8) b (nI (relT (T.1 19 b) 1 le (T.2.2 4 b)))) y (gonT T b le) := by
  obtain ⟨v1, v2, v3, v4, v5, v6⟩ := (h.2.1.2.2.1 b hb).2.2
  exact MS_bv h hT.2.2.2.1.1 hb (fun _ _ => rfl) (fun k k1 k2 k3 => by rw [up2_row (by omega), up2_row (by omega), up2_row (by omega)]) (fun k k1 k2 j hj => by rw [up2_a hj, up2_a hj, up2_a hj]) ⟨by rw [up2_k (by omega), up2_k (by omega), up2_k (by omega)]; exact v1, up2_eq, by rw [up2_k (by omega), up2_k (by omega), up2_eq], by rw [up2_k (by omega), up2_eq], by rw [up2_k (by omega), up2_k (by omega), up2_k (by omega)]; exact v5, by rw [up2_k (by omega), up2_k (by omega), up2_k (by omega)]; exact v6⟩
theorem m_deliver {i : Int32} (hM : isM sh R y) (h : MS F A y T) (hT : okT T) (hH : hcT T.1 (T.1 2 0) ≤ 4) (hQ : mPost n u sh F R A B y (s_deliver T i) Q) : rc_ (k + 8) mX12_deliver [.ref y, .int i] (mkh n u sh F R A B) Q := by
  have h0 := MS_th (v := nI 0) h hT
  obtain ⟨a1, a2, a3, a4, a5, a6⟩ := id h0
  have h200 := hT.2.2.2.2.2.2.1.1
  have h24 := hT.2.2.2.1.1
  have e := in_ix (v := i) (n := T.1 8 0) (by omega)
  have r7 := hM.r 1210 7 0 24 (by decide)
  have s7 := hM.s 1210 7 0 24 (by decide)
  have r9 := hM.r 1212 9 1 24 (by decide)
  have s9 := hM.s 1212 9 1 24 (by decide)
  have r10 := hM.r 1213 10 0 24 (by decide)
  have s10 := hM.s 1213 10 0 24 (by decide)
  have r11 := hM.r 1214 11 0 25 (by decide)
  have s11 := hM.s 1214 11 0 25 (by decide)
  have r15 := hM.r 1220 15 0 200 (by decide)
  have s15 := hM.s 1220 15 0 200 (by decide)
  have r16 := hM.r 1221 16 0 200 (by decide)
  have s16 := hM.s 1221 16 0 200 (by decide)
  have r17 := hM.r 1222 17 0 200 (by decide)
  have s17 := hM.s 1222 17 0 200 (by decide)
  have r18 := hM.r 1223 18 0 200 (by decide)
  have s18 := hM.s 1223 18 0 200 (by decide)
  rw [eX12_deliver]
  simp only [rX12_deliver_0, rX12_deliver_1, rX12_deliver_2, rX12_deliver_5, rX12_deliver_6, rX12_deliver_7, rX12_deliver_8, rX12_deliver_11, rX12_deliver_12, hM.1, a6.1, up2_eq, va_rf, eq_self, or_true, true_or, Option.toList_some, Option.toList_none, List.cons_append, List.nil_append, if_true, if_false]
  rw [rX12_deliver_13, k_in]
  unfold s_deliver at hQ
  cases hi : ix i (T.1 8 0) with
  | none =>
    rw [hi] at hQ
    rw [if_pos (e.mpr hi)]
    simp only [rX12_deliver_16, rX12_deliver_19, rX12_deliver_21, up2_eq, va_rf, eq_self, or_true, true_or, Option.toList_some, Option.toList_none, List.cons_append, List.nil_append, if_true, if_false]
    exact hQ _ _ h0 (frM_F (by decide))
  | some m =>
    rw [hi] at hQ
    obtain ⟨hm, -, rfl⟩ := ix_some hi
    obtain ⟨⟨v1, v2, v3, v4, v5⟩, -⟩ := a6.2.2.2.2.2 m hm
    obtain ⟨o1, o2, o3, o4, o5, o6, o7⟩ := hT.2.2.2.2.2.2.1.2.1 m hm
    have hbn : T.1 9 m ≠ 3 → mbk T.1 m < T.1 2 0 := fun c => by
      have : T.1 10 m ≠ 0 := fun e => c (o3 e)
      unfold mbk
      rw [if_neg this]
      omega
    dsimp only at hQ
    have g : ¬ nI 1 = nI 0 := by decide
    rw [if_neg (fun q => by have := e.mp q; rw [hi] at this; cases this)]
    simp only [rX12_deliver_16, rX12_deliver_22, rX12_deliver_23, rX12_deliver_26, g, hM.1, r17, up2_eq, va_rf, eq_self, or_true, true_or, Option.toList_some, Option.toList_none, List.cons_append, List.nil_append, if_true, if_false]
    rw [rX12_deliver_27 s17 (by decide) (by omega) (by omega), v3]
    by_cases c : T.1 11 m = 0
    · rw [if_pos c] at hQ
      rw [c]
      simp only [rX12_deliver_28, rX12_deliver_31, rX12_deliver_33, up2_eq, va_rf, eq_self, or_true, true_or, Option.toList_some, Option.toList_none, List.cons_append, List.nil_append, if_true, if_false]
      exact hQ _ _ h0 (frM_F (by decide))
    rw [if_neg c] at hQ
    have g1 : ¬ nI (T.1 11 m) = nI 0 := nI_ne0 (by omega) (by omega)
    have g2 : nI (T.1 11 m) - nI 1 = nI (T.1 11 m - 1) := pk_sub (by omega)
    simp only [rX12_deliver_28, rX12_deliver_34, rX12_deliver_35, rX12_deliver_38, rX12_deliver_39, g1, hM.1, r17, up2_eq, va_rf, eq_self, or_true, true_or, Option.toList_some, Option.toList_none, List.cons_append, List.nil_append, if_true, if_false]
    rw [rX12_deliver_40 s17 (by decide) (by omega) (by omega), v3]
    simp only [rX12_deliver_41, rX12_deliver_42, g2, up2_eq, va_rf, eq_self, or_true, true_or, Option.toList_some, Option.toList_none, List.cons_append, List.nil_append, if_true, if_false]
    rw [rX12_deliver_43 s17 (by omega) (by omega)]
    have h1 := MS_ms (F' := up2 F 1200 y (nI 0)) (A' := up2 A (y + 17) m (nI (T.1 11 m - 1))) (uw := T.1 11 m - 1) (fa := T.1 21 m) h0 hT hm (fun _ _ => rfl) (fun k k1 k2 k3 k4 => up2_row (by omega)) (fun j hj => up2_a hj) (fun j hj => by rw [up2_k (by omega)]) up2_eq (by rw [up2_k (by omega)]; exact v5)
    have fr1 : frM y F A (up2 F 1200 y (nI 0)) (up2 A (y + 17) m (nI (T.1 11 m - 1))) := frM_trans (frM_F (by decide)) (frM_A (k := 17) (by decide) (by decide))
    have hT1 : okT (msT T m (T.1 11 m - 1) (T.1 21 m)) := okT_ms hT (by omega) o6
    simp only [rX12_deliver_44, rX12_deliver_45, rX12_deliver_48, hM.1, r16, up2_eq, va_rf, eq_self, or_true, true_or, Option.toList_some, Option.toList_none, List.cons_append, List.nil_append, if_true, if_false]
    rw [rX12_deliver_49 s16 (by decide) (by omega) (by omega), up2_k (by omega), v2]
    simp only [rX12_deliver_50, rX12_deliver_51, rX12_deliver_52, rX12_deliver_55, hM.1, r15, up2_eq, va_rf, eq_self, or_true, true_or, Option.toList_some, Option.toList_none, List.cons_append, List.nil_append, if_true, if_false]
    rw [rX12_deliver_56 s15 (by decide) (by omega) (by omega), up2_k (by omega), v1]
    have hT1e : (msT T m (T.1 11 m - 1) (T.1 21 m)).1 9 m = T.1 9 m := rfl
    have hT1b : mbk (msT T m (T.1 11 m - 1) (T.1 21 m)).1 m = mbk T.1 m := rfl
    have hT1n : (msT T m (T.1 11 m - 1) (T.1 21 m)).1 2 0 = T.1 2 0 := rfl
    have hT1m : (msT T m (T.1 11 m - 1) (T.1 21 m)).1 8 0 = T.1 8 0 := rfl
    have hT1h : hcT (msT T m (T.1 11 m - 1) (T.1 21 m)).1 (T.1 2 0) ≤ 4 := by
      have : ∀ j, hcT (msT T m (T.1 11 m - 1) (T.1 21 m)).1 j = hcT T.1 j := by
        intro j
        induction j with
        | zero => rfl
        | succ j ih =>
          show hcT (msT T m (T.1 11 m - 1) (T.1 21 m)).1 j + (if T.1 19 j = 0 then 0 else 1) = hcT T.1 j + (if T.1 19 j = 0 then 0 else 1)
          rw [ih]
      rw [this]
      exact hH
    have v4' : up2 A (y + 17) m (nI (T.1 11 m - 1)) (y + 18) m = T.2.2 5 m := by rw [up2_k (by omega)]; exact v4
    have e5 : (msT T m (T.1 11 m - 1) (T.1 21 m)).2.2 5 m = T.2.2 5 m := rfl
    unfold arr at hQ
    rw [hT1e, hT1b, e5] at hQ
    simp only [rX12_deliver_57, up2_eq, va_rf, eq_self, or_true, true_or, Option.toList_some, Option.toList_none, List.cons_append, List.nil_append, if_true, if_false]
    generalize msT T m (T.1 11 m - 1) (T.1 21 m) = T1 at hQ h1 hT1 hT1e hT1b hT1n hT1m hT1h
    generalize up2 A (y + 17) m (nI (T.1 11 m - 1)) = A1 at h1 fr1 v4' ⊢
    generalize up2 F 1200 y (nI 0) = F1 at h1 fr1 ⊢
    by_cases c0 : T.1 9 m = 0
    · rw [if_pos c0] at hQ
      rw [if_pos (by rw [c0])]
      have hb := hbn (by omega)
      rw [nm3_lt (by omega)]
      simp only [rX12_deliver_88, rX12_deliver_89, up2_eq, va_rf, eq_self, or_true, true_or, Option.toList_some, Option.toList_none, List.cons_append, List.nil_append, if_true, if_false]
      rw [rX12_deliver_90 hM.1]
      refine k_takeOffer12 hM h1 hT1 (by rw [hT1n]; exact hT1h) (by rw [hT1n]; exact hb) (fun F' A' q1 q2 => ?_)
      simp only [rX12_deliver_93, up2_eq, va_rf, eq_self, or_true, true_or, Option.toList_some, Option.toList_none, List.cons_append, List.nil_append, if_true, if_false]
      exact hQ F' A' q1 (frM_trans fr1 q2)
    rw [if_neg c0] at hQ
    rw [if_neg (by rw [nI_eq (by omega) (by omega)]; exact c0)]
    by_cases c1 : T.1 9 m = 1
    · rw [if_pos c1] at hQ
      rw [if_pos (by rw [c1])]
      have hb := hbn (by omega)
      have hb1 : mbk T.1 m < T1.1 2 0 := by rw [hT1n]; exact hb
      obtain ⟨w1, w2, w3, w4, w5, w6⟩ := (h1.2.1.2.2.1 _ hb1).2.2
      have t18 := (hT1.2.2.2.1.2.1 _ (Or.inl hb1)).2.1
      rw [nm3_lt (by omega)]
      simp only [rX12_deliver_94, rX12_deliver_95, rX12_deliver_98, hM.1, r7, up2_eq, va_rf, eq_self, or_true, true_or, Option.toList_some, Option.toList_none, List.cons_append, List.nil_append, if_true, if_false]
      rw [rX12_deliver_99 s7 (by decide) (by omega) (by omega), w1]
      unfold yesA at hQ
      by_cases d3 : T1.1 18 (mbk T.1 m) = 3
      · have d1 : ¬ T1.1 18 (mbk T.1 m) = 1 := by omega
        rw [if_neg d1, if_pos d3] at hQ
        rw [d3]
        simp only [rX12_deliver_100, rX12_deliver_101, rX12_deliver_104, rX12_deliver_105, rX12_deliver_106, rX12_deliver_107, rX12_deliver_108, rX12_deliver_111, hM.1, r11, up2_eq, va_rf, eq_self, or_true, true_or, Option.toList_some, Option.toList_none, List.cons_append, List.nil_append, if_true, if_false]
        rw [rX12_deliver_112 s11 (by decide) (by omega) (by omega), w5]
        rw [rX12_deliver_113 hM.1]
        refine k_ansT hM h1 hT1 hb1 (by decide) (by decide) (fun F' A' q1 q2 => ?_)
        simp only [rX12_deliver_116, up2_eq, va_rf, eq_self, or_true, true_or, Option.toList_some, Option.toList_none, List.cons_append, List.nil_append, if_true, if_false]
        exact hQ F' A' q1 (frM_trans fr1 q2)
      · have g3 : ¬ nI (T1.1 18 (mbk T.1 m)) = nI 3 := by rw [nI_eq (by omega) (by omega)]; exact d3
        simp only [rX12_deliver_100, rX12_deliver_101, rX12_deliver_117, rX12_deliver_118, rX12_deliver_121, rX12_deliver_122, rX12_deliver_123, rX12_deliver_126, g3, hM.1, r7, up2_eq, va_rf, eq_self, or_true, true_or, Option.toList_some, Option.toList_none, List.cons_append, List.nil_append, if_true, if_false]
        rw [rX12_deliver_127 s7 (by decide) (by omega) (by omega), w1]
        by_cases d1 : T1.1 18 (mbk T.1 m) = 1
        · rw [if_pos d1] at hQ
          rw [d1]
          simp only [rX12_deliver_128, rX12_deliver_129, rX12_deliver_132, rX12_deliver_133, up2_eq, va_rf, eq_self, or_true, true_or, Option.toList_some, Option.toList_none, List.cons_append, List.nil_append, if_true, if_false]
          rw [rX12_deliver_142 s7 (by omega) (by omega)]
          simp only [rX12_deliver_143, rX12_deliver_144, up2_eq, va_rf, eq_self, or_true, true_or, Option.toList_some, Option.toList_none, List.cons_append, List.nil_append, if_true, if_false]
          exact hQ _ _ (MS_st (st := 2) h1 (by rw [hT1n]; exact h24) hb1) (frM_trans fr1 (frM_A (k := 7) (by decide) (by decide)))
        · rw [if_neg d1, if_neg d3] at hQ
          have g4 : ¬ nI (T1.1 18 (mbk T.1 m)) = nI 1 := by rw [nI_eq (by omega) (by omega)]; exact d1
          simp only [rX12_deliver_128, rX12_deliver_129, rX12_deliver_136, rX12_deliver_137, rX12_deliver_140, g4, hM.1, r7, up2_eq, va_rf, eq_self, or_true, true_or, Option.toList_some, Option.toList_none, List.cons_append, List.nil_append, if_true, if_false]
          rw [rX12_deliver_141 s7 (by decide) (by omega) (by omega), w1]
          rw [rX12_deliver_142 s7 (by omega) (by omega)]
          simp only [rX12_deliver_143, rX12_deliver_144, up2_eq, va_rf, eq_self, or_true, true_or, Option.toList_some, Option.toList_none, List.cons_append, List.nil_append, if_true, if_false]
          have h2 := MS_st (st := T1.1 18 (mbk T.1 m)) h1 (by rw [hT1n]; exact h24) hb1
          rw [stT_id hb1] at h2
          exact hQ _ _ h2 (frM_trans fr1 (frM_A (k := 7) (by decide) (by decide)))
    rw [if_neg c1] at hQ
    rw [if_neg (by rw [nI_eq (by omega) (by omega)]; exact c1)]
    by_cases c2 : T.1 9 m = 2
    · rw [if_pos c2] at hQ
      rw [if_pos (by rw [c2])]
      have hb := hbn (by omega)
      have hb1 : mbk T.1 m < T1.1 2 0 := by rw [hT1n]; exact hb
      obtain ⟨w1, w2, w3, w4, w5, w6⟩ := (h1.2.1.2.2.1 _ hb1).2.2
      have t18 := (hT1.2.2.2.1.2.1 _ (Or.inl hb1)).2.1
      rw [nm3_lt (by omega)]
      simp only [rX12_deliver_145, rX12_deliver_146, rX12_deliver_149, rX12_deliver_150, rX12_deliver_151, rX12_deliver_154, hM.1, r7, up2_eq, va_rf, eq_self, or_true, true_or, Option.toList_some, Option.toList_none, List.cons_append, List.nil_append, if_true, if_false]
      rw [rX12_deliver_155 s7 (by decide) (by omega) (by omega), w1]
      unfold noA at hQ
      by_cases d1 : T1.1 18 (mbk T.1 m) = 1
      · rw [if_pos d1] at hQ
        rw [d1]
        simp only [rX12_deliver_156, rX12_deliver_157, rX12_deliver_160, rX12_deliver_161, up2_eq, va_rf, eq_self, or_true, true_or, Option.toList_some, Option.toList_none, List.cons_append, List.nil_append, if_true, if_false]
        rw [rX12_deliver_170 s7 (by omega) (by omega)]
        simp only [rX12_deliver_171, rX12_deliver_172, up2_eq, va_rf, eq_self, or_true, true_or, Option.toList_some, Option.toList_none, List.cons_append, List.nil_append, if_true, if_false]
        exact hQ _ _ (MS_st (st := 0) h1 (by rw [hT1n]; exact h24) hb1) (frM_trans fr1 (frM_A (k := 7) (by decide) (by decide)))
      · rw [if_neg d1] at hQ
        have g4 : ¬ nI (T1.1 18 (mbk T.1 m)) = nI 1 := by rw [nI_eq (by omega) (by omega)]; exact d1
        simp only [rX12_deliver_156, rX12_deliver_157, rX12_deliver_164, rX12_deliver_165, rX12_deliver_168, g4, hM.1, r7, up2_eq, va_rf, eq_self, or_true, true_or, Option.toList_some, Option.toList_none, List.cons_append, List.nil_append, if_true, if_false]
        rw [rX12_deliver_169 s7 (by decide) (by omega) (by omega), w1]
        rw [rX12_deliver_170 s7 (by omega) (by omega)]
        simp only [rX12_deliver_171, rX12_deliver_172, up2_eq, va_rf, eq_self, or_true, true_or, Option.toList_some, Option.toList_none, List.cons_append, List.nil_append, if_true, if_false]
        have h2 := MS_st (st := T1.1 18 (mbk T.1 m)) h1 (by rw [hT1n]; exact h24) hb1
        rw [stT_id hb1] at h2
        exact hQ _ _ h2 (frM_trans fr1 (frM_A (k := 7) (by decide) (by decide)))
    rw [if_neg c2] at hQ
    rw [if_neg (by rw [nI_eq (by omega) (by omega)]; exact c2)]
    by_cases c3 : T.1 9 m = 3
    · rw [if_pos c3] at hQ
      rw [if_pos (by rw [c3])]
      simp only [rX12_deliver_173, rX12_deliver_174, up2_eq, va_rf, eq_self, or_true, true_or, Option.toList_some, Option.toList_none, List.cons_append, List.nil_append, if_true, if_false]
      rw [rX12_deliver_175 hM.1]
      refine k_takeLetter12 hM h1 hT1 (by rw [hT1m]; exact hm) (by rw [hT1e]; exact c3) (fun F' A' q1 q2 => ?_)
      simp only [rX12_deliver_178, rX12_deliver_179, up2_eq, va_rf, eq_self, or_true, true_or, Option.toList_some, Option.toList_none, List.cons_append, List.nil_append, if_true, if_false]
      exact hQ F' A' q1 (frM_trans fr1 q2)
    rw [if_neg c3] at hQ
    rw [if_neg (by rw [nI_eq (by omega) (by omega)]; exact c3)]
    have hb := hbn c3
    have hb1 : mbk T.1 m < T1.1 2 0 := by rw [hT1n]; exact hb
    obtain ⟨w1, w2, w3, w4, w5, w6⟩ := (h1.2.1.2.2.1 _ hb1).2.2
    rw [nm3_lt (by omega)]
    simp only [rX12_deliver_180, rX12_deliver_181, rX12_deliver_184, rX12_deliver_185, hM.1, r9, up2_eq, va_rf, eq_self, or_true, true_or, Option.toList_some, Option.toList_none, List.cons_append, List.nil_append, if_true, if_false]
    rw [rX12_deliver_186 s9 (by omega) (by omega) (Or.inr rfl)]
    simp only [rX12_deliver_187, rX12_deliver_188, rX12_deliver_191, rX12_deliver_192, rX12_deliver_193, rX12_deliver_196, hM.1, r10, r18, up2_eq, va_rf, eq_self, or_true, true_or, Option.toList_some, Option.toList_none, List.cons_append, List.nil_append, if_true, if_false]
    rw [rX12_deliver_197 s18 (by decide) (by omega) (by omega), up2_k (by omega), v4']
    rw [rX12_deliver_198 s10 (by omega) (by omega)]
    simp only [rX12_deliver_199, rX12_deliver_200, up2_eq, va_rf, eq_self, or_true, true_or, Option.toList_some, Option.toList_none, List.cons_append, List.nil_append, if_true, if_false]
    rw [rX12_deliver_201 hM.1, k_release (hd := T1.1 19 (mbk T.1 m)) (go := 1) (tg := T.2.2 5 m) (se := T1.2.2 4 (mbk T.1 m)) hM (by omega) (by rw [up2_k (by omega), up2_k (by omega)]; exact w2) (by rw [up2_k (by omega), up2_eq]) (Nat.le_refl _) up2_eq (by rw [up2_k (by omega), up2_k (by omega)]; exact w6)]
    simp only [rX12_deliver_204, rX12_deliver_205, up2_eq, va_rf, eq_self, or_true, true_or, Option.toList_some, Option.toList_none, List.cons_append, List.nil_append, if_true, if_false]
    exact hQ _ _ (MS_gon (le := T.2.2 5 m) h1 hT1 hb1) (frM_trans fr1 (frM_trans (frM_A (k := 9) (by decide) (by decide)) (frM_trans (frM_A (k := 10) (by decide) (by decide)) (frM_A (k := 8) (by decide) (by decide)))))
theorem l_latest {lm l : Nat} (hM : isM sh R y) (hm : lm ≤ 120) (hl : l < 200) (h4 : F 1204 y = nI lm) (h27 : F 1227 y = nI l)
    (hQ : ∀ A', (∀ a, a ≠ y + 2 → A' a = A a) → (∀ j, j < lm → A' (y + 2) j = A (y + 21) (120 * l + j)) → Q (some (.int (nI lm))) (mkh n u sh F R A' B)) :
    ∀ d i A1, i + d = lm → (∀ a, a ≠ y + 2 → A1 a = A a) → (∀ j, j < i → A1 (y + 2) j = A (y + 21) (120 * l + j)) → rw_ k mX12_latest 30 [.ref y, .int (nI i)] [] (mkh n u sh F R A1 B) Q := by
  have r2 := hM.r 1203 2 0 400 (by decide)
  have s2 := hM.s 1203 2 0 400 (by decide)
  have r21 := hM.r 1226 21 0 24000 (by decide)
  have s21 := hM.s 1226 21 0 24000 (by decide)
  intro d
  induction d with
  | zero =>
    intro i A1 hi f1 f2
    have e : i = lm := by omega
    subst e
    have g1 : nI i ≤ nI i := nI_le (Nat.le_refl _) (by omega)
    simp only [rX12_latest_30, rX12_latest_31, rX12_latest_32, rX12_latest_35, rX12_latest_64, rX12_latest_65, rX12_latest_68, hM.1, h4, g1, up2_eq, va_rf, eq_self, or_true, true_or, Option.toList_some, Option.toList_none, List.cons_append, List.nil_append, if_true, if_false]
    exact hQ A1 f1 f2
  | succ d ih =>
    intro i A1 hi f1 f2
    have g1 : ¬ nI lm ≤ nI i := nI_ge (by omega) (by omega)
    simp only [rX12_latest_30, rX12_latest_31, rX12_latest_32, rX12_latest_35, rX12_latest_38, rX12_latest_39, rX12_latest_42, rX12_latest_43, rX12_latest_44, rX12_latest_47, rX12_latest_49, rX12_latest_50, rX12_latest_53, rX12_latest_54, rX12_latest_55, hM.1, h4, h27, g1, r2, r21, pk_mul, nI_add, up2_eq, va_rf, eq_self, or_true, true_or, Option.toList_some, Option.toList_none, List.cons_append, List.nil_append, if_true, if_false]
    rw [rX12_latest_56 s21 (by decide) (by omega) (by omega)]
    rw [rX12_latest_57 s2 (by omega) (by omega)]
    simp only [rX12_latest_58, rX12_latest_61, nI_add]
    refine ih (i + 1) _ (by omega) (fun a ha => by rw [up2_row ha]; exact f1 a ha) (fun j hj => ?_)
    by_cases e : j = i
    · subst e; rw [up2_eq, f1 _ (by omega)]
    · rw [up2_a e]; exact f2 j (by omega)
theorem m_latest (hM : isM sh R y) (h : MS F A y T) (hT : okT T) (hQ : mPost n u sh F R A B y (s_latest T) Q) : rc_ (k + 8) mX12_latest [.ref y] (mkh n u sh F R A B) Q := by
  have h0 := MS_th (v := nI 0) h hT
  obtain ⟨a1, a2, a3, a4, a5, a6⟩ := id h0
  obtain ⟨o1, o2, o3, o4⟩ := hT.2.2.2.2.2.2.1
  have h27 := a6.2.1
  rw [eX12_latest]
  unfold s_latest at hQ
  by_cases c : T.1 13 0 = 0
  · rw [if_pos c] at hQ h27
    simp only [rX12_latest_0, rX12_latest_1, rX12_latest_2, rX12_latest_5, rX12_latest_6, rX12_latest_9, rX12_latest_10, rX12_latest_13, rX12_latest_14, hM.1, h27, up2_eq, va_rf, eq_self, or_true, true_or, Option.toList_some, Option.toList_none, List.cons_append, List.nil_append, if_true, if_false]
    exact hQ _ _ h0 (frM_F (by decide))
  · rw [if_neg c] at hQ h27
    have hl : T.1 13 0 - 1 < T.1 8 0 := by omega
    have hs3 := o4 c
    generalize T.1 13 0 - 1 = l at hQ h27 hl hs3
    obtain ⟨-, v6⟩ := a6.2.2.2.2.2 l hl
    obtain ⟨x1, x2⟩ := v6 hs3
    have hlm := ((o2 l hl).2.2.2.2.2.2 hs3).1
    have g0 : ¬ nI l = -1 := fun e => by
      have h1 := nI_toInt (n := l) (by omega)
      rw [e] at h1
      have h2 : (-1 : Int32).toInt = -1 := by decide
      omega
    simp only [rX12_latest_0, rX12_latest_1, rX12_latest_2, rX12_latest_5, rX12_latest_6, rX12_latest_9, rX12_latest_10, rX12_latest_15, rX12_latest_16, rX12_latest_17, rX12_latest_20, rX12_latest_21, hM.1, h27, g0, hM.r 1225 20 0 200 (by decide), up2_eq, va_rf, eq_self, or_true, true_or, Option.toList_some, Option.toList_none, List.cons_append, List.nil_append, if_true, if_false]
    rw [rX12_latest_24 (hM.s 1225 20 0 200 (by decide)) (by decide) (by omega) (by omega), x1]
    simp only [rX12_latest_25, rX12_latest_28, rX12_latest_29, hM.1, up2_eq, va_rf, eq_self, or_true, true_or, Option.toList_some, Option.toList_none, List.cons_append, List.nil_append, if_true, if_false]
    refine l_latest (lm := T.1 12 l) (l := l) hM hlm (by omega) up2_eq (by rw [up2_k (by decide)]; exact h27) ?_ (T.1 12 l) 0 A (by omega) (fun _ _ => rfl) (fun j hj => absurd hj (Nat.not_lt_zero _))
    intro A' f1 f2
    exact hQ _ _ (MS_TO h hT (fun q hq => by rw [up2_k (by omega), up2_k (by omega)]) (fun k k1 k2 hk => f1 _ (by omega)) (by rw [up2_k (by decide)]; exact a1.1.1) (fun j hj => by rw [f1 _ (by omega)]; exact a1.1.2 j hj) up2_eq (fun j hj => by rw [f2 j hj]; exact x2 j hj)) ⟨fun q a g => by rw [up2_o (by omega), up2_o (by omega)], fun a g => f1 a (by omega)⟩
end MD3
