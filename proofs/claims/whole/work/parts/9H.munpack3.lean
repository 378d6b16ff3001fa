/-! ===== the reference: unpack, from its first call ===== -/
section MU3
variable {k n u : Nat} {sh : hs_} {F F' F0 : hF_} {R : hR_} {A A' A0 : hF_} {B : hR_} {Q : Option Value → pm_H → Prop} {y N : Nat} {b : Nat → Nat} {st : rst} {T : TT} {x1 x2 x3 x4 : Value}
theorem okR_0 : okR (0, 0, 0) N := ⟨by show 0 < 7; omega, Nat.zero_le _, Nat.zero_le _⟩
/-- behind the size -/
theorem l_u104 (hM : isM sh R y) (h0 : MS F0 A0 y T) (hT : okT T) (hfr : frU12 y F0 A0 F A) (h02 : F 1202 y = nI 0) (hb : mBi F A y N b) (h : mRd F y st) (hok : okR st N) (hf : ¬ st.2.1 = 0) (hg : mGt F A y 0 (fun _ => 0))
    (hQ : mPost n u sh F0 R A0 B y (suT T st.2.1 st.2.2 0 (fun _ => 0)) Q) : rw_ (k + 1) mX12_unpack 87 [.ref y, x1, x2, x3, x4] [] (mkh n u sh F R A B) Q := by
  have e49 := h.1
  have h7 := hok.1
  have g1 : ¬ nI st.2.1 = nI 0 := nI_ne0 (by omega) (by omega)
  simp only [rX12_unpack_87, rX12_unpack_88, rX12_unpack_91, rX12_unpack_103, rX12_unpack_104, rX12_unpack_105, rX12_unpack_106, rX12_unpack_109, hM.1, e49, g1, up2_eq, va_rf, eq_self, or_true, true_or, Option.toList_some, Option.toList_none, List.cons_append, List.nil_append, if_true, if_false]
  exact l_u124f (S := (st, 0, fun _ => 0)) hM h0 hT hfr h02 hb h hg hok (Nat.zero_le _) hf hQ
theorem m_unpack (hM : isM sh R y) (h : MS F A y T) (hT : okT T) (hQ : mPost n u sh F R A B y (s_unpack T) Q) : rc_ (k + 8) mX12_unpack [.ref y] (mkh n u sh F R A B) Q := by
  have t0 := hT.1.1
  have h24 := hT.2.2.2.1.1
  have e02 : F 1202 y = nI (T.1 0 0) := h.1.1.1
  rw [su_un] at hQ
  unfold rdT at hQ
  rw [eX12_unpack]
  simp only [rX12_unpack_0, rX12_unpack_1, rX12_unpack_2, rX12_unpack_5, rX12_unpack_6, rX12_unpack_7, rX12_unpack_10, rX12_unpack_11, hM.1, up2_eq, va_rf, eq_self, or_true, true_or, Option.toList_some, Option.toList_none, List.cons_append, List.nil_append, if_true, if_false]
  refine l_uTape (k := k + 7) (F := up2 (up2 F 1200 y (nI 0)) 1247 y (nI 0)) (A := A) (bl := T.1 30) hM (by rw [up2_k (by decide), up2_k (by decide)]; exact e02) t0 (fun j hj => ⟨h.1.1.2 j hj, hT.1.2 j hj⟩) ?_ (T.1 0 0) 0 _ A (Nat.zero_add _) frW12_refl ⟨up2_eq, fun j hj => absurd hj (Nat.not_lt_zero _)⟩
  intro F1 A1 x1 f1 w1
  have e2 := pbS_2 (st := ((fun _ => false), 0)) (bl := T.1 30) (p := 0) (T.1 0 0)
  dsimp only at e2
  have hbi : mBi F1 A1 y (8 * T.1 0 0) (bof (T.1 30)) := ⟨by rw [w1.1, e2, Nat.zero_add], by omega, bof_lt, fun j hj => by rw [w1.2 j (by omega), pbS_bof _ j hj]⟩
  have cF1 : ∀ q a, ¬ ((q = 1200 ∨ q = 1247) ∧ a = y) → F1 q a = F q a := fun q a g => by rw [f1.1 q a (by omega), up2_o (by omega), up2_o (by omega)]
  simp only [rX12_unpack_38, rX12_unpack_39, rX12_unpack_40, rX12_unpack_43, rX12_unpack_44, rX12_unpack_45, rX12_unpack_48, rX12_unpack_49, rX12_unpack_50, rX12_unpack_53, rX12_unpack_54, rX12_unpack_55, rX12_unpack_58, rX12_unpack_59, hM.1, up2_eq, va_rf, eq_self, or_true, true_or, Option.toList_some, Option.toList_none, List.cons_append, List.nil_append, if_true, if_false]
  have hfr : frU12 y F A (up2 (up2 (up2 (up2 F1 1202 y (nI 0)) 1248 y (nI 0)) 1249 y (nI 0)) 1253 y (nI 0)) A1 := ⟨fun q a g => by rw [up2_o (by omega), up2_o (by omega), up2_o (by omega), up2_o (by omega), cF1 q a (by omega)], fun a g1 g2 => f1.2 a g1⟩
  have h02 : up2 (up2 (up2 (up2 F1 1202 y (nI 0)) 1248 y (nI 0)) 1249 y (nI 0)) 1253 y (nI 0) 1202 y = nI 0 := by rw [up2_k (by decide), up2_k (by decide), up2_k (by decide), up2_eq]
  have hrd : mRd (up2 (up2 (up2 (up2 F1 1202 y (nI 0)) 1248 y (nI 0)) 1249 y (nI 0)) 1253 y (nI 0)) y (0, 0, 0) := ⟨by rw [up2_k (by decide), up2_eq], fun _ => by rw [up2_k (by decide), up2_k (by decide), up2_eq], fun e => absurd rfl e⟩
  have hgt : mGt (up2 (up2 (up2 (up2 F1 1202 y (nI 0)) 1248 y (nI 0)) 1249 y (nI 0)) 1253 y (nI 0)) A1 y 0 (fun _ => 0) := ⟨up2_eq, fun j hj => absurd hj (Nat.not_lt_zero _)⟩
  have hbi2 : mBi (up2 (up2 (up2 (up2 F1 1202 y (nI 0)) 1248 y (nI 0)) 1249 y (nI 0)) 1253 y (nI 0)) A1 y (8 * T.1 0 0) (bof (T.1 30)) := ⟨by rw [up2_k (by decide), up2_k (by decide), up2_k (by decide), up2_k (by decide)]; exact hbi.1, hbi.2⟩
  have e05 : up2 (up2 (up2 (up2 F1 1202 y (nI 0)) 1248 y (nI 0)) 1249 y (nI 0)) 1253 y (nI 0) 1205 y = nI (T.1 2 0) := by rw [up2_k (by decide), up2_k (by decide), up2_k (by decide), up2_k (by decide), cF1 _ _ (by omega)]; exact h.2.1.1
  generalize up2 (up2 (up2 (up2 F1 1202 y (nI 0)) 1248 y (nI 0)) 1249 y (nI 0)) 1253 y (nI 0) = F2 at *
  generalize bof (T.1 30) = b at *
  generalize 8 * T.1 0 0 = N at *
  rw [rX12_unpack_60 hM.1]
  refine k_read12 (k := k + 6) hM hbi2 hrd okR_0 (by omega) ?_
  intro F3 v q1 q2 q3
  have ok1 : okR (rdB (0, 0, 0) 5 N) N := okR_B okR_0
  have h7 := ok1.1
  have e49 := q2.1
  have hfr3 := frU_G hfr (frR_G (A := A1) q1)
  have h023 : F3 1202 y = nI 0 := by rw [q1 _ _ (by omega)]; exact h02
  have hb3 := mBi_R hbi2 q1
  have hg3 := mGt_R hgt q1
  unfold rdAll at hQ
  by_cases c0 : (rdB (0, 0, 0) 5 N).2.1 = 0
  · rw [if_pos c0] at hQ
    rw [c0] at e49
    have hv := q3 c0
    dsimp only at hv
    subst hv
    have hg32 : bv b 0 5 < 32 := bv_lt hbi2.2.2.1 5
    rw [lk_bx (by omega) h24] at hQ
    have e05' : F3 1205 y = nI (T.1 2 0) := by rw [q1 _ _ (by omega)]; exact e05
    simp only [rX12_unpack_63, rX12_unpack_64, rX12_unpack_65, rX12_unpack_66, rX12_unpack_67, rX12_unpack_70, rX12_unpack_73, rX12_unpack_74, hM.1, e49, up2_eq, va_rf, eq_self, or_true, true_or, Option.toList_some, Option.toList_none, List.cons_append, List.nil_append, if_true, if_false]
    rw [rX12_unpack_75 hM.1, k_isBookOr (k := k + 5) hM e05' h24]
    cases hi : bx (nI (bv b 0 5) - nI 1) (T.1 2 0) with
    | none =>
      rw [hi] at hQ
      simp only [Option.map_none] at hQ
      rw [if_pos rfl]
      simp only [rX12_unpack_78, rX12_unpack_81, rX12_unpack_82, rX12_unpack_83, up2_eq, va_rf, eq_self, or_true, true_or, Option.toList_some, Option.toList_none, List.cons_append, List.nil_append, if_true, if_false]
      rw [rX12_unpack_84 hM.1]
      refine k_wrong hM q2 h7 (by decide) ?_
      intro F4 t1 t2
      simp only [up2_eq, va_rf, eq_self, or_true, true_or, Option.toList_some, Option.toList_none, List.cons_append, List.nil_append, if_true, if_false]
      obtain ⟨w1, w2⟩ := rdN_f12 (code := 2) (wh := 0) c0
      exact l_u104 (k := k + 7) hM h hT (frU_G hfr3 (frR_G t1)) (by rw [t1 _ _ (by omega)]; exact h023) (mBi_R hb3 t1) t2 (okR_N ok1 (by decide) (Nat.zero_le _)) (by rw [w1]; decide) (mGt_R hg3 t1) hQ
    | some bb =>
      rw [hi] at hQ
      simp only [Option.map_some] at hQ
      have g : ¬ nI 1 = nI 0 := by decide
      rw [if_neg (by simp)]
      simp only [rX12_unpack_78, rX12_unpack_87, rX12_unpack_88, rX12_unpack_91, rX12_unpack_94, hM.1, g, e49, up2_eq, va_rf, eq_self, or_true, true_or, Option.toList_some, Option.toList_none, List.cons_append, List.nil_append, if_true, if_false]
      rw [rX12_unpack_95 hM.1]
      refine k_readG12 (k := k + 5) hM hb3 q2 ok1 ?_
      intro F4 v4 t1 t2 t3 t4
      have okG : okR (rgS b N (rdB (0, 0, 0) 5 N)) N := okR_gS ok1
      have h7g := okG.1
      have e49g := t2.1
      have hfr4 := frU_G hfr3 (frR_G (A := A1) t1)
      have h024 : F4 1202 y = nI 0 := by rw [t1 _ _ (by omega)]; exact h023
      have hb4 := mBi_R hb3 t1
      have hg4 := mGt_R hg3 t1
      have hl2 : ∀ x, (rgL b N (rdB (0, 0, 0) 5 N).1 8 0 (rdB (0, 0, 0) 5 N)) = x → rgS b N (rdB (0, 0, 0) 5 N) = x.2 := fun x hx => by rw [← hx]; rfl
      by_cases c1 : (rgS b N (rdB (0, 0, 0) 5 N)).2.1 = 0
      · obtain ⟨r1, r2, r3⟩ := rgV_ok hbi2.2.2.1 c1
        have hv4 := t3 c1
        subst hv4
        rw [c1] at e49g
        unfold rsz at hQ
        dsimp only at hQ
        rw [r3, pk_sub r1] at hQ
        by_cases c2 : rgV b N (rdB (0, 0, 0) 5 N) - 1 ≤ 120
        · have g2 : nI (rgV b N (rdB (0, 0, 0) 5 N) - 1) ≤ nI 120 := nI_le c2 (by omega)
          rw [if_pos g2, if_pos c1, nI_clamp (by omega)] at hQ
          simp only [rX12_unpack_98, rX12_unpack_99, rX12_unpack_100, rX12_unpack_104, rX12_unpack_105, rX12_unpack_106, rX12_unpack_109, rX12_unpack_112, rX12_unpack_113, rX12_unpack_115, hM.1, e49g, pk_sub r1, g2, up2_eq, va_rf, eq_self, or_true, true_or, Option.toList_some, Option.toList_none, List.cons_append, List.nil_append, if_true, if_false]
          have hB := MS_bo h hT hi
          obtain ⟨k1, k2, k3, k4, k5, k6, k7⟩ := (hT.2.2.2.1.2.1 bb (bx_some hi)).1
          refine l_uParts (k := k + 3) (f := T.2.1 0 bb) hM h hT c2 hB k1 k2 k3 (okT_ne hT hi) k7 120 (rgS b N (rdB (0, 0, 0) 5 N), 0, fun _ => 0) F4 A1 hfr4 h024 hb4 t2 hg4 ⟨okG, Nat.zero_le _, fun j hj => absurd hj (Nat.not_lt_zero _)⟩ (fun _ => by show _ ≤ 0 + 120; omega) ?_
          exact hQ
        · have g2 : ¬ nI (rgV b N (rdB (0, 0, 0) 5 N) - 1) ≤ nI 120 := nI_ge (by omega) (by omega)
          obtain ⟨w1, w2⟩ := rdN_f12 (code := 4) (wh := 5) c1
          rw [if_neg g2, if_neg (by rw [w1]; decide)] at hQ
          have hN5 : 5 ≤ N := by
            by_cases z : 5 ≤ N
            · exact z
            · rw [rdB_no rfl (by show N < 0 + 5; omega)] at c0
              exact absurd c0 (show ¬ 1 = 0 by decide)
          simp only [rX12_unpack_98, rX12_unpack_99, rX12_unpack_100, rX12_unpack_104, rX12_unpack_105, rX12_unpack_106, rX12_unpack_109, rX12_unpack_112, rX12_unpack_113, rX12_unpack_115, rX12_unpack_118, rX12_unpack_119, rX12_unpack_120, hM.1, e49g, pk_sub r1, g2, up2_eq, va_rf, eq_self, or_true, true_or, Option.toList_some, Option.toList_none, List.cons_append, List.nil_append, if_true, if_false]
          rw [rX12_unpack_121 hM.1]
          refine k_wrong hM t2 h7g (by decide) ?_
          intro F5 p1 p2
          simp only [up2_eq, va_rf, eq_self, or_true, true_or, Option.toList_some, Option.toList_none, List.cons_append, List.nil_append, if_true, if_false]
          exact l_u124f (k := k + 7) (S := (rdN (rgS b N (rdB (0, 0, 0) 5 N)) 4 5, 0, fun _ => 0)) hM h hT (frU_G hfr4 (frR_G p1)) (by rw [p1 _ _ (by omega)]; exact h024) (mBi_R hb4 p1) p2 (mGt_R hg4 p1) (okR_N okG (by decide) hN5) (Nat.zero_le _) (by show ¬ (rdN (rgS b N (rdB (0, 0, 0) 5 N)) 4 5).2.1 = 0; rw [w1]; decide) hQ
      · have hrs : (rsz b N (rdB (0, 0, 0) 5 N)).2 = rgS b N (rdB (0, 0, 0) 5 N) := by
          unfold rsz
          dsimp only
          split
          · rfl
          · unfold rdN; rw [if_neg c1]
        rw [hrs, if_neg c1] at hQ
        have g2 : ¬ nI (rgS b N (rdB (0, 0, 0) 5 N)).2.1 = nI 0 := nI_ne0 (by omega) (by omega)
        simp only [rX12_unpack_98, rX12_unpack_99, rX12_unpack_100, rX12_unpack_104, rX12_unpack_105, rX12_unpack_106, rX12_unpack_109, hM.1, e49g, g2, up2_eq, va_rf, eq_self, or_true, true_or, Option.toList_some, Option.toList_none, List.cons_append, List.nil_append, if_true, if_false]
        exact l_u124f (k := k + 7) (S := (rgS b N (rdB (0, 0, 0) 5 N), 0, fun _ => 0)) hM h hT hfr4 h024 hb4 t2 hg4 okG (Nat.zero_le _) c1 hQ
  · rw [if_neg c0] at hQ
    have g1 : ¬ nI (rdB (0, 0, 0) 5 N).2.1 = nI 0 := nI_ne0 (by omega) (by omega)
    simp only [rX12_unpack_63, rX12_unpack_64, rX12_unpack_65, rX12_unpack_66, rX12_unpack_67, rX12_unpack_70, hM.1, e49, g1, up2_eq, va_rf, eq_self, or_true, true_or, Option.toList_some, Option.toList_none, List.cons_append, List.nil_append, if_true, if_false]
    exact l_u104 (k := k + 7) hM h hT hfr3 h023 hb3 q2 ok1 c0 hg3 hQ
end MU3
