/-! ===== the reference: all candidates ===== -/
section MFC
variable {k n u : Nat} {sh : hs_} {F F' : hF_} {R : hR_} {A A' : hF_} {B : hR_} {Q : Option Value → pm_H → Prop} {y ns : Nat} {J : tJ} {sl : Nat → Nat} {S : cS} {s p : Nat}
theorem fstp_srt {nn : Nat} (hb : bytJ (J 1) ns sl) (hns : ns ≤ 8) (hS : srt J sl ns S) (hs : s < ns) (hp : p ≤ sl s) (h3 : 3 ≤ nn) : srt J sl ns (fstp (sbT J) sl ns s p S nn) := by
  unfold fstp
  split
  · rename_i h2
    have h1 := sprd_in (sb := sbT J) (sl := sl) (s := s) (p := p) (n := nn) ns (by omega)
    have h5 := sprd_le (sb := sbT J) (sl := sl) (s := s) (p := p) (n := nn) ns
    exact insP_srt hb hS ⟨hs, by show p + nn ≤ sl s; omega, h3, h1.1, by show sprd _ _ _ _ _ _ ≤ 8; omega⟩ rfl
  · exact hS
theorem fndL_srt (hb : bytJ (J 1) ns sl) (hns : ns ≤ 8) (hS : srt J sl ns S) (hs : s < ns) (hp : p ≤ sl s) : ∀ d, srt J sl ns (fndL (sbT J) sl ns s p S d)
  | 0 => hS
  | d + 1 => fstp_srt hb hns (fndL_srt hb hns hS hs hp d) hs hp (by omega)
theorem begP_srt (hb : bytJ (J 1) ns sl) (hns : ns ≤ 8) (hS : srt J sl ns S) (hs : s < ns) : ∀ p, p ≤ sl s → srt J sl ns (begP (sbT J) sl ns s S p)
  | 0, _ => hS
  | p + 1, hp => fndL_srt hb hns (begP_srt hb hns hS hs p (by omega)) hs (by omega) 10
theorem begS_srt (hb : bytJ (J 1) ns sl) (hns : ns ≤ 8) : ∀ s, s ≤ ns → srt J sl ns (begS (sbT J) sl ns s)
  | 0, _ => ⟨⟨Nat.zero_le _, fun i hi => absurd hi (Nat.not_lt_zero _)⟩, fun i j _ hj => absurd hj (Nat.not_lt_zero _), fun i hi => absurd hi (Nat.not_lt_zero _)⟩
  | s + 1, hs => begP_srt hb hns (begS_srt hb hns s (by omega)) (by omega) _ (Nat.le_refl _)
theorem fndL_stop {e : Nat} (hp : p ≤ sl s) (h : sl s < p + (3 + e)) : ∀ d, fndL (sbT J) sl ns s p S (e + d) = fndL (sbT J) sl ns s p S e
  | 0 => rfl
  | d + 1 => by
    show fstp (sbT J) sl ns s p (fndL (sbT J) sl ns s p S (e + d)) (3 + (e + d)) = _
    unfold fstp
    rw [if_neg (fun x => by have := sprd_in (sb := sbT J) (sl := sl) (s := s) (p := p) (n := 3 + (e + d)) ns (by omega); omega)]
    exact fndL_stop hp h d
theorem l_fc29 (hM : isM sh R y) (hS : mSb F A y (J 1) sl ns) (hsr : srt J sl ns S) (hs : s < ns) (hp : p < sl s)
    (hQ : ∀ F' A' x3 x4, frC12 y F A F' A' → mCs F' A' y (fndL (sbT J) sl ns s p S 10) → rw_ (k + 3) mX12_findCandidates 85 [.ref y, .int (nI s), .int (nI p), x3, x4] [] (mkh n u sh F' R A' B) Q) :
    ∀ d e F1 A1 x4, e + d = 10 → frC12 y F A F1 A1 → mCs F1 A1 y (fndL (sbT J) sl ns s p S e) → rw_ (k + 3) mX12_findCandidates 29 [.ref y, .int (nI s), .int (nI p), .int (nI (3 + e)), x4] [] (mkh n u sh F1 R A1 B) Q := by
  have r13 := hM.r 1217 13 0 8 (by decide)
  have s13 := hM.s 1217 13 0 8 (by decide)
  obtain ⟨h1, h2, h3, h4, h5⟩ := id hS
  intro d
  induction d with
  | zero =>
    intro e F1 A1 x4 he f1 f2
    have e1 : e = 10 := by omega
    subst e1
    have g1 : nI 12 < nI (3 + 10) := by decide
    simp only [rX12_findCandidates_29, rX12_findCandidates_30, rX12_findCandidates_32, g1, up2_eq, va_rf, eq_self, or_true, true_or, Option.toList_some, Option.toList_none, List.cons_append, List.nil_append, if_true, if_false]
    exact hQ F1 A1 _ _ f1 f2
  | succ d ih =>
    intro e F1 A1 x4 he f1 f2
    have g1 : ¬ nI 12 < nI (3 + e) := nI_nlt (by omega) (by omega)
    have hS1 := mSb_C hS f1
    obtain ⟨l1, l2⟩ := hS1.2.2.1 s hs
    have hsr1 := fndL_srt h5 h2 hsr hs (Nat.le_of_lt hp) e
    simp only [rX12_findCandidates_29, rX12_findCandidates_30, rX12_findCandidates_32, rX12_findCandidates_35, rX12_findCandidates_36, rX12_findCandidates_37, rX12_findCandidates_38, rX12_findCandidates_39, rX12_findCandidates_42, hM.1, g1, r13, nI_add, up2_eq, va_rf, eq_self, or_true, true_or, Option.toList_some, Option.toList_none, List.cons_append, List.nil_append, if_true, if_false]
    rw [rX12_findCandidates_43 s13 (by decide) (by omega) (by omega), l1]
    by_cases c : sl s < p + (3 + e)
    · have g2 : nI (sl s) < nI (p + (3 + e)) := nI_lt c (by omega)
      simp only [rX12_findCandidates_44, g2, up2_eq, va_rf, eq_self, or_true, true_or, Option.toList_some, Option.toList_none, List.cons_append, List.nil_append, if_true, if_false]
      have hst := fndL_stop (J := J) (ns := ns) (S := S) (Nat.le_of_lt hp) c (d + 1)
      rw [he] at hst
      rw [← hst] at f2
      exact hQ F1 A1 _ _ f1 f2
    · have g2 : ¬ nI (sl s) < nI (p + (3 + e)) := nI_nlt (by omega) (by omega)
      simp only [rX12_findCandidates_44, rX12_findCandidates_47, rX12_findCandidates_48, rX12_findCandidates_50, rX12_findCandidates_51, rX12_findCandidates_52, rX12_findCandidates_53, rX12_findCandidates_54, g2, pk_mul, nI_add, up2_eq, va_rf, eq_self, or_true, true_or, Option.toList_some, Option.toList_none, List.cons_append, List.nil_append, if_true, if_false]
      rw [rX12_findCandidates_55 hM.1]
      refine k_inMany (k := k) (J := J) hM hS1 hs (by omega) (by omega) (by omega) ?_
      have h6 := sprd_le (sb := sbT J) (sl := sl) (s := s) (p := p) (n := 3 + e) ns
      by_cases c2 : 2 ≤ sprd (sbT J) sl s p (3 + e) ns
      · have g3 : ¬ nI (sprd (sbT J) sl s p (3 + e) ns) < nI 2 := nI_nlt c2 (by omega)
        simp only [rX12_findCandidates_58, rX12_findCandidates_60, rX12_findCandidates_62, rX12_findCandidates_63, rX12_findCandidates_66, rX12_findCandidates_67, rX12_findCandidates_69, rX12_findCandidates_70, rX12_findCandidates_71, rX12_findCandidates_72, rX12_findCandidates_73, rX12_findCandidates_74, g3, pk_mul, nI_add, up2_eq, va_rf, eq_self, or_true, true_or, Option.toList_some, Option.toList_none, List.cons_append, List.nil_append, if_true, if_false]
        rw [rX12_findCandidates_76 hM.1]
        refine k_propose (k := k) (J := J) (p := (s, p, 3 + e, sprd (sbT J) sl s p (3 + e) ns)) hM hS1 f2 hsr1 ⟨hs, by show p + (3 + e) ≤ sl s; omega, by show 3 ≤ 3 + e; omega, by show 3 + e ≤ 12; omega, by show sprd _ _ _ _ _ _ ≤ 8; omega⟩ rfl ?_
        intro F2 A2 q1 q2
        simp only [rX12_findCandidates_79, rX12_findCandidates_82, nI_add, up2_eq, va_rf, eq_self, or_true, true_or, Option.toList_some, Option.toList_none, List.cons_append, List.nil_append, if_true, if_false]
        refine ih (e + 1) F2 A2 _ (by omega) (frC12_trans f1 q1) ?_
        unfold fndL fstp
        rw [if_pos c2]
        exact q2
      · have g3 : nI (sprd (sbT J) sl s p (3 + e) ns) < nI 2 := nI_lt (by omega) (by omega)
        simp only [rX12_findCandidates_58, rX12_findCandidates_60, rX12_findCandidates_62, rX12_findCandidates_63, rX12_findCandidates_79, rX12_findCandidates_82, g3, nI_add, up2_eq, va_rf, eq_self, or_true, true_or, Option.toList_some, Option.toList_none, List.cons_append, List.nil_append, if_true, if_false]
        refine ih (e + 1) F1 A1 _ (by omega) f1 ?_
        unfold fndL fstp
        rw [if_neg c2]
        exact f2
theorem l_fc17 (hM : isM sh R y) (hS : mSb F A y (J 1) sl ns) (hsr : srt J sl ns S) (hs : s < ns)
    (hQ : ∀ F' A' x2 x3 x4, frC12 y F A F' A' → mCs F' A' y (begP (sbT J) sl ns s S (sl s)) → rw_ (k + 3) mX12_findCandidates 91 [.ref y, .int (nI s), x2, x3, x4] [] (mkh n u sh F' R A' B) Q) :
    ∀ d p F1 A1 x3 x4, p + d = sl s → frC12 y F A F1 A1 → mCs F1 A1 y (begP (sbT J) sl ns s S p) → rw_ (k + 3) mX12_findCandidates 17 [.ref y, .int (nI s), .int (nI p), x3, x4] [] (mkh n u sh F1 R A1 B) Q := by
  have r13 := hM.r 1217 13 0 8 (by decide)
  have s13 := hM.s 1217 13 0 8 (by decide)
  obtain ⟨h1, h2, h3, h4, h5⟩ := id hS
  intro d
  induction d with
  | zero =>
    intro p F1 A1 x3 x4 hp f1 f2
    have e : p = sl s := by omega
    subst e
    obtain ⟨l1, l2⟩ := (mSb_C hS f1).2.2.1 s hs
    have g1 : nI (sl s) ≤ nI (sl s) := nI_le (Nat.le_refl _) (by omega)
    simp only [rX12_findCandidates_17, rX12_findCandidates_18, rX12_findCandidates_19, rX12_findCandidates_22, hM.1, r13, up2_eq, va_rf, eq_self, or_true, true_or, Option.toList_some, Option.toList_none, List.cons_append, List.nil_append, if_true, if_false]
    rw [rX12_findCandidates_23 s13 (by decide) (by omega) (by omega), l1]
    simp only [rX12_findCandidates_24, g1, up2_eq, va_rf, eq_self, or_true, true_or, Option.toList_some, Option.toList_none, List.cons_append, List.nil_append, if_true, if_false]
    exact hQ F1 A1 _ _ _ f1 f2
  | succ d ih =>
    intro p F1 A1 x3 x4 hp f1 f2
    have hS1 := mSb_C hS f1
    obtain ⟨l1, l2⟩ := hS1.2.2.1 s hs
    have g1 : ¬ nI (sl s) ≤ nI p := nI_ge (by omega) (by omega)
    simp only [rX12_findCandidates_17, rX12_findCandidates_18, rX12_findCandidates_19, rX12_findCandidates_22, hM.1, r13, up2_eq, va_rf, eq_self, or_true, true_or, Option.toList_some, Option.toList_none, List.cons_append, List.nil_append, if_true, if_false]
    rw [rX12_findCandidates_23 s13 (by decide) (by omega) (by omega), l1]
    simp only [rX12_findCandidates_24, rX12_findCandidates_27, rX12_findCandidates_28, g1, up2_eq, va_rf, eq_self, or_true, true_or, Option.toList_some, Option.toList_none, List.cons_append, List.nil_append, if_true, if_false]
    refine l_fc29 (J := J) (S := begP (sbT J) sl ns s S p) hM hS1 (begP_srt h5 h2 hsr hs p (by omega)) hs (by omega) ?_ 10 0 F1 A1 _ (Nat.zero_add _) frC12_refl f2
    intro F2 A2 x3 x4 q1 q2
    simp only [rX12_findCandidates_85, rX12_findCandidates_88, nI_add, up2_eq, va_rf, eq_self, or_true, true_or, Option.toList_some, Option.toList_none, List.cons_append, List.nil_append, if_true, if_false]
    exact ih (p + 1) F2 A2 _ _ (by omega) (frC12_trans f1 q1) q2
theorem l_fc7 (hM : isM sh R y) (hS : mSb F A y (J 1) sl ns)
    (hQ : ∀ F' A', frC12 y F A F' A' → mCs F' A' y (begS (sbT J) sl ns ns) → Q none (mkh n u sh F' R A' B)) :
    ∀ d s F1 A1 x2 x3 x4, s + d = ns → frC12 y F A F1 A1 → mCs F1 A1 y (begS (sbT J) sl ns s) → rw_ (k + 3) mX12_findCandidates 7 [.ref y, .int (nI s), x2, x3, x4] [] (mkh n u sh F1 R A1 B) Q := by
  obtain ⟨h1, h2, h3, h4, h5⟩ := id hS
  intro d
  induction d with
  | zero =>
    intro s F1 A1 x2 x3 x4 hs f1 f2
    have e : s = ns := by omega
    subst e
    have e16 := (mSb_C hS f1).1
    have g1 : nI s ≤ nI s := nI_le (Nat.le_refl _) (by omega)
    simp only [rX12_findCandidates_7, rX12_findCandidates_8, rX12_findCandidates_9, rX12_findCandidates_12, rX12_findCandidates_97, hM.1, e16, g1, up2_eq, va_rf, eq_self, or_true, true_or, Option.toList_some, Option.toList_none, List.cons_append, List.nil_append, if_true, if_false]
    exact hQ F1 A1 f1 f2
  | succ d ih =>
    intro s F1 A1 x2 x3 x4 hs f1 f2
    have hS1 := mSb_C hS f1
    have e16 := hS1.1
    have g1 : ¬ nI ns ≤ nI s := nI_ge (by omega) (by omega)
    simp only [rX12_findCandidates_7, rX12_findCandidates_8, rX12_findCandidates_9, rX12_findCandidates_12, rX12_findCandidates_15, rX12_findCandidates_16, hM.1, e16, g1, up2_eq, va_rf, eq_self, or_true, true_or, Option.toList_some, Option.toList_none, List.cons_append, List.nil_append, if_true, if_false]
    refine l_fc17 (J := J) (S := begS (sbT J) sl ns s) hM hS1 (begS_srt h5 h2 s (by omega)) (by omega) ?_ (sl s) 0 F1 A1 _ _ (Nat.zero_add _) frC12_refl f2
    intro F2 A2 x2 x3 x4 q1 q2
    simp only [rX12_findCandidates_91, rX12_findCandidates_94, nI_add, up2_eq, va_rf, eq_self, or_true, true_or, Option.toList_some, Option.toList_none, List.cons_append, List.nil_append, if_true, if_false]
    exact ih (s + 1) F2 A2 _ _ _ (by omega) (frC12_trans f1 q1) q2
theorem k_findCandidates (hM : isM sh R y) (hS : mSb F A y (J 1) sl ns)
    (hQ : ∀ F' A', frC12 y F A F' A' → mCs F' A' y (begS (sbT J) sl ns ns) → Q none (mkh n u sh F' R A' B)) :
    rc_ (k + 3) mX12_findCandidates [.ref y] (mkh n u sh F R A B) Q := by
  rw [eX12_findCandidates]
  simp only [rX12_findCandidates_0, rX12_findCandidates_1, rX12_findCandidates_2, rX12_findCandidates_5, rX12_findCandidates_6, hM.1, up2_eq, va_rf, eq_self, or_true, true_or, Option.toList_some, Option.toList_none, List.cons_append, List.nil_append, if_true, if_false]
  exact l_fc7 (J := J) (F := F) (A := A) hM hS hQ ns 0 _ A _ _ _ (Nat.zero_add _) ⟨fun q a g => up2_o g, fun _ _ => rfl⟩ ⟨up2_eq, fun i hi => absurd hi (Nat.not_lt_zero _)⟩
end MFC
