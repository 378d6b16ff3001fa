/-! ===== the reference: candidates put in their order ===== -/
section MPO
variable {k n u : Nat} {sh : hs_} {F F' : hF_} {R : hR_} {A A' : hF_} {B : hR_} {Q : Option Value → pm_H → Prop} {y ns : Nat} {J : tJ} {sl : Nat → Nat} {S : cS} {x p : cd}
theorem l_prop1 (hM : isM sh R y) (hS : mSb F A y (J 1) sl ns) (hC : mCs F A y S) (hok : okCS ns sl S) (hp : okC ns sl p)
    (hQ1 : (∃ i, i < S.2 ∧ vEq12 (J 1) (S.1 i) p) → Q none (mkh n u sh F R A B))
    (hQ0 : (∀ i, i < S.2 → ¬ vEq12 (J 1) (S.1 i) p) → ∀ x4, rw_ (k + 1) mX12_propose 46 [.ref y, .int (nI (40 * p.1 + p.2.1)), .int (nI p.2.2.1), .int (nI p.2.2.2), x4] [] (mkh n u sh F R A B) Q) :
    ∀ d i, i + d = S.2 → (∀ j, j < i → ¬ vEq12 (J 1) (S.1 j) p) → rw_ (k + 1) mX12_propose 3 [.ref y, .int (nI (40 * p.1 + p.2.1)), .int (nI p.2.2.1), .int (nI p.2.2.2), .int (nI i)] [] (mkh n u sh F R A B) Q := by
  have r34 := hM.r 1255 34 0 9 (by decide)
  have s34 := hM.s 1255 34 0 9 (by decide)
  have r35 := hM.r 1256 35 0 9 (by decide)
  have s35 := hM.s 1256 35 0 9 (by decide)
  have g : ¬ nI 1 = nI 0 := by decide
  obtain ⟨c1, c2⟩ := hC
  have h8 := hok.1
  have hp12 := hp.2.2.2.1
  intro d
  induction d with
  | zero =>
    intro i hi hno
    have e : i = S.2 := by omega
    subst e
    have g1 : nI S.2 ≤ nI S.2 := nI_le (Nat.le_refl _) (by omega)
    simp only [rX12_propose_3, rX12_propose_5, rX12_propose_6, rX12_propose_9, hM.1, c1, g1, up2_eq, va_rf, eq_self, or_true, true_or, Option.toList_some, Option.toList_none, List.cons_append, List.nil_append, if_true, if_false]
    exact hQ0 hno _
  | succ d ih =>
    intro i hi hno
    have g1 : ¬ nI S.2 ≤ nI i := nI_ge (by omega) (by omega)
    obtain ⟨e1, e2, e3⟩ := c2 i (by omega)
    have hx := hok.2 i (by omega)
    have hx12 := hx.2.2.2.1
    simp only [rX12_propose_3, rX12_propose_5, rX12_propose_6, rX12_propose_9, rX12_propose_12, rX12_propose_13, rX12_propose_16, hM.1, c1, g1, r35, up2_eq, va_rf, eq_self, or_true, true_or, Option.toList_some, Option.toList_none, List.cons_append, List.nil_append, if_true, if_false]
    rw [rX12_propose_18 s35 (by decide) (by omega) (by omega), e2]
    by_cases c : (S.1 i).2.2.1 = p.2.2.1
    · have g2 : nI (S.1 i).2.2.1 = nI p.2.2.1 := by rw [c]
      simp only [rX12_propose_19, rX12_propose_20, rX12_propose_23, rX12_propose_24, rX12_propose_25, rX12_propose_28, hM.1, g2, r34, up2_eq, va_rf, eq_self, or_true, true_or, Option.toList_some, Option.toList_none, List.cons_append, List.nil_append, if_true, if_false]
      rw [rX12_propose_30 s34 (by decide) (by omega) (by omega), e1]
      simp only [rX12_propose_31, rX12_propose_32, up2_eq, va_rf, eq_self, or_true, true_or, Option.toList_some, Option.toList_none, List.cons_append, List.nil_append, if_true, if_false]
      rw [rX12_propose_33 hM.1]
      obtain ⟨px1, px2⟩ := mSb_c hS hx
      obtain ⟨pp1, pp2⟩ := mSb_c hS hp
      refine k_isSame (fa := cbn (J 1) (S.1 i)) (fb := cbn (J 1) p) hM (by omega) pp1 (fun j hj => px2 j (by omega)) pp2 (fun hy => ?_) (fun hy => ?_)
      · simp only [rX12_propose_36, rX12_propose_39, g, up2_eq, va_rf, eq_self, or_true, true_or, Option.toList_some, Option.toList_none, List.cons_append, List.nil_append, if_true, if_false]
        exact hQ1 ⟨i, by omega, c, by rw [c]; exact hy⟩
      · simp only [rX12_propose_36, rX12_propose_40, rX12_propose_43, nI_add, up2_eq, va_rf, eq_self, or_true, true_or, Option.toList_some, Option.toList_none, List.cons_append, List.nil_append, if_true, if_false]
        refine ih (i + 1) (by omega) (fun j hj => ?_)
        by_cases z : j = i
        · rw [z]; exact fun v => hy (by rw [← c]; exact v.2)
        · exact hno j (by omega)
    · have g2 : ¬ nI (S.1 i).2.2.1 = nI p.2.2.1 := by rw [nI_eq (by omega) (by omega)]; exact c
      simp only [rX12_propose_19, rX12_propose_20, rX12_propose_40, rX12_propose_43, g2, nI_add, up2_eq, va_rf, eq_self, or_true, true_or, Option.toList_some, Option.toList_none, List.cons_append, List.nil_append, if_true, if_false]
      refine ih (i + 1) (by omega) (fun j hj => ?_)
      by_cases z : j = i
      · rw [z]; exact fun v => c v.1
      · exact hno j (by omega)
/-- those behind place c have gone one on -/
def mSh (A A1 : hF_) (y c m : Nat) : Prop := (∀ a, ¬ (y + 34 ≤ a ∧ a ≤ y + 36) → A1 a = A a) ∧ ∀ q, 34 ≤ q → q ≤ 36 → (∀ j, j ≤ c → A1 (y + q) j = A (y + q) j) ∧ ∀ j, c < j → j ≤ m → A1 (y + q) j = A (y + q) (j - 1)
theorem l_prop2 (hM : isM sh R y) (hS : mSb F A y (J 1) sl ns) (hC : mCs F A y S) (hok : okCS ns sl S) (hp : okC ns sl p)
    (hQ : ∀ w A1, w ≤ S.2 → mSh A A1 y w S.2 → (0 < w → ¬ wLt (J 1) p (S.1 (w - 1))) → (w < S.2 → wLt (J 1) p (S.1 w)) → rw_ (k + 2) mX12_propose 125 [.ref y, .int (nI (40 * p.1 + p.2.1)), .int (nI p.2.2.1), .int (nI p.2.2.2), .int (nI w)] [] (mkh n u sh F R A1 B) Q) :
    ∀ c A1, c ≤ S.2 → mSh A A1 y c S.2 → (c < S.2 → wLt (J 1) p (S.1 c)) → rw_ (k + 2) mX12_propose 52 [.ref y, .int (nI (40 * p.1 + p.2.1)), .int (nI p.2.2.1), .int (nI p.2.2.2), .int (nI c)] [] (mkh n u sh F R A1 B) Q := by
  have r34 := hM.r 1255 34 0 9 (by decide)
  have s34 := hM.s 1255 34 0 9 (by decide)
  have r35 := hM.r 1256 35 0 9 (by decide)
  have s35 := hM.s 1256 35 0 9 (by decide)
  have r36 := hM.r 1257 36 0 9 (by decide)
  have s36 := hM.s 1257 36 0 9 (by decide)
  have g : ¬ nI 1 = nI 0 := by decide
  have h8 := hok.1
  intro c
  induction c with
  | zero =>
    intro A1 hc f1 f2
    have g1 : nI 0 ≤ nI 0 := by decide
    simp only [rX12_propose_52, rX12_propose_54, g1, up2_eq, va_rf, eq_self, or_true, true_or, Option.toList_some, Option.toList_none, List.cons_append, List.nil_append, if_true, if_false]
    exact hQ 0 A1 hc f1 (fun z => absurd z (Nat.lt_irrefl _)) f2
  | succ c ih =>
    intro A1 hc f1 f2
    have g1 : ¬ nI (c + 1) ≤ nI 0 := nI_ge (by omega) (by omega)
    obtain ⟨e1, e2, e3⟩ := hC.2 c (by omega)
    have hx := hok.2 c (by omega)
    have d1 : A1 (y + 34) c = nI (40 * (S.1 c).1 + (S.1 c).2.1) := by rw [(f1.2 34 (by decide) (by decide)).1 c (by omega)]; exact e1
    have d2 : A1 (y + 35) c = nI (S.1 c).2.2.1 := by rw [(f1.2 35 (by decide) (by decide)).1 c (by omega)]; exact e2
    have d3 : A1 (y + 36) c = nI (S.1 c).2.2.2 := by rw [(f1.2 36 (by decide) (by decide)).1 c (by omega)]; exact e3
    have hS1 : mSb F A1 y (J 1) sl ns := mSb_C hS ⟨fun _ _ _ => rfl, f1.1⟩
    simp only [rX12_propose_52, rX12_propose_54, rX12_propose_57, rX12_propose_58, rX12_propose_59, rX12_propose_60, rX12_propose_61, rX12_propose_63, rX12_propose_64, g1, nI_sub1, up2_eq, va_rf, eq_self, or_true, true_or, Option.toList_some, Option.toList_none, List.cons_append, List.nil_append, if_true, if_false]
    rw [rX12_propose_65 hM.1]
    refine k_isBetter (k := k) (x := S.1 c) hM hS1 hx hp (by omega) d1 d2 d3 (fun hy => ?_) (fun hy => ?_)
    · simp only [rX12_propose_68, rX12_propose_71, rX12_propose_72, rX12_propose_75, rX12_propose_77, rX12_propose_78, rX12_propose_81, rX12_propose_83, rX12_propose_84, hM.1, g, r34, nI_sub1, up2_eq, va_rf, eq_self, or_true, true_or, Option.toList_some, Option.toList_none, List.cons_append, List.nil_append, if_true, if_false]
      rw [rX12_propose_85 s34 (by decide) (by omega) (by omega)]
      rw [rX12_propose_86 s34 (by omega) (by omega)]
      simp only [rX12_propose_87, rX12_propose_88, rX12_propose_91, rX12_propose_93, rX12_propose_94, rX12_propose_97, rX12_propose_99, rX12_propose_100, hM.1, r35, nI_sub1, up2_eq, va_rf, eq_self, or_true, true_or, Option.toList_some, Option.toList_none, List.cons_append, List.nil_append, if_true, if_false]
      rw [rX12_propose_101 s35 (by decide) (by omega) (by omega), up2_k (by omega)]
      rw [rX12_propose_102 s35 (by omega) (by omega)]
      simp only [rX12_propose_103, rX12_propose_104, rX12_propose_107, rX12_propose_109, rX12_propose_110, rX12_propose_113, rX12_propose_115, rX12_propose_116, hM.1, r36, nI_sub1, up2_eq, va_rf, eq_self, or_true, true_or, Option.toList_some, Option.toList_none, List.cons_append, List.nil_append, if_true, if_false]
      rw [rX12_propose_117 s36 (by decide) (by omega) (by omega), up2_k (by omega), up2_k (by omega)]
      rw [rX12_propose_118 s36 (by omega) (by omega)]
      simp only [rX12_propose_119, rX12_propose_122, nI_dec, up2_eq, va_rf, eq_self, or_true, true_or, Option.toList_some, Option.toList_none, List.cons_append, List.nil_append, if_true, if_false]
      refine ih _ (by omega) ⟨fun a ha => ?_, fun q q1 q2 => ⟨fun j hj => ?_, fun j hj hj2 => ?_⟩⟩ (fun _ => hy)
      · rw [up2_row (by omega), up2_row (by omega), up2_row (by omega)]; exact f1.1 a ha
      · rw [up2_a (by omega), up2_a (by omega), up2_a (by omega)]; exact (f1.2 q q1 q2).1 j (by omega)
      · by_cases z : j = c + 1
        · subst z
          have hq : q = 34 ∨ q = 35 ∨ q = 36 := by omega
          rcases hq with rfl | rfl | rfl
          · rw [up2_k (by omega), up2_k (by omega), up2_eq, Nat.add_sub_cancel]; exact (f1.2 34 q1 q2).1 c (by omega)
          · rw [up2_k (by omega), up2_eq, Nat.add_sub_cancel]; exact (f1.2 35 q1 q2).1 c (by omega)
          · rw [up2_eq, Nat.add_sub_cancel]; exact (f1.2 36 q1 q2).1 c (by omega)
        · rw [up2_a z, up2_a z, up2_a z]; exact (f1.2 q q1 q2).2 j (by omega) hj2
    · simp only [rX12_propose_68, up2_eq, va_rf, eq_self, or_true, true_or, Option.toList_some, Option.toList_none, List.cons_append, List.nil_append, if_true, if_false]
      exact hQ (c + 1) A1 hc f1 (fun _ => by rw [Nat.add_sub_cancel]; exact hy) f2
theorem k_propose (hM : isM sh R y) (hS : mSb F A y (J 1) sl ns) (hC : mCs F A y S) (hs : srt J sl ns S) (hp : okC ns sl p) (hcn : p.2.2.2 = sprd (sbT J) sl p.1 p.2.1 p.2.2.1 ns)
    (hQ : ∀ F' A', frC12 y F A F' A' → mCs F' A' y (insP (sbT J) S p) → Q none (mkh n u sh F' R A' B)) :
    rc_ (k + 2) mX12_propose [.ref y, .int (nI (40 * p.1 + p.2.1)), .int (nI p.2.2.1), .int (nI p.2.2.2)] (mkh n u sh F R A B) Q := by
  have r34 := hM.r 1255 34 0 9 (by decide)
  have s34 := hM.s 1255 34 0 9 (by decide)
  have r35 := hM.r 1256 35 0 9 (by decide)
  have s35 := hM.s 1256 35 0 9 (by decide)
  have r36 := hM.r 1257 36 0 9 (by decide)
  have s36 := hM.s 1257 36 0 9 (by decide)
  have h8 := hs.1.1
  have hb := hS.2.2.2.2
  obtain ⟨c1, c2⟩ := id hC
  rw [eX12_propose]
  simp only [rX12_propose_0, rX12_propose_1]
  refine l_prop1 (k := k + 1) (J := J) hM hS hC hs.1 hp (fun hex => ?_) (fun hno x4 => ?_) S.2 0 (Nat.zero_add _) (fun j hj => absurd hj (Nat.not_lt_zero _))
  · obtain ⟨i, hi, hy⟩ := hex
    refine hQ F A frC12_refl ?_
    have hx := hs.1.2 i hi
    have he : (S.1 i).2.2.2 = p.2.2.2 := by
      rw [hs.2.2 i hi, hcn, hy.1]
      have hx2 := hx.2.1
      have hx3 := hx.2.2.1
      have hx4 := hx.2.2.2.1
      have hy1 := hy.1
      exact sprd_same (by omega) (by omega) (by omega) hp.2.1 (fun j hj => by show nI (cbn (J 1) (S.1 i) j) = nI (cbn (J 1) p j); rw [hy.2 j (by omega)]) ns
    rw [insP_dup hb hs hp hi hy he]
    exact hC
  · simp only [rX12_propose_46, rX12_propose_47, rX12_propose_50, hM.1, c1, up2_eq, va_rf, eq_self, or_true, true_or, Option.toList_some, Option.toList_none, List.cons_append, List.nil_append, if_true, if_false]
    refine l_prop2 (k := k) (J := J) hM hS hC hs.1 hp ?_ S.2 A (Nat.le_refl _) ⟨fun _ _ => rfl, fun q _ _ => ⟨fun _ _ => rfl, fun j h1 h2 => by omega⟩⟩ (fun z => absurd z (Nat.lt_irrefl _))
    intro w A1 hw f1 f2 f3
    have hins := insP_new hb hs hp hw f2 f3 hno
    simp only [rX12_propose_125, rX12_propose_126, rX12_propose_129, rX12_propose_131, hM.1, r34, up2_eq, va_rf, eq_self, or_true, true_or, Option.toList_some, Option.toList_none, List.cons_append, List.nil_append, if_true, if_false]
    rw [rX12_propose_132 s34 (by omega) (by omega)]
    simp only [rX12_propose_133, rX12_propose_134, rX12_propose_137, rX12_propose_139, hM.1, r35, up2_eq, va_rf, eq_self, or_true, true_or, Option.toList_some, Option.toList_none, List.cons_append, List.nil_append, if_true, if_false]
    rw [rX12_propose_140 s35 (by omega) (by omega)]
    simp only [rX12_propose_141, rX12_propose_142, rX12_propose_145, rX12_propose_147, hM.1, r36, up2_eq, va_rf, eq_self, or_true, true_or, Option.toList_some, Option.toList_none, List.cons_append, List.nil_append, if_true, if_false]
    rw [rX12_propose_148 s36 (by omega) (by omega)]
    have rows : ∀ N', N' ≤ S.2 + 1 → ∀ j, j < N' → up2 (up2 (up2 A1 (y + 34) w (nI (40 * p.1 + p.2.1))) (y + 35) w (nI p.2.2.1)) (y + 36) w (nI p.2.2.2) (y + 34) j = nI (40 * (insC S.1 w p j).1 + (insC S.1 w p j).2.1) ∧ up2 (up2 (up2 A1 (y + 34) w (nI (40 * p.1 + p.2.1))) (y + 35) w (nI p.2.2.1)) (y + 36) w (nI p.2.2.2) (y + 35) j = nI (insC S.1 w p j).2.2.1 ∧ up2 (up2 (up2 A1 (y + 34) w (nI (40 * p.1 + p.2.1))) (y + 35) w (nI p.2.2.1)) (y + 36) w (nI p.2.2.2) (y + 36) j = nI (insC S.1 w p j).2.2.2 := by
      intro N' hN j hj
      unfold insC
      by_cases z : j = w
      · subst z
        rw [if_neg (Nat.lt_irrefl _), if_pos rfl]
        exact ⟨by rw [up2_k (by omega), up2_k (by omega), up2_eq], by rw [up2_k (by omega), up2_eq], up2_eq⟩
      · rw [up2_a z, up2_a z, up2_a z, up2_a z, up2_a z, up2_a z, up2_a z, up2_a z, up2_a z]
        by_cases z2 : j < w
        · rw [if_pos z2, (f1.2 34 (by decide) (by decide)).1 j (by omega), (f1.2 35 (by decide) (by decide)).1 j (by omega), (f1.2 36 (by decide) (by decide)).1 j (by omega)]
          exact c2 j (by omega)
        · rw [if_neg z2, if_neg z, (f1.2 34 (by decide) (by decide)).2 j (by omega) (by omega), (f1.2 35 (by decide) (by decide)).2 j (by omega) (by omega), (f1.2 36 (by decide) (by decide)).2 j (by omega) (by omega)]
          exact c2 (j - 1) (by omega)
    have frA : ∀ a, ¬ (y + 34 ≤ a ∧ a ≤ y + 36) → up2 (up2 (up2 A1 (y + 34) w (nI (40 * p.1 + p.2.1))) (y + 35) w (nI p.2.2.1)) (y + 36) w (nI p.2.2.2) a = A a := fun a ha => by rw [up2_row (by omega), up2_row (by omega), up2_row (by omega)]; exact f1.1 a ha
    generalize up2 (up2 (up2 A1 (y + 34) w (nI (40 * p.1 + p.2.1))) (y + 35) w (nI p.2.2.1)) (y + 36) w (nI p.2.2.2) = A2 at rows frA ⊢
    by_cases c8 : S.2 < 8
    · have g1 : ¬ nI 8 ≤ nI S.2 := nI_ge c8 (by omega)
      simp only [rX12_propose_149, rX12_propose_150, rX12_propose_151, rX12_propose_154, rX12_propose_156, rX12_propose_159, rX12_propose_160, rX12_propose_163, rX12_propose_164, rX12_propose_165, rX12_propose_170, rX12_propose_173, hM.1, c1, g1, nI_add, up2_eq, va_rf, eq_self, or_true, true_or, Option.toList_some, Option.toList_none, List.cons_append, List.nil_append, if_true, if_false]
      rw [hins, if_neg (by omega), show min (S.2 + 1) 8 = S.2 + 1 by omega] at hQ
      exact hQ _ A2 ⟨fun q a g => up2_o g, frA⟩ ⟨up2_eq, fun j hj => rows _ (Nat.le_refl _) j hj⟩
    · have e8 : S.2 = 8 := by omega
      have g1 : nI 8 ≤ nI S.2 := nI_le (by omega) (by omega)
      simp only [rX12_propose_149, rX12_propose_150, rX12_propose_151, rX12_propose_154, rX12_propose_156, rX12_propose_168, rX12_propose_170, rX12_propose_173, hM.1, c1, g1, up2_eq, va_rf, eq_self, or_true, true_or, Option.toList_some, Option.toList_none, List.cons_append, List.nil_append, if_true, if_false]
      by_cases cw : 8 ≤ w
      · rw [hins, if_pos cw] at hQ
        refine hQ _ A2 ⟨fun q a g => up2_o g, frA⟩ ⟨by rw [up2_eq, e8], fun j hj => ?_⟩
        have := rows (S.2 + 1) (Nat.le_refl _) j (by omega)
        unfold insC at this
        rw [if_pos (by omega)] at this
        exact this
      · rw [hins, if_neg cw, show min (S.2 + 1) 8 = 8 by omega] at hQ
        exact hQ _ A2 ⟨fun q a g => up2_o g, frA⟩ ⟨up2_eq, fun j hj => rows 8 (by omega) j hj⟩
end MPO
