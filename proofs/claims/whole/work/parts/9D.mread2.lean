/-! ===== the reference: parts read ===== -/
/-- the letter so far -/
def mGt (F : hF_) (A : hF_) (y m : Nat) (L : Nat → Nat) : Prop := F 1253 y = nI m ∧ ∀ j, j < m → A (y + 33) j = nI (L j)
def frG12 (y : Nat) (F : hF_) (A : hF_) (F' : hF_) (A' : hF_) : Prop := (∀ q a, ¬ ((q = 1248 ∨ q = 1249 ∨ q = 1250 ∨ q = 1253) ∧ a = y) → F' q a = F q a) ∧ ∀ a, a ≠ y + 33 → A' a = A a
theorem frG12_refl {y : Nat} {F : hF_} {A : hF_} : frG12 y F A F A := ⟨fun _ _ _ => rfl, fun _ _ => rfl⟩
theorem frG12_trans {y : Nat} {F F1 F2 : hF_} {A A1 A2 : hF_} (h : frG12 y F A F1 A1) (h' : frG12 y F1 A1 F2 A2) : frG12 y F A F2 A2 := ⟨fun q a g => by rw [h'.1 q a g, h.1 q a g], fun a g => by rw [h'.2 a g, h.2 a g]⟩
theorem frR_G {y : Nat} {F F' : hF_} {A : hF_} (h : frR12 y F F') : frG12 y F A F' A := ⟨fun q a g => h q a (by omega), fun _ _ => rfl⟩
theorem mBi_G {y N : Nat} {F F' A A' : hF_} {b : Nat → Nat} (h : mBi F A y N b) (h' : frG12 y F A F' A') : mBi F' A' y N b := ⟨by rw [h'.1 _ _ (by omega)]; exact h.1, h.2.1, h.2.2.1, fun j hj => by rw [h'.2 _ (by omega)]; exact h.2.2.2 j hj⟩
theorem mGt_R {y m : Nat} {F F' A : hF_} {L : Nat → Nat} (h : mGt F A y m L) (h' : frR12 y F F') : mGt F' A y m L := ⟨by rw [h' _ _ (by omega)]; exact h.1, h.2⟩
section MR2
variable {k n u : Nat} {sh : hs_} {F F' : hF_} {R : hR_} {A A' : hF_} {B : hR_} {Q : Option Value → pm_H → Prop} {y N : Nat} {b : Nat → Nat} {st : rst} {m zs c s : Nat} {L E f : Nat → Nat} {bi : Int32} {rk : Bool}
theorem l_getFrom {fr z at_ nn : Nat} (hM : isM sh R y) (hs : sh fr = some (1, 0, z)) (hz : at_ + nn ≤ z) (hz2 : z < 2 ^ 30) (hne : fr ≠ y + 33 ∨ at_ + nn ≤ m) (hm : m + nn ≤ 120)
    (hQ : ∀ F' A', (∀ q a, ¬ (q = 1253 ∧ a = y) → F' q a = F q a) → F' 1253 y = nI (m + nn) → (∀ a, a ≠ y + 33 → A' a = A a) → (∀ j, j < m → A' (y + 33) j = A (y + 33) j) → (∀ j, j < nn → A' (y + 33) (m + j) = A fr (at_ + j)) → Q none (mkh n u sh F' R A' B)) :
    ∀ d i F1 A1, i + d = nn → (∀ q a, ¬ (q = 1253 ∧ a = y) → F1 q a = F q a) → F1 1253 y = nI (m + i) → (∀ a, a ≠ y + 33 → A1 a = A a) → (∀ j, j < m → A1 (y + 33) j = A (y + 33) j) → (∀ j, j < i → A1 (y + 33) (m + j) = A fr (at_ + j)) → rw_ k mX12_getFrom 3 [.ref y, .ref fr, .int (nI at_), .int (nI nn), .int (nI i)] [] (mkh n u sh F1 R A1 B) Q := by
  have r33 := hM.r 1252 33 0 120 (by decide)
  have s33 := hM.s 1252 33 0 120 (by decide)
  intro d
  induction d with
  | zero =>
    intro i F1 A1 hi f1 f2 f3 f4 f5
    have e : i = nn := by omega
    subst e
    have g1 : nI i ≤ nI i := nI_le (Nat.le_refl _) (by omega)
    simp only [rX12_getFrom_3, rX12_getFrom_5, rX12_getFrom_6, rX12_getFrom_40, g1, up2_eq, va_rf, eq_self, or_true, true_or, Option.toList_some, Option.toList_none, List.cons_append, List.nil_append, if_true, if_false]
    exact hQ F1 A1 f1 f2 f3 f4 f5
  | succ d ih =>
    intro i F1 A1 hi f1 f2 f3 f4 f5
    have g1 : ¬ nI nn ≤ nI i := nI_ge (by omega) (by omega)
    have er : A1 fr (at_ + i) = A fr (at_ + i) := by
      by_cases e : fr = y + 33
      · rcases hne with h | h
        · exact absurd e h
        · rw [e]; exact f4 _ (by omega)
      · rw [f3 _ e]
    simp only [rX12_getFrom_3, rX12_getFrom_5, rX12_getFrom_6, rX12_getFrom_9, rX12_getFrom_10, rX12_getFrom_13, rX12_getFrom_14, rX12_getFrom_17, rX12_getFrom_17_n, rX12_getFrom_18, rX12_getFrom_19, rX12_getFrom_21, hM.1, g1, f2, r33, nI_add, up2_eq, va_rf, eq_self, or_true, true_or, Option.toList_some, Option.toList_none, List.cons_append, List.nil_append, if_true, if_false]
    rw [rX12_getFrom_22 hs (by decide) (by omega) (by omega), er]
    rw [rX12_getFrom_23 s33 (by omega) (by omega)]
    simp only [rX12_getFrom_24, rX12_getFrom_25, rX12_getFrom_26, rX12_getFrom_29, rX12_getFrom_30, rX12_getFrom_31, rX12_getFrom_34, rX12_getFrom_37, hM.1, f2, nI_add, up2_eq, va_rf, eq_self, or_true, true_or, Option.toList_some, Option.toList_none, List.cons_append, List.nil_append, if_true, if_false]
    refine ih (i + 1) _ _ (by omega) (fun q a g => by rw [up2_o g]; exact f1 q a g) up2_eq (fun a ha => by rw [up2_row ha]; exact f3 a ha) (fun j hj => by rw [up2_a (by omega)]; exact f4 j hj) (fun j hj => ?_)
    by_cases e : j = i
    · subst e; rw [up2_eq]
    · rw [up2_a (by omega)]; exact f5 j (by omega)
theorem k_getFrom {fr z at_ nn : Nat} {g : Nat → Nat} (hM : isM sh R y) (hr : mRd F y st) (h : mGt F A y m L) (hs : sh fr = some (1, 0, z)) (hz : at_ + nn ≤ z) (hz2 : z < 2 ^ 30) (hne : fr ≠ y + 33 ∨ at_ + nn ≤ m) (hm : m + nn ≤ 120) (hg : ∀ j, j < nn → A fr (at_ + j) = nI (g j))
    (hQ : ∀ F' A', frG12 y F A F' A' → mRd F' y st → mGt F' A' y (m + nn) (fun j => if j < m then L j else g (j - m)) → Q none (mkh n u sh F' R A' B)) :
    rc_ k mX12_getFrom [.ref y, .ref fr, .int (nI at_), .int (nI nn)] (mkh n u sh F R A B) Q := by
  rw [eX12_getFrom]
  simp only [rX12_getFrom_0, rX12_getFrom_1]
  refine l_getFrom hM hs hz hz2 hne hm ?_ nn 0 F A (Nat.zero_add _) (fun _ _ _ => rfl) h.1 (fun _ _ => rfl) (fun _ _ => rfl) (fun j hj => absurd hj (Nat.not_lt_zero _))
  intro F' A' f1 f2 f3 f4 f5
  refine hQ F' A' ⟨fun q a g => f1 q a (by omega), f3⟩ ⟨by rw [f1 _ _ (by omega)]; exact hr.1, fun e => by rw [f1 _ _ (by omega)]; exact hr.2.1 e, fun e => by rw [f1 _ _ (by omega)]; exact hr.2.2 e⟩ ⟨f2, fun j hj => ?_⟩
  show A' (y + 33) j = nI (if j < m then L j else g (j - m))
  by_cases e : j < m
  · rw [if_pos e, f4 j e]; exact h.2 j e
  · have h5 := f5 (j - m) (by omega)
    rw [show m + (j - m) = j by omega] at h5
    rw [if_neg e, h5]
    exact hg _ (by omega)
theorem l_rOwn {c : Nat} {x1 x2 : Value} (hM : isM sh R y) (hb : mBi F A y N b) (hc : c < 2 ^ 20) :
    ∀ d i st m L F1 A1 x5, i + d = c → m + d ≤ 120 → okR st N → frG12 y F A F1 A1 → mRd F1 y st → mGt F1 A1 y m L →
    (∀ F' A', frG12 y F A F' A' → mRd F' y (roL b N d st m L).1 → mGt F' A' y (roL b N d st m L).2.1 (roL b N d st m L).2.2 → Q none (mkh n u sh F' R A' B)) →
    rw_ (k + 2) mX12_readOwn 37 [.ref y, x1, x2, .int (nI c), .int (nI i), x5] [] (mkh n u sh F1 R A1 B) Q := by
  have r33 := hM.r 1252 33 0 120 (by decide)
  have s33 := hM.s 1252 33 0 120 (by decide)
  intro d
  induction d with
  | zero =>
    intro i st m L F1 A1 x5 hi hm hok f1 f2 f3 hQ
    have e : i = c := by omega
    subst e
    have g1 : nI i ≤ nI i := nI_le (Nat.le_refl _) (by omega)
    simp only [rX12_readOwn_37, rX12_readOwn_39, rX12_readOwn_40, rX12_readOwn_92, g1, up2_eq, va_rf, eq_self, or_true, true_or, Option.toList_some, Option.toList_none, List.cons_append, List.nil_append, if_true, if_false]
    exact hQ F1 A1 f1 f2 f3
  | succ d ih =>
    intro i st m L F1 A1 x5 hi hm hok f1 f2 f3 hQ
    have h7 := hok.1
    have g1 : ¬ nI c ≤ nI i := nI_ge (by omega) (by omega)
    have hb1 := mBi_G hb f1
    have e49 := f2.1
    by_cases c0 : st.2.1 = 0
    · rw [c0] at e49
      simp only [rX12_readOwn_37, rX12_readOwn_39, rX12_readOwn_40, rX12_readOwn_43, rX12_readOwn_44, rX12_readOwn_47, rX12_readOwn_50, rX12_readOwn_51, hM.1, g1, e49, up2_eq, va_rf, eq_self, or_true, true_or, Option.toList_some, Option.toList_none, List.cons_append, List.nil_append, if_true, if_false]
      rw [rX12_readOwn_53 hM.1]
      refine k_read12 hM hb1 f2 hok (by omega) ?_
      intro F2 v q1 q2 q3
      have okB1 := okR_B (nb := 8) hok
      have h8 := okB1.1
      have e49' := q2.1
      have f3' := mGt_R f3 q1
      unfold roL at hQ
      rw [if_pos c0] at hQ
      by_cases c1 : rdX st 8 N = true
      · have hf := rdB_f c1
        have g2 : ¬ nI (rdB st 8 N).2.1 = nI 0 := nI_ne0 (by omega) (by omega)
        rw [if_pos c1] at hQ
        simp only [rX12_readOwn_56, rX12_readOwn_58, rX12_readOwn_59, rX12_readOwn_62, rX12_readOwn_86, rX12_readOwn_89, hM.1, e49', g2, nI_add, up2_eq, va_rf, eq_self, or_true, true_or, Option.toList_some, Option.toList_none, List.cons_append, List.nil_append, if_true, if_false]
        exact ih (i + 1) _ m L F2 A1 _ (by omega) (by omega) okB1 (frG12_trans f1 (frR_G q1)) q2 f3' hQ
      · have hn := rdB_0 c1
        have hv := q3 hn
        subst hv
        rw [hn] at e49'
        have e53 := f3'.1
        rw [if_neg c1] at hQ
        simp only [rX12_readOwn_56, rX12_readOwn_58, rX12_readOwn_59, rX12_readOwn_62, rX12_readOwn_65, rX12_readOwn_66, rX12_readOwn_69, rX12_readOwn_70, rX12_readOwn_73, hM.1, e49', e53, r33, up2_eq, va_rf, eq_self, or_true, true_or, Option.toList_some, Option.toList_none, List.cons_append, List.nil_append, if_true, if_false]
        rw [rX12_readOwn_75 s33 (by omega) (by omega)]
        simp only [rX12_readOwn_76, rX12_readOwn_77, rX12_readOwn_78, rX12_readOwn_81, rX12_readOwn_82, rX12_readOwn_83, rX12_readOwn_86, rX12_readOwn_89, hM.1, e53, nI_add, up2_eq, va_rf, eq_self, or_true, true_or, Option.toList_some, Option.toList_none, List.cons_append, List.nil_append, if_true, if_false]
        refine ih (i + 1) _ (m + 1) _ _ _ _ (by omega) (by omega) okB1 (frG12_trans f1 (frG12_trans (frR_G q1) ⟨fun q a g => up2_o (by omega), fun a g => up2_row g⟩)) ⟨by rw [up2_k (by decide)]; exact q2.1, fun e => by rw [up2_k (by decide)]; exact q2.2.1 e, fun e => by rw [up2_k (by decide)]; exact q2.2.2 e⟩ ⟨up2_eq, fun j hj => ?_⟩ hQ
        by_cases e : j = m
        · subst e; rw [up2_eq, if_pos rfl]
        · rw [up2_a e, if_neg e]; exact f3'.2 j (by omega)
    · have g2 : ¬ nI st.2.1 = nI 0 := nI_ne0 (by omega) (by omega)
      unfold roL at hQ
      rw [if_neg c0] at hQ
      simp only [rX12_readOwn_37, rX12_readOwn_39, rX12_readOwn_40, rX12_readOwn_43, rX12_readOwn_44, rX12_readOwn_47, rX12_readOwn_92, hM.1, g1, e49, g2, up2_eq, va_rf, eq_self, or_true, true_or, Option.toList_some, Option.toList_none, List.cons_append, List.nil_append, if_true, if_false]
      exact hQ F1 A1 f1 f2 f3
theorem k_readOwn12 {first : Nat} (hM : isM sh R y) (hb : mBi F A y N b) (h : mRd F y st) (hok : okR st N) (hg : mGt F A y m L) (hm : m ≤ zs) (hz : zs ≤ 120) (hfi : first ≤ N)
    (hQ : ∀ F' A', frG12 y F A F' A' → mRd F' y (rpO b N zs st m L first).1 → mGt F' A' y (rpO b N zs st m L first).2.1 (rpO b N zs st m L first).2.2 → Q none (mkh n u sh F' R A' B)) :
    rc_ (k + 3) mX12_readOwn [.ref y, .int (nI first), .int (nI zs)] (mkh n u sh F R A B) Q := by
  rw [eX12_readOwn]
  simp only [rX12_readOwn_0]
  rw [rX12_readOwn_1 hM.1]
  refine k_readG12 hM hb h hok ?_
  intro F2 v q1 q2 q3 q4
  have okG := okR_gS (b := b) hok
  have h7 := okG.1
  have e49 := q2.1
  have hb2 := mBi_R hb q1
  have hg2 := mGt_R hg q1
  have e53 := hg2.1
  unfold rpO at hQ
  by_cases c0 : (rgS b N st).2.1 = 0
  · rw [if_pos c0] at hQ
    rw [c0] at e49
    obtain ⟨v1, v2, -⟩ := rgV_ok hb.2.2.1 c0
    have hv := q3 c0
    subst hv
    have bad : ∀ x4 x5, (120 < rgV b N st ∨ zs - m < rgV b N st) → rw_ (k + 3) mX12_readOwn 28 [.ref y, .int (nI first), .int (nI zs), .int (nI (rgV b N st)), x4, x5] [] (mkh n u sh F2 R A B) Q := by
      intro x4 x5 hbad
      rw [if_pos hbad] at hQ
      simp only [rX12_readOwn_28, rX12_readOwn_29, rX12_readOwn_30, up2_eq, va_rf, eq_self, or_true, true_or, Option.toList_some, Option.toList_none, List.cons_append, List.nil_append, if_true, if_false]
      rw [rX12_readOwn_31 hM.1]
      refine k_wrong hM q2 h7 (by decide) ?_
      intro F3 p1 p2
      simp only [rX12_readOwn_34, rX12_readOwn_35, up2_eq, va_rf, eq_self, or_true, true_or, Option.toList_some, Option.toList_none, List.cons_append, List.nil_append, if_true, if_false]
      have hf : ¬ (rdN (rgS b N st) 5 first).2.1 = 0 := by unfold rdN; rw [if_pos c0]; exact (by decide : ¬ (5 : Nat) = 0)
      have h8 : (rdN (rgS b N st) 5 first).2.1 < 7 := by unfold rdN; rw [if_pos c0]; exact (by decide : (5 : Nat) < 7)
      have g2 : ¬ nI (rdN (rgS b N st) 5 first).2.1 = nI 0 := nI_ne0 (by omega) (by omega)
      have e49b := p2.1
      have g3 : ¬ nI (rgV b N st) ≤ nI 0 := nI_ge (by omega) (by omega)
      simp only [rX12_readOwn_37, rX12_readOwn_39, rX12_readOwn_40, rX12_readOwn_43, rX12_readOwn_44, rX12_readOwn_47, rX12_readOwn_92, hM.1, g3, e49b, g2, up2_eq, va_rf, eq_self, or_true, true_or, Option.toList_some, Option.toList_none, List.cons_append, List.nil_append, if_true, if_false]
      exact hQ F3 A (frR_G (frR12_trans q1 p1)) p2 (mGt_R hg2 p1)
    by_cases c1 : 120 < rgV b N st
    · have g1 : nI 120 < nI (rgV b N st) := nI_lt c1 (by omega)
      simp only [rX12_readOwn_4, rX12_readOwn_5, rX12_readOwn_6, rX12_readOwn_9, rX12_readOwn_12, rX12_readOwn_13, rX12_readOwn_15, hM.1, e49, g1, up2_eq, va_rf, eq_self, or_true, true_or, Option.toList_some, Option.toList_none, List.cons_append, List.nil_append, if_true, if_false]
      exact bad _ _ (Or.inl c1)
    · have g1 : ¬ nI 120 < nI (rgV b N st) := nI_nlt (by omega) (by omega)
      by_cases c2 : zs - m < rgV b N st
      · have g2 : ¬ nI (m + rgV b N st) ≤ nI zs := nI_ge (by omega) (by omega)
        simp only [rX12_readOwn_4, rX12_readOwn_5, rX12_readOwn_6, rX12_readOwn_9, rX12_readOwn_12, rX12_readOwn_13, rX12_readOwn_15, rX12_readOwn_18, rX12_readOwn_19, rX12_readOwn_22, rX12_readOwn_23, rX12_readOwn_24, rX12_readOwn_25, hM.1, e49, g1, g2, e53, nI_add, up2_eq, va_rf, eq_self, or_true, true_or, Option.toList_some, Option.toList_none, List.cons_append, List.nil_append, if_true, if_false]
        exact bad _ _ (Or.inr c2)
      · have g2 : nI (m + rgV b N st) ≤ nI zs := nI_le (by omega) (by omega)
        rw [if_neg (by omega)] at hQ
        simp only [rX12_readOwn_4, rX12_readOwn_5, rX12_readOwn_6, rX12_readOwn_9, rX12_readOwn_12, rX12_readOwn_13, rX12_readOwn_15, rX12_readOwn_18, rX12_readOwn_19, rX12_readOwn_22, rX12_readOwn_23, rX12_readOwn_24, rX12_readOwn_25, rX12_readOwn_34, rX12_readOwn_35, hM.1, e49, g1, g2, e53, nI_add, up2_eq, va_rf, eq_self, or_true, true_or, Option.toList_some, Option.toList_none, List.cons_append, List.nil_append, if_true, if_false]
        exact l_rOwn (k := k + 1) hM hb (by omega) _ 0 _ m L F2 A _ (Nat.zero_add _) (by omega) okG (frR_G q1) q2 hg2 hQ
  · rw [if_neg c0] at hQ
    have hv := q4 c0
    subst hv
    have g2 : ¬ nI (rgS b N st).2.1 = nI 0 := nI_ne0 (by omega) (by omega)
    have g3 : ¬ nI 1 ≤ nI 0 := by decide
    simp only [rX12_readOwn_4, rX12_readOwn_5, rX12_readOwn_6, rX12_readOwn_9, rX12_readOwn_34, rX12_readOwn_35, hM.1, e49, g2, up2_eq, va_rf, eq_self, or_true, true_or, Option.toList_some, Option.toList_none, List.cons_append, List.nil_append, if_true, if_false]
    simp only [rX12_readOwn_37, rX12_readOwn_39, rX12_readOwn_40, rX12_readOwn_43, rX12_readOwn_44, rX12_readOwn_47, rX12_readOwn_92, hM.1, e49, g2, g3, up2_eq, va_rf, eq_self, or_true, true_or, Option.toList_some, Option.toList_none, List.cons_append, List.nil_append, if_true, if_false]
    exact hQ F2 A (frR_G q1) q2 hg2
end MR2
