/-! ===== the reader: gamma, parts ===== -/
/-- G's bits: d noughts may come yet, z came -/
def rgL (b : Nat → Nat) (N first : Nat) : Nat → Nat → rst → Int32 × rst
  | 0, _, st => (-1, rdN st 3 first)
  | d + 1, z, st => if rdX st 1 N = true then (-1, rdB st 1 N) else if bv b st.1 1 = 1 then ((if rdX (rdB st 1 N) z N = true then -1 else nI (2 ^ z + bv b (rdB st 1 N).1 z)), rdB (rdB st 1 N) z N) else rgL b N first d (z + 1) (rdB st 1 N)
/-- the reader's own bounds -/
def okR (st : rst) (N : Nat) : Prop := st.2.1 < 7 ∧ st.1 ≤ N ∧ st.2.2 ≤ N
theorem okR_N {st : rst} {N code wh : Nat} (h : okR st N) (hc : code < 7) (hw : wh ≤ N) : okR (rdN st code wh) N := by
  unfold rdN
  split
  · exact ⟨hc, h.2.1, hw⟩
  · exact h
theorem okR_B {st : rst} {N nb : Nat} (h : okR st N) : okR (rdB st nb N) N := by
  unfold rdB
  split
  · exact okR_N h (by omega) (Nat.le_refl _)
  · rename_i hx
    refine ⟨h.1, ?_, h.2.2⟩
    unfold rdX at hx
    simp at hx
    exact hx.2
theorem okR_G {b : Nat → Nat} {N first : Nat} (hfi : first ≤ N) : ∀ d z st, okR st N → okR (rgL b N first d z st).2 N
  | 0, _, st, h => okR_N h (by omega) hfi
  | d + 1, z, st, h => by
    unfold rgL
    split
    · exact okR_B h
    · split
      · exact okR_B (okR_B h)
      · exact okR_G hfi d (z + 1) _ (okR_B h)
section RD2
variable {k n u : Nat} {sh : hs_} {F : hF_} {R : hR_} {A : hF_} {B : hR_} {Q : Option Value → pm_H → Prop} {rd so sv sz ss N : Nat} {by_ : Nat → Nat} {st : rst}
theorem l_readGamma {first : Nat} (hr : isR sh F R A rd so sv sz ss by_) (hfi : first ≤ 8 * ss) : ∀ d z (st : rst), z + d = 8 → okR st (8 * ss) → ∀ y3 y4 : Value, (rw_ (k + 2) mX6_readGamma 7 [.ref rd, .int (nI first), .int (nI z), y3, y4] [] (mkh n u sh (rdF F rd st) R A B) Q ↔ Q (some (.int (rgL (bof by_) (8 * ss) first d z st).1)) (mkh n u sh (rdF F rd (rgL (bof by_) (8 * ss) first d z st).2) R A B)) := by
  have h1 := hr.1
  have h4 := hr.2.2.2.1
  intro d
  induction d with
  | zero =>
    intro z st hz hok y3 y4
    have e1 : z = 8 := by omega
    subst e1
    have g1 : nI 8 ≤ nI 8 := nI_le (Nat.le_refl _) (by omega)
    simp only [rX6_readGamma_7, rX6_readGamma_8, rX6_readGamma_10, rX6_readGamma_61, rX6_readGamma_62, rX6_readGamma_63, g1, up2_eq, va_rf, eq_self, or_true, true_or, Option.toList_some, Option.toList_none, List.cons_append, List.nil_append, if_true, if_false]
    have := hok.1
    rw [rX6_readGamma_64 h1, k_note h1 (by omega)]
    simp only [rX6_readGamma_67, rX6_readGamma_68, up2_eq, va_rf, eq_self, or_true, true_or, Option.toList_some, Option.toList_none, List.cons_append, List.nil_append, if_true, if_false]
    rfl
  | succ d ih =>
    intro z st hz hok y3 y4
    have g1 : ¬ nI 8 ≤ nI z := nI_ge (by omega) (by omega)
    have o1 := hok.1
    simp only [rX6_readGamma_7, rX6_readGamma_8, rX6_readGamma_10, rX6_readGamma_13, rX6_readGamma_14, g1, up2_eq, va_rf, eq_self, or_true, true_or, Option.toList_some, Option.toList_none, List.cons_append, List.nil_append, if_true, if_false]
    rw [rX6_readGamma_15 h1, k_readBits hr (by omega) hok.2.1 (by omega)]
    unfold rgL
    by_cases c1 : rdX st 1 (8 * ss) = true
    · simp only [rX6_readGamma_18, rX6_readGamma_19, rX6_readGamma_20, rX6_readGamma_21, rX6_readGamma_24, rX6_readGamma_25, c1, up2_eq, va_rf, eq_self, or_true, true_or, Option.toList_some, Option.toList_none, List.cons_append, List.nil_append, if_true, if_false]
    · have hb2 := bv_lt (b := bof by_) (p := st.1) bof_lt 1
      have hok2 : okR (rdB st 1 (8 * ss)) (8 * ss) := okR_B hok
      have o2 := hok2.1
      have g2 : ¬ nI (bv (bof by_) st.1 1) = -1 := fun x => absurd (show nI (bv (bof by_) st.1 1) < 0 by rw [x]; decide) (nI_pos (by omega))
      simp only [rX6_readGamma_18, rX6_readGamma_19, rX6_readGamma_20, rX6_readGamma_21, rX6_readGamma_24, rX6_readGamma_25, rX6_readGamma_26, rX6_readGamma_27, c1, g2, Bool.false_eq_true, up2_eq, va_rf, eq_self, or_true, true_or, Option.toList_some, Option.toList_none, List.cons_append, List.nil_append, if_true, if_false]
      by_cases c2 : bv (bof by_) st.1 1 = 1
      · have g3 : nI (bv (bof by_) st.1 1) = nI 1 := by rw [c2]
        simp only [rX6_readGamma_28, rX6_readGamma_31, rX6_readGamma_32, c2, g3, Bool.false_eq_true, up2_eq, va_rf, eq_self, or_true, true_or, Option.toList_some, Option.toList_none, List.cons_append, List.nil_append, if_true, if_false]
        rw [rX6_readGamma_33 h1, k_readBits hr (by omega) hok2.2.1 (by omega)]
        by_cases c3 : rdX (rdB st 1 (8 * ss)) z (8 * ss) = true
        · simp only [rX6_readGamma_36, rX6_readGamma_38, rX6_readGamma_40, rX6_readGamma_41, rX6_readGamma_44, rX6_readGamma_45, rX6_readGamma_48, rX6_readGamma_49, rX6_readGamma_50, rX6_readGamma_51, rX6_readGamma_53, rX6_readGamma_54, c3, Bool.false_eq_true, up2_eq, va_rf, eq_self, or_true, true_or, Option.toList_some, Option.toList_none, List.cons_append, List.nil_append, if_true, if_false]
        · have hb3 := bv_lt (b := bof by_) (p := (rdB st 1 (8 * ss)).1) bof_lt z
          have hz8 : 2 ^ z ≤ 2 ^ 8 := Nat.pow_le_pow_right (by omega) (by omega)
          have g4 : ¬ nI (bv (bof by_) (rdB st 1 (8 * ss)).1 z) = -1 := fun x => absurd (show nI (bv (bof by_) (rdB st 1 (8 * ss)).1 z) < 0 by rw [x]; decide) (nI_pos (by omega))
          have e9 := shl_1 ⟨z, by omega⟩
          simp only [rX6_readGamma_36, rX6_readGamma_38, rX6_readGamma_40, rX6_readGamma_41, rX6_readGamma_44, rX6_readGamma_45, rX6_readGamma_48, rX6_readGamma_49, rX6_readGamma_50, rX6_readGamma_51, rX6_readGamma_53, rX6_readGamma_54, c3, g4, e9, nI_add, Bool.false_eq_true, up2_eq, va_rf, eq_self, or_true, true_or, Option.toList_some, Option.toList_none, List.cons_append, List.nil_append, if_true, if_false]
      · have g3 : ¬ nI (bv (bof by_) st.1 1) = nI 1 := fun x => c2 ((nI_eq (by omega) (by omega)).mp x)
        simp only [rX6_readGamma_28, rX6_readGamma_55, rX6_readGamma_58, c2, g3, nI_add, Bool.false_eq_true, up2_eq, va_rf, eq_self, or_true, true_or, Option.toList_some, Option.toList_none, List.cons_append, List.nil_append, if_true, if_false]
        exact ih (z + 1) (rdB st 1 (8 * ss)) (by omega) hok2 _ _
theorem k_readGamma (hr : isR sh F R A rd so sv sz ss by_) (hok : okR st (8 * ss)) :
    rc_ (k + 2) mX6_readGamma [.ref rd] (mkh n u sh (rdF F rd st) R A B) Q ↔ Q (some (.int (rgL (bof by_) (8 * ss) st.1 8 0 st).1)) (mkh n u sh (rdF F rd (rgL (bof by_) (8 * ss) st.1 8 0 st).2) R A B) := by
  rw [eX6_readGamma]
  simp only [rX6_readGamma_0, rX6_readGamma_1, rX6_readGamma_4, rX6_readGamma_5, rX6_readGamma_6, hr.1, rdF_603, up2_eq, va_rf, eq_self, or_true, true_or, Option.toList_some, Option.toList_none, List.cons_append, List.nil_append, if_true, if_false]
  exact l_readGamma hr hok.2.1 8 0 st (by omega) hok _ _
end RD2
