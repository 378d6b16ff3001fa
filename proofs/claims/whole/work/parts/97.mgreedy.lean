/-! ===== the reference: GREEDY ===== -/
def cW (E : Nat → Nat) (wh : Nat → Bool) (q : Nat) : Nat := if (lwS E wh q).2 = 0 then 0 else 2 + gm ((lwS E wh q).1 + 1)
def z3 (v : Nat) : Nat := if v < 3 then 0 else v
def c3 (h v : Nat) : Nat := if v < 3 then 0 else 2 + h + gm (v - 2)
def f3 (i s v1 v2 : Nat) : Nat := if max v1 v2 < 3 then 0 else 2 + wd (if v1 < v2 then i else s) + gm (max v1 v2 - 2)
theorem z3_le {v : Nat} : z3 v ≤ v := by unfold z3; split <;> omega
theorem z3_yes {h v r : Nat} (h1 : 3 ≤ r) (h2 : z3 v < r) : z3 (max v r) = r ∧ c3 h (max v r) = 2 + h + gm (r - 2) := by
  have e : max v r = r := by unfold z3 at h2; split at h2 <;> omega
  rw [e]
  unfold z3 c3
  rw [if_neg (by omega), if_neg (by omega)]
  exact ⟨rfl, rfl⟩
theorem z3_no {h v r : Nat} (h1 : r < 3 ∨ r ≤ z3 v) : z3 (max v r) = z3 v ∧ c3 h (max v r) = c3 h v := by
  by_cases c : v < 3
  · have e : max v r < 3 := by unfold z3 at h1; rw [if_pos c] at h1; omega
    unfold z3 c3
    rw [if_pos c, if_pos e, if_pos c, if_pos e]
    exact ⟨rfl, rfl⟩
  · have e : max v r = v := by unfold z3 at h1; rw [if_neg c] at h1; omega
    rw [e]
    exact ⟨rfl, rfl⟩
theorem f3_yes {i s v1 v2 r : Nat} (h1 : 3 ≤ r) (h2 : z3 (max v1 v2) < r) : z3 (max v1 (max v2 r)) = r ∧ f3 i s v1 (max v2 r) = 2 + wd i + gm (r - 2) := by
  have e0 : v1 < r ∧ v2 < r := by unfold z3 at h2; split at h2 <;> omega
  have e : max v1 (max v2 r) = r := by omega
  unfold f3
  rw [e]
  unfold z3
  rw [if_neg (by omega), if_neg (by omega), if_pos (by omega)]
  exact ⟨rfl, rfl⟩
theorem f3_no {i s v1 v2 r : Nat} (h1 : r < 3 ∨ r ≤ z3 (max v1 v2)) : z3 (max v1 (max v2 r)) = z3 (max v1 v2) ∧ f3 i s v1 (max v2 r) = f3 i s v1 v2 := by
  by_cases c : max v1 v2 < 3
  · have e : max v1 (max v2 r) < 3 := by unfold z3 at h1; rw [if_pos c] at h1; omega
    unfold z3 f3
    rw [if_pos c, if_pos e, if_pos c, if_pos e]
    exact ⟨rfl, rfl⟩
  · have h2 : r ≤ max v1 v2 := by unfold z3 at h1; rw [if_neg c] at h1; omega
    have e : max v1 (max v2 r) = max v1 v2 := by omega
    unfold f3
    rw [e]
    refine ⟨rfl, ?_⟩
    rw [if_neg c, if_neg c]
    by_cases c2 : v1 < v2
    · rw [if_pos c2, if_pos (by omega)]
    · rw [if_neg c2, if_neg (by omega)]
section MGR
variable {k n u : Nat} {sh : hs_} {F F' : hF_} {R : hR_} {A A' : hF_} {B : hR_} {Q : Option Value → pm_H → Prop} {y : Nat} {c s m i b : Nat} {E f : Nat → Nat} {bi : Int32} {rk : Bool} {lf : Nat → Int32} {T : TT}
theorem l_gWho {x2 x7 : Value} (hM : isM sh R y) (h32 : F 1232 y = nI m) (hm : m ≤ 120) (hi : i < m) (hB : mBo A y bi c s E f true) (hE : okE E c s) (hc : c ≤ 20) (hs : s ≤ 320) (hl : ∀ j, j < m → A (y + 22) j = lf j)
    (hQ : ∀ x6, rw_ (k + 3) mX12_greedyPrice 89 [.ref y, .int bi, x2, .int (nI i), .int (nI (lwS E (whl lf (fI f) m E i) c).2), .int (nI (cW E (whl lf (fI f) m E i) c)), x6, x7] [] (mkh n u sh F R A B) Q) :
    ∀ d q, q + d = c → rw_ (k + 3) mX12_greedyPrice 21 [.ref y, .int bi, x2, .int (nI i), .int (nI (lwS E (whl lf (fI f) m E i) q).2), .int (nI (cW E (whl lf (fI f) m E i) q)), .int (nI q), x7] [] (mkh n u sh F R A B) Q := by
  have g : ¬ nI 1 = nI 0 := by decide
  have r4 := hM.r 1207 4 0 26 (by decide)
  have s4 := hM.s 1207 4 0 26 (by decide)
  intro d
  induction d with
  | zero =>
    intro q hq
    have e : q = c := by omega
    subst e
    have hB1 := hB
    have g1 : nI q ≤ nI q := nI_le (Nat.le_refl _) (by omega)
    simp only [rX12_greedyPrice_21, rX12_greedyPrice_22, up2_eq, va_rf, eq_self, or_true, true_or, Option.toList_some, Option.toList_none, List.cons_append, List.nil_append, if_true, if_false]
    rw [rX12_greedyPrice_23 hM.1, k_isRanked hM hB]
    rcases hB1 with ⟨-, -, -, e⟩ | ⟨b, kd, b1, rfl, b3, -⟩
    · cases e
    · simp only [rX12_greedyPrice_26, rX12_greedyPrice_29, rX12_greedyPrice_31, rX12_greedyPrice_32, rX12_greedyPrice_35, g, hM.1, r4, up2_eq, va_rf, eq_self, or_true, true_or, Option.toList_some, Option.toList_none, List.cons_append, List.nil_append, if_true, if_false]
      rw [rX12_greedyPrice_36 s4 (by decide) b1 (by omega), b3.1]
      simp only [rX12_greedyPrice_37, g1, up2_eq, va_rf, eq_self, or_true, true_or, Option.toList_some, Option.toList_none, List.cons_append, List.nil_append, if_true, if_false]
      exact hQ _
  | succ d ih =>
    intro q hq
    have hB1 := hB
    have hlt := lwS_lt (lf := lf) (f := fI f) (m := m) (E := E) (i := i) q
    have hEq := hE.E_le (j := q) (by omega)
    have g1 : ¬ nI c ≤ nI q := nI_ge (by omega) (by omega)
    simp only [rX12_greedyPrice_21, rX12_greedyPrice_22, up2_eq, va_rf, eq_self, or_true, true_or, Option.toList_some, Option.toList_none, List.cons_append, List.nil_append, if_true, if_false]
    rw [rX12_greedyPrice_23 hM.1, k_isRanked hM hB]
    rcases hB1 with ⟨-, -, -, e⟩ | ⟨b, kd, b1, rfl, b3, -⟩
    · cases e
    · simp only [rX12_greedyPrice_26, rX12_greedyPrice_29, rX12_greedyPrice_31, rX12_greedyPrice_32, rX12_greedyPrice_35, g, hM.1, r4, up2_eq, va_rf, eq_self, or_true, true_or, Option.toList_some, Option.toList_none, List.cons_append, List.nil_append, if_true, if_false]
      rw [rX12_greedyPrice_36 s4 (by decide) b1 (by omega), b3.1]
      simp only [rX12_greedyPrice_37, rX12_greedyPrice_40, rX12_greedyPrice_41, rX12_greedyPrice_42, rX12_greedyPrice_44, g1, up2_eq, va_rf, eq_self, or_true, true_or, Option.toList_some, Option.toList_none, List.cons_append, List.nil_append, if_true, if_false]
      rw [rX12_greedyPrice_45 hM.1, k_isWholeO hM hB hE hc (by omega) h32 hm hi (by omega) hl]
      have ih' := ih (q + 1) (by omega)
      unfold cW at ih' ⊢
      unfold lwS at ih'
      cases hw : whl lf (fI f) m E i q with
      | false =>
        rw [if_neg (by rw [hw]; exact fun x => absurd x.2 (by decide))] at ih'
        simp only [Bool.false_eq_true, rX12_greedyPrice_48, rX12_greedyPrice_83, rX12_greedyPrice_86, nI_add, up2_eq, va_rf, eq_self, or_true, true_or, Option.toList_some, Option.toList_none, List.cons_append, List.nil_append, if_true, if_false]
        exact ih'
      | true =>
        simp only [rX12_greedyPrice_48, rX12_greedyPrice_51, rX12_greedyPrice_52, rX12_greedyPrice_53, g, up2_eq, va_rf, eq_self, or_true, true_or, Option.toList_some, Option.toList_none, List.cons_append, List.nil_append, if_true, if_false]
        rw [rX12_greedyPrice_55 hM.1, k_pieceLongO hM hB hE hc (by omega)]
        by_cases c2 : (lwS E (whl lf (fI f) m E i) q).2 < E q - pst E q
        · have g2 : ¬ nI (E q - pst E q) ≤ nI (lwS E (whl lf (fI f) m E i) q).2 := nI_ge c2 (by omega)
          rw [if_pos ⟨c2, hw⟩] at ih'
          dsimp only at ih'
          rw [if_neg (by omega)] at ih'
          simp only [rX12_greedyPrice_58, rX12_greedyPrice_60, rX12_greedyPrice_63, rX12_greedyPrice_64, rX12_greedyPrice_65, g2, up2_eq, va_rf, eq_self, or_true, true_or, Option.toList_some, Option.toList_none, List.cons_append, List.nil_append, if_true, if_false]
          rw [rX12_greedyPrice_67 hM.1, k_pieceLongO hM hB hE hc (by omega)]
          simp only [rX12_greedyPrice_70, rX12_greedyPrice_72, rX12_greedyPrice_73, rX12_greedyPrice_75, rX12_greedyPrice_76, nI_add, up2_eq, va_rf, eq_self, or_true, true_or, Option.toList_some, Option.toList_none, List.cons_append, List.nil_append, if_true, if_false]
          rw [rX12_greedyPrice_77, k_g (by omega) (by omega)]
          simp only [rX12_greedyPrice_80, rX12_greedyPrice_81, rX12_greedyPrice_83, rX12_greedyPrice_86, nI_add, up2_eq, va_rf, eq_self, or_true, true_or, Option.toList_some, Option.toList_none, List.cons_append, List.nil_append, if_true, if_false]
          exact ih'
        · have g2 : nI (E q - pst E q) ≤ nI (lwS E (whl lf (fI f) m E i) q).2 := nI_le (by omega) (by by_cases z : 0 < (lwS E (whl lf (fI f) m E i) q).2 <;> omega)
          rw [if_neg (fun x => c2 x.1)] at ih'
          simp only [rX12_greedyPrice_58, rX12_greedyPrice_60, rX12_greedyPrice_83, rX12_greedyPrice_86, g2, nI_add, up2_eq, va_rf, eq_self, or_true, true_or, Option.toList_some, Option.toList_none, List.cons_append, List.nil_append, if_true, if_false]
          exact ih'
theorem l_gTold {x2 : Value} (hM : isM sh R y) (h32 : F 1232 y = nI m) (hm : m ≤ 120) (hi : i < m) (hB : mBo A y bi c s E f rk) (hE : okE E c s) (hc : c ≤ 20) (hs : s ≤ 320) (hl : ∀ j, j < m → A (y + 22) j = lf j)
    (hQ : ∀ x6 x7, rw_ (k + 3) mX12_greedyPrice 160 [.ref y, .int bi, x2, .int (nI i), .int (nI (z3 (mxf (tol lf (fI f) m c E i) s))), .int (nI (c3 (wd s) (mxf (tol lf (fI f) m c E i) s))), x6, x7] [] (mkh n u sh F R A B) Q) :
    ∀ d p x7, p + d = s → rw_ (k + 3) mX12_greedyPrice 97 [.ref y, .int bi, x2, .int (nI i), .int (nI (z3 (mxf (tol lf (fI f) m c E i) p))), .int (nI (c3 (wd s) (mxf (tol lf (fI f) m c E i) p))), .int (nI p), x7] [] (mkh n u sh F R A B) Q := by
  intro d
  induction d with
  | zero =>
    intro p x7 hp
    have e : p = s := by omega
    subst e
    have g1 : nI p ≤ nI p := nI_le (Nat.le_refl _) (by omega)
    simp only [rX12_greedyPrice_97, rX12_greedyPrice_99, rX12_greedyPrice_100, up2_eq, va_rf, eq_self, or_true, true_or, Option.toList_some, Option.toList_none, List.cons_append, List.nil_append, if_true, if_false]
    rw [rX12_greedyPrice_101 hM.1, k_rowLongO hM hB hE hc]
    simp only [rX12_greedyPrice_104, g1, up2_eq, va_rf, eq_self, or_true, true_or, Option.toList_some, Option.toList_none, List.cons_append, List.nil_append, if_true, if_false]
    exact hQ _ _
  | succ d ih =>
    intro p x7 hp
    have g1 : ¬ nI s ≤ nI p := nI_ge (by omega) (by omega)
    simp only [rX12_greedyPrice_97, rX12_greedyPrice_99, rX12_greedyPrice_100, up2_eq, va_rf, eq_self, or_true, true_or, Option.toList_some, Option.toList_none, List.cons_append, List.nil_append, if_true, if_false]
    rw [rX12_greedyPrice_101 hM.1, k_rowLongO hM hB hE hc]
    simp only [rX12_greedyPrice_104, rX12_greedyPrice_107, rX12_greedyPrice_108, rX12_greedyPrice_109, rX12_greedyPrice_110, g1, up2_eq, va_rf, eq_self, or_true, true_or, Option.toList_some, Option.toList_none, List.cons_append, List.nil_append, if_true, if_false]
    rw [rX12_greedyPrice_112 hM.1, k_toldLongO hM hB hE hc (by omega) h32 hm hi (by omega) hl]
    have htl := tol_le (lf := lf) (f := fI f) (m := m) (c := c) (E := E) (i := i) (p := p)
    have hmx := mxf_le (rr := tol lf (fI f) m c E i) (m := m - i) p (fun _ _ => tol_le)
    have ih' := ih (p + 1)
    unfold mxf at ih'
    generalize tol lf (fI f) m c E i p = r at *
    generalize mxf (tol lf (fI f) m c E i) p = v at *
    have hz := z3_le (v := v)
    by_cases c1 : r < 3
    · have g2 : nI r < nI 3 := nI_lt c1 (by omega)
      obtain ⟨z1, z2⟩ := z3_no (h := wd s) (v := v) (r := r) (Or.inl c1)
      rw [z1, z2] at ih'
      simp only [rX12_greedyPrice_115, rX12_greedyPrice_117, rX12_greedyPrice_119, rX12_greedyPrice_120, rX12_greedyPrice_154, rX12_greedyPrice_157, g2, nI_add, up2_eq, va_rf, eq_self, or_true, true_or, Option.toList_some, Option.toList_none, List.cons_append, List.nil_append, if_true, if_false]
      exact ih' _ (by omega)
    · have g2 : ¬ nI r < nI 3 := nI_nlt (by omega) (by omega)
      by_cases c2 : z3 v < r
      · have g3 : ¬ nI r ≤ nI (z3 v) := nI_ge c2 (by omega)
        obtain ⟨z1, z2⟩ := z3_yes (h := wd s) (v := v) (r := r) (by omega) c2
        rw [z1, z2] at ih'
        simp only [rX12_greedyPrice_115, rX12_greedyPrice_117, rX12_greedyPrice_119, rX12_greedyPrice_120, rX12_greedyPrice_123, rX12_greedyPrice_125, rX12_greedyPrice_127, rX12_greedyPrice_130, rX12_greedyPrice_132, rX12_greedyPrice_134, rX12_greedyPrice_135, rX12_greedyPrice_136, g2, g3, up2_eq, va_rf, eq_self, or_true, true_or, Option.toList_some, Option.toList_none, List.cons_append, List.nil_append, if_true, if_false]
        rw [rX12_greedyPrice_137 hM.1, k_rowLongO hM hB hE hc]
        simp only [up2_eq, va_rf, eq_self, or_true, true_or, Option.toList_some, Option.toList_none, List.cons_append, List.nil_append, if_true, if_false]
        rw [rX12_greedyPrice_140, k_bitsOf (by omega)]
        simp only [rX12_greedyPrice_143, rX12_greedyPrice_144, rX12_greedyPrice_146, rX12_greedyPrice_147, nI_add, pk_sub (show 2 ≤ r by omega), up2_eq, va_rf, eq_self, or_true, true_or, Option.toList_some, Option.toList_none, List.cons_append, List.nil_append, if_true, if_false]
        rw [rX12_greedyPrice_148, k_g (by omega) (by omega)]
        simp only [rX12_greedyPrice_151, rX12_greedyPrice_152, rX12_greedyPrice_154, rX12_greedyPrice_157, nI_add, up2_eq, va_rf, eq_self, or_true, true_or, Option.toList_some, Option.toList_none, List.cons_append, List.nil_append, if_true, if_false]
        exact ih' _ (by omega)
      · have g3 : nI r ≤ nI (z3 v) := nI_le (by omega) (by omega)
        obtain ⟨z1, z2⟩ := z3_no (h := wd s) (v := v) (r := r) (Or.inr (by omega))
        rw [z1, z2] at ih'
        simp only [rX12_greedyPrice_115, rX12_greedyPrice_117, rX12_greedyPrice_119, rX12_greedyPrice_120, rX12_greedyPrice_123, rX12_greedyPrice_125, rX12_greedyPrice_127, rX12_greedyPrice_154, rX12_greedyPrice_157, g2, g3, nI_add, up2_eq, va_rf, eq_self, or_true, true_or, Option.toList_some, Option.toList_none, List.cons_append, List.nil_append, if_true, if_false]
        exact ih' _ (by omega)
theorem l_gFar {x1 x2 : Value} {v1 : Nat} (hM : isM sh R y) (h32 : F 1232 y = nI m) (hm : m ≤ 120) (hi : i < m) (hv : v1 ≤ m) (hl : ∀ j, j < m → A (y + 22) j = lf j)
    (hQ : ∀ x6 x7, rw_ (k + 3) mX12_greedyPrice 217 [.ref y, x1, x2, .int (nI i), .int (nI (z3 (max v1 (mxf (fal lf m i) i)))), .int (nI (f3 i s v1 (mxf (fal lf m i) i))), x6, x7] [] (mkh n u sh F R A B) Q) :
    ∀ d p x7, p + d = i → rw_ (k + 3) mX12_greedyPrice 163 [.ref y, x1, x2, .int (nI i), .int (nI (z3 (max v1 (mxf (fal lf m i) p)))), .int (nI (f3 i s v1 (mxf (fal lf m i) p))), .int (nI p), x7] [] (mkh n u sh F R A B) Q := by
  intro d
  induction d with
  | zero =>
    intro p x7 hp
    have e : p = i := by omega
    subst e
    have g1 : nI p ≤ nI p := nI_le (Nat.le_refl _) (by omega)
    simp only [rX12_greedyPrice_163, rX12_greedyPrice_165, rX12_greedyPrice_166, g1, up2_eq, va_rf, eq_self, or_true, true_or, Option.toList_some, Option.toList_none, List.cons_append, List.nil_append, if_true, if_false]
    exact hQ _ _
  | succ d ih =>
    intro p x7 hp
    have g1 : ¬ nI i ≤ nI p := nI_ge (by omega) (by omega)
    simp only [rX12_greedyPrice_163, rX12_greedyPrice_165, rX12_greedyPrice_166, rX12_greedyPrice_169, rX12_greedyPrice_170, rX12_greedyPrice_171, g1, up2_eq, va_rf, eq_self, or_true, true_or, Option.toList_some, Option.toList_none, List.cons_append, List.nil_append, if_true, if_false]
    rw [rX12_greedyPrice_173 hM.1, k_farLong hM h32 hm hi (by omega) hl]
    have htl := fal_le (lf := lf) (m := m) (i := i) (p := p)
    have hmx := mxf_le (rr := fal lf m i) (m := m - i) p (fun _ _ => fal_le)
    have ih' := ih (p + 1)
    unfold mxf at ih'
    generalize fal lf m i p = r at *
    generalize mxf (fal lf m i) p = v at *
    have hz := z3_le (v := max v1 v)
    by_cases c1 : r < 3
    · have g2 : nI r < nI 3 := nI_lt c1 (by omega)
      obtain ⟨z1, z2⟩ := f3_no (i := i) (s := s) (v1 := v1) (v2 := v) (r := r) (Or.inl c1)
      rw [z1, z2] at ih'
      simp only [rX12_greedyPrice_176, rX12_greedyPrice_178, rX12_greedyPrice_180, rX12_greedyPrice_181, rX12_greedyPrice_211, rX12_greedyPrice_214, g2, nI_add, up2_eq, va_rf, eq_self, or_true, true_or, Option.toList_some, Option.toList_none, List.cons_append, List.nil_append, if_true, if_false]
      exact ih' _ (by omega)
    · have g2 : ¬ nI r < nI 3 := nI_nlt (by omega) (by omega)
      by_cases c2 : z3 (max v1 v) < r
      · have g3 : ¬ nI r ≤ nI (z3 (max v1 v)) := nI_ge c2 (by omega)
        obtain ⟨z1, z2⟩ := f3_yes (i := i) (s := s) (v1 := v1) (v2 := v) (r := r) (by omega) c2
        rw [z1, z2] at ih'
        simp only [rX12_greedyPrice_176, rX12_greedyPrice_178, rX12_greedyPrice_180, rX12_greedyPrice_181, rX12_greedyPrice_184, rX12_greedyPrice_186, rX12_greedyPrice_188, rX12_greedyPrice_191, rX12_greedyPrice_193, rX12_greedyPrice_195, rX12_greedyPrice_196, g2, g3, up2_eq, va_rf, eq_self, or_true, true_or, Option.toList_some, Option.toList_none, List.cons_append, List.nil_append, if_true, if_false]
        rw [rX12_greedyPrice_197, k_bitsOf (by omega)]
        simp only [rX12_greedyPrice_200, rX12_greedyPrice_201, rX12_greedyPrice_203, rX12_greedyPrice_204, nI_add, pk_sub (show 2 ≤ r by omega), up2_eq, va_rf, eq_self, or_true, true_or, Option.toList_some, Option.toList_none, List.cons_append, List.nil_append, if_true, if_false]
        rw [rX12_greedyPrice_205, k_g (by omega) (by omega)]
        simp only [rX12_greedyPrice_208, rX12_greedyPrice_209, rX12_greedyPrice_211, rX12_greedyPrice_214, nI_add, up2_eq, va_rf, eq_self, or_true, true_or, Option.toList_some, Option.toList_none, List.cons_append, List.nil_append, if_true, if_false]
        exact ih' _ (by omega)
      · have g3 : nI r ≤ nI (z3 (max v1 v)) := nI_le (by omega) (by omega)
        obtain ⟨z1, z2⟩ := f3_no (i := i) (s := s) (v1 := v1) (v2 := v) (r := r) (Or.inr (by omega))
        rw [z1, z2] at ih'
        simp only [rX12_greedyPrice_176, rX12_greedyPrice_178, rX12_greedyPrice_180, rX12_greedyPrice_181, rX12_greedyPrice_184, rX12_greedyPrice_186, rX12_greedyPrice_188, rX12_greedyPrice_211, rX12_greedyPrice_214, g2, g3, nI_add, up2_eq, va_rf, eq_self, or_true, true_or, Option.toList_some, Option.toList_none, List.cons_append, List.nil_append, if_true, if_false]
        exact ih' _ (by omega)
theorem l_gStep {sm : Nat} {x4 x5 x6 x7 : Value} (hM : isM sh R y) (h32 : F 1232 y = nI m) (hm : m ≤ 120) (hi : i < m) (hB : mBo A y bi c s E f rk) (hE : okE E c s) (hc : c ≤ 20) (hs : s ≤ 320) (hl : ∀ j, j < m → A (y + 22) j = lf j)
    (hQ : ∀ x4 x5 x6 x7, rw_ (k + 3) mX12_greedyPrice 4 [.ref y, .int bi, .int (nI (sm + (gst lf (fI f) m s c E rk i).2)), .int (nI (i + (gst lf (fI f) m s c E rk i).1)), x4, x5, x6, x7] [] (mkh n u sh F R A B) Q) :
    rw_ (k + 3) mX12_greedyPrice 4 [.ref y, .int bi, .int (nI sm), .int (nI i), x4, x5, x6, x7] [] (mkh n u sh F R A B) Q := by
  have g0 : ¬ nI m ≤ nI i := nI_ge (by omega) (by omega)
  have hm1 := mxf_le (rr := tol lf (fI f) m c E i) (m := m - i) s (fun _ _ => tol_le)
  have hm2 := mxf_le (rr := fal lf m i) (m := m - i) i (fun _ _ => fal_le)
  simp only [rX12_greedyPrice_4, rX12_greedyPrice_5, rX12_greedyPrice_6, rX12_greedyPrice_9, rX12_greedyPrice_12, rX12_greedyPrice_13, rX12_greedyPrice_15, rX12_greedyPrice_16, rX12_greedyPrice_18, rX12_greedyPrice_19, g0, hM.1, h32, up2_eq, va_rf, eq_self, or_true, true_or, Option.toList_some, Option.toList_none, List.cons_append, List.nil_append, if_true, if_false]
  have two : ∀ x6 x7, ¬ (rk = true ∧ 0 < (lwS E (whl lf (fI f) m E i) c).2) → rw_ (k + 3) mX12_greedyPrice 89 [.ref y, .int bi, .int (nI sm), .int (nI i), .int (nI 0), .int (nI 0), x6, x7] [] (mkh n u sh F R A B) Q := by
    intro x6 x7 hno
    simp only [rX12_greedyPrice_89, rX12_greedyPrice_91, rX12_greedyPrice_94, rX12_greedyPrice_95, up2_eq, va_rf, eq_self, or_true, true_or, Option.toList_some, Option.toList_none, List.cons_append, List.nil_append, if_true, if_false]
    refine l_gTold (lf := lf) (x2 := .int (nI sm)) hM h32 hm hi hB hE hc hs hl ?_ s 0 x7 (Nat.zero_add _)
    intro x6 x7
    simp only [rX12_greedyPrice_160, rX12_greedyPrice_161, up2_eq, va_rf, eq_self, or_true, true_or, Option.toList_some, Option.toList_none, List.cons_append, List.nil_append, if_true, if_false]
    have hst := l_gFar (k := k) (n := n) (u := u) (B := B) (Q := Q) (lf := lf) (s := s) (x1 := .int bi) (x2 := .int (nI sm)) (v1 := mxf (tol lf (fI f) m c E i) s) hM h32 hm hi (by omega) hl
    have e0 : mxf (fal lf m i) 0 = 0 := rfl
    have e1 : f3 i s (mxf (tol lf (fI f) m c E i) s) 0 = c3 (wd s) (mxf (tol lf (fI f) m c E i) s) := by
      unfold f3 c3
      rw [Nat.max_zero, if_neg (Nat.not_lt_zero _)]
    have hst2 := fun hq => hst hq i 0 x7 (Nat.zero_add _)
    rw [e0, e1, Nat.max_zero] at hst2
    refine hst2 ?_
    intro x6 x7
    unfold gst at hQ
    rw [if_neg hno] at hQ
    unfold z3 f3
    by_cases c1 : max (mxf (tol lf (fI f) m c E i) s) (mxf (fal lf m i) i) < 3
    · rw [if_pos c1, if_pos c1]
      rw [if_pos c1] at hQ
      simp only [rX12_greedyPrice_217, rX12_greedyPrice_218, rX12_greedyPrice_220, rX12_greedyPrice_223, rX12_greedyPrice_225, rX12_greedyPrice_230, rX12_greedyPrice_231, rX12_greedyPrice_232, rX12_greedyPrice_233, rX12_greedyPrice_235, rX12_greedyPrice_238, rX12_greedyPrice_239, rX12_greedyPrice_244, rX12_greedyPrice_245, rX12_greedyPrice_246, nI_add, up2_eq, va_rf, eq_self, or_true, true_or, Option.toList_some, Option.toList_none, List.cons_append, List.nil_append, if_true, if_false]
      exact hQ _ _ _ _
    · rw [if_neg c1, if_neg c1]
      rw [if_neg c1] at hQ
      have g1 : ¬ nI (max (mxf (tol lf (fI f) m c E i) s) (mxf (fal lf m i) i)) = nI 0 := nI_ne0 (by omega) (by omega)
      simp only [rX12_greedyPrice_217, rX12_greedyPrice_218, rX12_greedyPrice_220, rX12_greedyPrice_228, rX12_greedyPrice_230, rX12_greedyPrice_231, rX12_greedyPrice_232, rX12_greedyPrice_233, rX12_greedyPrice_235, rX12_greedyPrice_242, rX12_greedyPrice_244, rX12_greedyPrice_245, rX12_greedyPrice_246, g1, nI_add, up2_eq, va_rf, eq_self, or_true, true_or, Option.toList_some, Option.toList_none, List.cons_append, List.nil_append, if_true, if_false]
      exact hQ _ _ _ _
  cases hrk : rk with
  | false =>
    rw [hrk] at hB two
    rw [← hrk] at hB
    simp only [rX12_greedyPrice_21, rX12_greedyPrice_22, up2_eq, va_rf, eq_self, or_true, true_or, Option.toList_some, Option.toList_none, List.cons_append, List.nil_append, if_true, if_false]
    rw [rX12_greedyPrice_23 hM.1, k_isRanked hM hB, hrk]
    simp only [Bool.false_eq_true, rX12_greedyPrice_26, up2_eq, va_rf, eq_self, or_true, true_or, Option.toList_some, Option.toList_none, List.cons_append, List.nil_append, if_true, if_false]
    exact two _ _ (fun x => absurd x.1 (by decide))
  | true =>
    rw [hrk] at hB
    have ht := l_gWho (k := k) (n := n) (u := u) (B := B) (Q := Q) (lf := lf) (x2 := .int (nI sm)) (x7 := x7) hM h32 hm hi hB hE hc hs hl
    have ht2 := fun hq => ht hq c 0 (Nat.zero_add _)
    refine ht2 ?_
    intro x6
    by_cases c1 : 0 < (lwS E (whl lf (fI f) m E i) c).2
    · have hlt := lwS_lt (lf := lf) (f := fI f) (m := m) (E := E) (i := i) c c1
      have g1 : ¬ nI (lwS E (whl lf (fI f) m E i) c).2 = nI 0 := nI_ne0 (by omega) (by omega)
      have e : cW E (whl lf (fI f) m E i) c = 2 + gm ((lwS E (whl lf (fI f) m E i) c).1 + 1) := by unfold cW; rw [if_neg (by omega)]
      rw [e]
      unfold gst at hQ
      rw [if_pos ⟨hrk, c1⟩] at hQ
      simp only [rX12_greedyPrice_89, rX12_greedyPrice_91, rX12_greedyPrice_217, rX12_greedyPrice_218, rX12_greedyPrice_220, rX12_greedyPrice_228, rX12_greedyPrice_230, rX12_greedyPrice_231, rX12_greedyPrice_232, rX12_greedyPrice_233, rX12_greedyPrice_235, rX12_greedyPrice_242, rX12_greedyPrice_244, rX12_greedyPrice_245, rX12_greedyPrice_246, g1, nI_add, up2_eq, va_rf, eq_self, or_true, true_or, Option.toList_some, Option.toList_none, List.cons_append, List.nil_append, if_true, if_false]
      exact hQ _ _ _ _
    · have e : cW E (whl lf (fI f) m E i) c = 0 := by unfold cW; rw [if_pos (by omega)]
      rw [e, show (lwS E (whl lf (fI f) m E i) c).2 = 0 by omega]
      exact two _ _ (fun x => c1 x.2)
theorem l_greedy12 (hM : isM sh R y) (h32 : F 1232 y = nI m) (hm : m ≤ 120) (hB : mBo A y bi c s E f rk) (hE : okE E c s) (hc : c ≤ 20) (hs : s ≤ 320) (hl : ∀ j, j < m → A (y + 22) j = lf j) :
    ∀ d i sm x4 x5 x6 x7, i + d = m → Q (some (.int (nI (sm + grN lf (fI f) m s c E rk m i)))) (mkh n u sh F R A B) → rw_ (k + 3) mX12_greedyPrice 4 [.ref y, .int bi, .int (nI sm), .int (nI i), x4, x5, x6, x7] [] (mkh n u sh F R A B) Q := by
  intro d
  induction d using Nat.strongRecOn with
  | _ d ih =>
    intro i sm x4 x5 x6 x7 hi hQ
    by_cases h0 : d = 0
    · have e : i = m := by omega
      subst e
      have g1 : nI i ≤ nI i := nI_le (Nat.le_refl _) (by omega)
      rw [grN_low i (Nat.le_refl _) (Or.inr (Nat.le_refl _)), Nat.add_zero] at hQ
      simp only [rX12_greedyPrice_4, rX12_greedyPrice_5, rX12_greedyPrice_6, rX12_greedyPrice_9, rX12_greedyPrice_249, rX12_greedyPrice_250, g1, hM.1, h32, up2_eq, va_rf, eq_self, or_true, true_or, Option.toList_some, Option.toList_none, List.cons_append, List.nil_append, if_true, if_false]
      exact hQ
    · have hg := gst_ok (lf := lf) (f := fI f) (E := E) (rk := rk) (i := i) (m := m) (s := s) (c := c) (by omega) hm hs hc
      rw [grN_at (by omega) hm hs hc, ← Nat.add_assoc] at hQ
      refine l_gStep (lf := lf) hM h32 hm (by omega) hB hE hc hs hl ?_
      intro x4 x5 x6 x7
      exact ih (d - (gst lf (fI f) m s c E rk i).1) (by omega) _ _ _ _ _ _ (by omega) hQ
theorem k_greedyPrice (hM : isM sh R y) (h32 : F 1232 y = nI m) (hm : m ≤ 120) (hB : mBo A y bi c s E f rk) (hE : okE E c s) (hc : c ≤ 20) (hs : s ≤ 320) (hl : ∀ j, j < m → A (y + 22) j = lf j) (hQ : Q (some (.int (nI (grN lf (fI f) m s c E rk m 0)))) (mkh n u sh F R A B)) : rc_ (k + 3) mX12_greedyPrice [.ref y, .int bi] (mkh n u sh F R A B) Q := by
  rw [eX12_greedyPrice]
  simp only [rX12_greedyPrice_0, rX12_greedyPrice_1, rX12_greedyPrice_2, rX12_greedyPrice_3]
  exact l_greedy12 hM h32 hm hB hE hc hs hl m 0 0 _ _ _ _ (Nat.zero_add _) (by rw [Nat.zero_add]; exact hQ)
theorem MS_bo {i : Int32} (h : MS F A y T) (hT : okT T) (hi : bx i (T.1 2 0) = some b) : mBo A y i (T.1 4 b) (T.1 5 b) (T.2.1 3 b) (T.2.1 0 b) (decide (T.1 3 b = 2)) := by
  unfold bx at hi
  by_cases e : i = -1
  · rw [if_pos e] at hi
    have e2 : 25 = b := Option.some.inj hi
    subst e2
    have o := hT.2.2.2.1.2.2
    exact Or.inl ⟨e, o.2.1, o.2.2.1, by rw [o.1]; decide⟩
  · rw [if_neg e] at hi
    obtain ⟨h1, h2, rfl⟩ := ix_some hi
    obtain ⟨c1, c2, c3⟩ := h.2.1.2.2.1 b h1
    exact Or.inr ⟨b, T.1 3 b, by have := hT.2.2.2.1.1; omega, rfl, c2, c1, ((hT.2.2.2.1.2.1 b (Or.inl h1)).1).2.2.2.1, rfl⟩
theorem okT_ne {i : Int32} (hT : okT T) (hi : bx i (T.1 2 0) = some b) : decide (T.1 3 b = 2) = true → ∀ q, q < T.1 4 b → 0 < T.2.1 3 b q - pst (T.2.1 3 b) q := fun hr => ((hT.2.2.2.1.2.1 b (bx_some hi)).1).2.2.2.2.1 (by have := of_decide_eq_true hr; omega)
theorem m_greedy {i : Int32} (hM : isM sh R y) (h : MS F A y T) (hT : okT T) (hQ : mPost n u sh F R A B y (s_greedy T i) Q) : rc_ (k + 8) mX12_greedy [.ref y, .int i] (mkh n u sh F R A B) Q := by
  have h0 := MS_th (v := nI 0) h hT
  have hc := MS_clr h0 hT
  have hTc := okT_clr hT
  have t0 := hT.1.1
  have h24 := hT.2.2.2.1.1
  have e02 : up2 F 1200 y (nI 0) 1202 y = nI (T.1 0 0) := h0.1.1.1
  have frc : frM y F A (up2 (up2 F 1200 y (nI 0)) 1202 y (nI 0)) A := frM_trans (frM_F (by decide)) (frM_F (by decide))
  have g : ¬ nI 1 = nI 0 := by decide
  rw [eX12_greedy]
  simp only [rX12_greedy_0, rX12_greedy_1, rX12_greedy_2, rX12_greedy_5, hM.1, up2_eq, va_rf, eq_self, or_true, true_or, Option.toList_some, Option.toList_none, List.cons_append, List.nil_append, if_true, if_false]
  rw [rX12_greedy_6 hM.1]
  unfold s_greedy at hQ
  refine k_takeTape hM e02 t0 (fun c => ?_) (fun c A1 f1 f2 => ?_)
  · simp only [rX12_greedy_9, rX12_greedy_10, rX12_greedy_11, up2_eq, va_rf, eq_self, or_true, true_or, Option.toList_some, Option.toList_none, List.cons_append, List.nil_append, if_true, if_false]
    rw [rX12_greedy_12 hM.1, k_isBookOr hM hc.2.1.1 h24]
    have hq : mPost n u sh F R A B y (-3, clrT T) Q := by
      cases hi : bx i (T.1 2 0) with
      | none => rw [hi] at hQ; exact hQ
      | some b => rw [hi] at hQ; dsimp only at hQ; rw [if_pos c] at hQ; exact hQ
    have hq2 := hq _ _ hc frc
    have e05 : bx i ((clrT T).1 2 0) = bx i (T.1 2 0) := rfl
    rw [e05]
    cases hi : bx i (T.1 2 0) with
    | none =>
      rw [if_pos rfl]
      simp only [rX12_greedy_15, rX12_greedy_22, rX12_greedy_24, up2_eq, va_rf, eq_self, or_true, true_or, Option.toList_some, Option.toList_none, List.cons_append, List.nil_append, if_true, if_false]
      exact hq2
    | some b =>
      rw [if_neg (by simp)]
      simp only [rX12_greedy_15, rX12_greedy_18, rX12_greedy_19, rX12_greedy_22, rX12_greedy_24, g, up2_eq, va_rf, eq_self, or_true, true_or, Option.toList_some, Option.toList_none, List.cons_append, List.nil_append, if_true, if_false]
      exact hq2
  · have hs : MS (up2 (up2 (up2 F 1200 y (nI 0)) 1202 y (nI 0)) 1232 y (nI (T.1 0 0))) A1 y (clrT T) := MS_scr hc hTc (fun q hq => up2_k (by omega)) (fun k k1 k2 k3 => f1 _ (by omega)) (fun j _ => by rw [f1 _ (by omega)]) (fun j _ => by rw [f1 _ (by omega)]) (fun j _ => by rw [f1 _ (by omega)]) (fun j _ => by rw [f1 _ (by omega)])
    have frs : frM y F A (up2 (up2 (up2 F 1200 y (nI 0)) 1202 y (nI 0)) 1232 y (nI (T.1 0 0))) A1 := frM_trans frc ⟨fun q a g => up2_o (by omega), fun a g => f1 _ (by omega)⟩
    have e32 : up2 (up2 (up2 F 1200 y (nI 0)) 1202 y (nI 0)) 1232 y (nI (T.1 0 0)) 1232 y = nI (T.1 0 0) := up2_eq
    generalize up2 (up2 (up2 F 1200 y (nI 0)) 1202 y (nI 0)) 1232 y (nI (T.1 0 0)) = F1 at hs frs e32 ⊢
    simp only [rX12_greedy_9, rX12_greedy_10, rX12_greedy_11, up2_eq, va_rf, eq_self, or_true, true_or, Option.toList_some, Option.toList_none, List.cons_append, List.nil_append, if_true, if_false]
    rw [rX12_greedy_12 hM.1, k_isBookOr hM hs.2.1.1 h24]
    have e05 : bx i ((clrT T).1 2 0) = bx i (T.1 2 0) := rfl
    rw [e05]
    cases hi : bx i (T.1 2 0) with
    | none =>
      rw [hi] at hQ
      rw [if_pos rfl]
      simp only [rX12_greedy_15, rX12_greedy_22, rX12_greedy_24, up2_eq, va_rf, eq_self, or_true, true_or, Option.toList_some, Option.toList_none, List.cons_append, List.nil_append, if_true, if_false]
      exact hQ _ _ hs frs
    | some b =>
      rw [hi] at hQ
      dsimp only at hQ
      rw [if_neg (by omega)] at hQ
      rw [if_neg (by simp)]
      simp only [rX12_greedy_15, rX12_greedy_18, rX12_greedy_19, rX12_greedy_25, rX12_greedy_26, g, up2_eq, va_rf, eq_self, or_true, true_or, Option.toList_some, Option.toList_none, List.cons_append, List.nil_append, if_true, if_false]
      have hb := MS_bo hs hTc (show bx i ((clrT T).1 2 0) = some b from hi)
      obtain ⟨k1, k2, k3, -⟩ := (hT.2.2.2.1.2.1 b (bx_some hi)).1
      rw [rX12_greedy_27 hM.1]
      refine k_greedyPrice (k := k + 4) (lf := fI (T.1 30)) hM e32 c hb k1 k2 k3 (fun j hj => by rw [f2 j hj]; exact h.1.1.2 j hj) ?_
      simp only [rX12_greedy_30, up2_eq, va_rf, eq_self, or_true, true_or, Option.toList_some, Option.toList_none, List.cons_append, List.nil_append, if_true, if_false]
      exact hQ _ _ hs frs
end MGR
