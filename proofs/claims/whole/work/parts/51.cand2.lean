/-! ===== candidates go in; how far two samples are alike ===== -/
theorem nI_sub1 (a : Nat) : nI (a + 1) - nI 1 = nI a := by rw [pk_sub (by omega)]; rfl
theorem nI_dec (a : Nat) : nI (a + 1) + (-1 : Int32) = nI a := pk_m1 a
section CA2
variable {k n u : Nat} {sh : hs_} {F : hF_} {R : hR_} {A : hF_} {B : hR_} {Q : Option Value → pm_H → Prop} {t pk ns f : Nat} {sl : Nat → Nat} {cs : Nat → cd} {p : cd}
theorem isC_upo {o o' so : Nat} {x y w : Int32} {c : cd} (hne : o' ≠ o) (h : isC F R o' t c) : isC (up2 (up2 (up2 F 201 o x) 202 o y) 203 o w) (up2 R 200 o (some so)) o' t c := by
  obtain ⟨h1, h2, h3, h4⟩ := h
  exact ⟨by rw [up2_a hne]; exact h1, by rw [up2_a hne, up2_a hne, up2_a hne]; exact h2, by rw [up2_a hne, up2_a hne, up2_a hne]; exact h3, by rw [up2_a hne, up2_a hne, up2_a hne]; exact h4⟩
theorem isC_ups {o : Nat} {c : cd} : isC (up2 (up2 (up2 F 201 o (nI c.2.1)) 202 o (nI c.2.2.1)) 203 o (nI c.2.2.2)) (up2 R 200 o (some (t + 9 + 2 * c.1))) o t c := by
  refine ⟨by rw [up2_eq], by rw [up2_k (by decide), up2_k (by decide), up2_eq], by rw [up2_k (by decide), up2_eq], by rw [up2_eq]⟩
theorem l_iat (hT : isT sh R B t pk) (hsm : isSm F t ns sl) (hcs : isCs F R t f cs) (hok : ∀ i, i < f → okC ns sl (cs i)) (hp : isC F R (t + 25) t p) (kp : okC ns sl p) {a2 a3 : Value} :
    ∀ d i, i + d = f → (rw_ (k + 4) mX8_insertProbe 2 [.ref t, .int (nI i), a2, a3] [] (mkh n u sh F R A B) Q ↔ rw_ (k + 4) mX8_insertProbe 32 [.ref t, .int (nI (iat (fun c => decide (ordW (sbA A t) c p < nI 0)) cs d i)), a2, a3] [] (mkh n u sh F R A B) Q) := by
  obtain ⟨c1, c2, c3⟩ := hcs
  intro d
  induction d with
  | zero =>
    intro i hi
    have e : i = f := by omega
    subst e
    have g1 : nI i ≤ nI i := nI_le (Nat.le_refl _) (by omega)
    simp only [rX8_insertProbe_2, rX8_insertProbe_3, rX8_insertProbe_4, rX8_insertProbe_7, hT.1.1, c1, g1, iat, up2_eq, va_rf, eq_self, or_true, true_or, Option.toList_some, Option.toList_none, List.cons_append, List.nil_append, if_true, if_false]
  | succ d ih =>
    intro i hi
    have g1 : ¬ nI f ≤ nI i := nI_ge (by omega) (by omega)
    obtain ⟨e1, e2⟩ := hT.2.2.2.2.2.2.2.2 i (by omega)
    simp only [rX8_insertProbe_2, rX8_insertProbe_3, rX8_insertProbe_4, rX8_insertProbe_7, rX8_insertProbe_10, rX8_insertProbe_11, rX8_insertProbe_14, hT.1.1, hT.2.2.1.1, c1, g1, up2_eq, va_rf, eq_self, or_true, true_or, Option.toList_some, Option.toList_none, List.cons_append, List.nil_append, if_true, if_false]
    rw [rX8_insertProbe_15 hT.2.2.1.2 (by omega) (by omega), e1]
    simp only [rX8_insertProbe_16, rX8_insertProbe_17, hT.1.1, hT.2.2.2.1.1, up2_eq, va_rf, eq_self, or_true, true_or, Option.toList_some, Option.toList_none, List.cons_append, List.nil_append, if_true, if_false]
    rw [rX8_insertProbe_20 e2, k_orderS hT hsm e2 hT.2.2.2.1.2 (c3 i (by omega)) hp (hok i (by omega)) kp]
    unfold iat
    simp only [rX8_insertProbe_23, up2_eq, va_rf, eq_self, or_true, true_or, Option.toList_some, Option.toList_none, List.cons_append, List.nil_append, if_true, if_false, decide_eq_true_eq]
    by_cases c : ordW (sbA A t) (cs i) p < nI 0
    · have g2 : ¬ nI 0 ≤ ordW (sbA A t) (cs i) p := Int32.not_le.mpr c
      rw [if_neg g2, if_pos c]
      simp only [rX8_insertProbe_26, rX8_insertProbe_29, nI_add]
      exact ih (i + 1) (by omega)
    · have g2 : nI 0 ≤ ordW (sbA A t) (cs i) p := Int32.not_lt.mp c
      rw [if_pos g2, if_neg c]
theorem l_shift (hT : isT sh R B t pk) {w f' : Nat} (hw : w < f') (hf' : f' ≤ 8)
    (hQ : ∀ F' R', frC t F R A F' R' A → isCs F' R' t f' (insC cs w p) → Q none (mkh n u sh F' R' A B)) {a2 : Value} :
    ∀ d F1 R1, w + d < f' → frC t F R A F1 R1 A → F1 804 t = nI f' → isC F1 R1 (t + 25) t p → (∀ j, j < f' → w + d < j → isC F1 R1 (t + 26 + j) t (cs (j - 1))) → (∀ j, j ≤ w + d → (j < w + d ∨ j < w) → isC F1 R1 (t + 26 + j) t (cs j)) →
    rw_ (k + 4) mX8_insertProbe 95 [.ref t, .int (nI w), a2, .int (nI (w + d))] [] (mkh n u sh F1 R1 A B) Q := by
  intro d
  induction d with
  | zero =>
    intro F1 R1 hd hfr h804 hp hgt hle
    have hT1 : isT sh R1 B t pk := isT_cong hT (fun q a hq => hfr.2.1 q a (by omega))
    obtain ⟨e1, e2⟩ := hT.2.2.2.2.2.2.2.2 w (by omega)
    have g1 : nI w ≤ nI w := nI_le (Nat.le_refl _) (by omega)
    simp only [Nat.add_zero, rX8_insertProbe_95, rX8_insertProbe_96, rX8_insertProbe_97, rX8_insertProbe_123, rX8_insertProbe_124, rX8_insertProbe_127, hT.1.1, hT1.2.2.1.1, g1, up2_eq, va_rf, eq_self, or_true, true_or, Option.toList_some, Option.toList_none, List.cons_append, List.nil_append, if_true, if_false]
    rw [rX8_insertProbe_128 hT.2.2.1.2 (by omega) (by omega), e1]
    simp only [rX8_insertProbe_129, rX8_insertProbe_130, hT.1.1, hT1.2.2.2.1.1, up2_eq, va_rf, eq_self, or_true, true_or, Option.toList_some, Option.toList_none, List.cons_append, List.nil_append, if_true, if_false]
    rw [rX8_insertProbe_133 e2, k_Cbecome e2 hT.2.2.2.1.2 hp]
    simp only [rX8_insertProbe_136, up2_eq, va_rf, eq_self, or_true, true_or, Option.toList_some, Option.toList_none, List.cons_append, List.nil_append, if_true, if_false]
    refine hQ _ _ ⟨fun q a h1 h2 h3 h4 => ?_, fun q a h1 => ?_, fun a _ => rfl⟩ ⟨?_, hf', fun j hj => ?_⟩
    · rw [up2_k h3, up2_k h2, up2_k h1]; exact hfr.1 q a h1 h2 h3 h4
    · rw [up2_k h1]; exact hfr.2.1 q a h1
    · rw [up2_k (by decide), up2_k (by decide), up2_k (by decide)]; exact h804
    · unfold insC
      by_cases c1 : j < w
      · rw [if_pos c1]
        exact isC_upo (by omega) (hle j (by omega) (by omega))
      · rw [if_neg c1]
        by_cases c2 : j = w
        · rw [if_pos c2]
          subst c2
          exact isC_ups
        · rw [if_neg c2]
          exact isC_upo (by omega) (hgt j hj (by omega))
  | succ d ih =>
    intro F1 R1 hd hfr h804 hp hgt hle
    have hT1 : isT sh R1 B t pk := isT_cong hT (fun q a hq => hfr.2.1 q a (by omega))
    obtain ⟨e1, e2⟩ := hT.2.2.2.2.2.2.2.2 (w + (d + 1)) (by omega)
    obtain ⟨e3, e4⟩ := hT.2.2.2.2.2.2.2.2 (w + d) (by omega)
    have g1 : ¬ nI (w + (d + 1)) ≤ nI w := nI_ge (by omega) (by omega)
    have g2 : nI (w + (d + 1)) - nI 1 = nI (w + d) := nI_sub1 (w + d)
    have g3 : nI (w + (d + 1)) + (-1 : Int32) = nI (w + d) := nI_dec (w + d)
    simp only [rX8_insertProbe_95, rX8_insertProbe_96, rX8_insertProbe_97, rX8_insertProbe_100, rX8_insertProbe_101, rX8_insertProbe_104, hT.1.1, hT1.2.2.1.1, g1, up2_eq, va_rf, eq_self, or_true, true_or, Option.toList_some, Option.toList_none, List.cons_append, List.nil_append, if_true, if_false]
    rw [rX8_insertProbe_105 hT.2.2.1.2 (by omega) (by omega), e1]
    simp only [rX8_insertProbe_106, rX8_insertProbe_107, rX8_insertProbe_110, rX8_insertProbe_111, rX8_insertProbe_112, hT.1.1, hT1.2.2.1.1, g2, up2_eq, va_rf, eq_self, or_true, true_or, Option.toList_some, Option.toList_none, List.cons_append, List.nil_append, if_true, if_false]
    rw [rX8_insertProbe_113 hT.2.2.1.2 (by omega) (by omega), e3]
    simp only [up2_eq, va_rf, eq_self, or_true, true_or, Option.toList_some, Option.toList_none, List.cons_append, List.nil_append, if_true, if_false]
    rw [rX8_insertProbe_114 e2, k_Cbecome e2 e4 (hle (w + d) (by omega) (by omega))]
    simp only [rX8_insertProbe_117, rX8_insertProbe_120, g3, up2_eq, va_rf, eq_self, or_true, true_or, Option.toList_some, Option.toList_none, List.cons_append, List.nil_append, if_true, if_false]
    refine ih _ _ (by omega) ⟨fun q a h1 h2 h3 h4 => ?_, fun q a h1 => ?_, fun a _ => rfl⟩ ?_ ?_ (fun j hj hw' => ?_) (fun j hj hj' => ?_)
    · rw [up2_k h3, up2_k h2, up2_k h1]; exact hfr.1 q a h1 h2 h3 h4
    · rw [up2_k h1]; exact hfr.2.1 q a h1
    · rw [up2_k (by decide), up2_k (by decide), up2_k (by decide)]; exact h804
    · exact isC_upo (by omega) hp
    · by_cases c : j = w + (d + 1)
      · subst c
        exact isC_ups
      · exact isC_upo (by omega) (hgt j hj (by omega))
    · exact isC_upo (by omega) (hle j (by omega) (by omega))
theorem k_insP (hT : isT sh R B t pk) (hsm : isSm F t ns sl) (hcs : isCs F R t f cs) (hok : ∀ i, i < f → okC ns sl (cs i)) (hp : isC F R (t + 25) t p) (kp : okC ns sl p)
    (hQ : ∀ F' R', frC t F R A F' R' A → isCs F' R' t (insP (sbA A t) (cs, f) p).2 (insP (sbA A t) (cs, f) p).1 → Q none (mkh n u sh F' R' A B)) :
    rc_ (k + 4) mX8_insertProbe [.ref t] (mkh n u sh F R A B) Q := by
  obtain ⟨c1, c2, c3⟩ := id hcs
  rw [eX8_insertProbe]
  simp only [rX8_insertProbe_0, rX8_insertProbe_1]
  rw [l_iat hT hsm hcs hok hp kp f 0 (by omega)]
  have hw := iat_le (lt := fun c => decide (ordW (sbA A t) c p < nI 0)) (cs := cs) f 0
  revert hQ
  unfold insP
  simp only []
  generalize iat (fun c => decide (ordW (sbA A t) c p < nI 0)) cs f 0 = w at hw ⊢
  intro hQ
  by_cases q1 : w < f ∧ ordW (sbA A t) (cs w) p = nI 0
  · rw [if_pos (Or.inl q1)] at hQ
    obtain ⟨e1, e2⟩ := hT.2.2.2.2.2.2.2.2 w (by omega)
    have g1 : ¬ nI f ≤ nI w := nI_ge (by omega) (by omega)
    have g3 : ¬ nI 1 = nI 0 := by decide
    simp only [rX8_insertProbe_32, rX8_insertProbe_33, rX8_insertProbe_34, rX8_insertProbe_37, rX8_insertProbe_40, rX8_insertProbe_41, rX8_insertProbe_44, hT.1.1, hT.2.2.1.1, c1, g1, up2_eq, va_rf, eq_self, or_true, true_or, Option.toList_some, Option.toList_none, List.cons_append, List.nil_append, if_true, if_false]
    rw [rX8_insertProbe_45 hT.2.2.1.2 (by omega) (by omega), e1]
    simp only [rX8_insertProbe_46, rX8_insertProbe_47, hT.1.1, hT.2.2.2.1.1, up2_eq, va_rf, eq_self, or_true, true_or, Option.toList_some, Option.toList_none, List.cons_append, List.nil_append, if_true, if_false]
    rw [rX8_insertProbe_50 e2, k_orderS hT hsm e2 hT.2.2.2.1.2 (c3 w q1.1) hp (hok w q1.1) kp]
    simp only [rX8_insertProbe_53, rX8_insertProbe_56, rX8_insertProbe_57, rX8_insertProbe_61, rX8_insertProbe_62, rX8_insertProbe_63, rX8_insertProbe_72, q1.2, g3, up2_eq, va_rf, eq_self, or_true, true_or, Option.toList_some, Option.toList_none, List.cons_append, List.nil_append, if_true, if_false]
    exact hQ _ _ frC_refl hcs
  · have hmid : rw_ (k + 4) mX8_insertProbe 32 [.ref t, .int (nI w), .retAddr 0, .retAddr 0] [] (mkh n u sh F R A B) Q ↔ rw_ (k + 4) mX8_insertProbe 66 [.ref t, .int (nI w), .int (nI 0), .retAddr 0] [] (mkh n u sh F R A B) Q := by
      by_cases q2 : w < f
      · have q3 : ¬ ordW (sbA A t) (cs w) p = nI 0 := fun h => q1 ⟨q2, h⟩
        obtain ⟨e1, e2⟩ := hT.2.2.2.2.2.2.2.2 w (by omega)
        have g1 : ¬ nI f ≤ nI w := nI_ge (by omega) (by omega)
        simp only [rX8_insertProbe_32, rX8_insertProbe_33, rX8_insertProbe_34, rX8_insertProbe_37, rX8_insertProbe_40, rX8_insertProbe_41, rX8_insertProbe_44, hT.1.1, hT.2.2.1.1, c1, g1, up2_eq, va_rf, eq_self, or_true, true_or, Option.toList_some, Option.toList_none, List.cons_append, List.nil_append, if_true, if_false]
        rw [rX8_insertProbe_45 hT.2.2.1.2 (by omega) (by omega), e1]
        simp only [rX8_insertProbe_46, rX8_insertProbe_47, hT.1.1, hT.2.2.2.1.1, up2_eq, va_rf, eq_self, or_true, true_or, Option.toList_some, Option.toList_none, List.cons_append, List.nil_append, if_true, if_false]
        rw [rX8_insertProbe_50 e2, k_orderS hT hsm e2 hT.2.2.2.1.2 (c3 w q2) hp (hok w q2) kp]
        simp only [rX8_insertProbe_53, rX8_insertProbe_60, rX8_insertProbe_61, rX8_insertProbe_62, rX8_insertProbe_63, q3, up2_eq, va_rf, eq_self, or_true, true_or, Option.toList_some, Option.toList_none, List.cons_append, List.nil_append, if_true, if_false]
      · have g1 : nI f ≤ nI w := nI_le (by omega) (by omega)
        simp only [rX8_insertProbe_32, rX8_insertProbe_33, rX8_insertProbe_34, rX8_insertProbe_37, rX8_insertProbe_60, rX8_insertProbe_61, rX8_insertProbe_62, rX8_insertProbe_63, hT.1.1, c1, g1, up2_eq, va_rf, eq_self, or_true, true_or, Option.toList_some, Option.toList_none, List.cons_append, List.nil_append, if_true, if_false]
    rw [hmid]
    by_cases q2 : 8 ≤ w
    · rw [if_pos (Or.inr q2)] at hQ
      have g1 : ¬ nI w < nI 8 := nI_nlt q2 (by omega)
      simp only [rX8_insertProbe_66, rX8_insertProbe_67, rX8_insertProbe_69, rX8_insertProbe_72, g1, up2_eq, va_rf, eq_self, or_true, true_or, Option.toList_some, Option.toList_none, List.cons_append, List.nil_append, if_true, if_false]
      exact hQ _ _ frC_refl hcs
    · rw [if_neg (fun h => h.elim q1 q2)] at hQ
      have g1 : nI w < nI 8 := nI_lt (by omega) (by omega)
      have g2 := nI_min (a := f + 1) (b := 8) (by omega) (by omega)
      have hm : ∃ d, min (f + 1) 8 = w + d + 1 ∧ w + d < 8 := ⟨min (f + 1) 8 - w - 1, by omega, by omega⟩
      obtain ⟨d, hd, hd8⟩ := hm
      have g3 : nI (w + d + 1) - nI 1 = nI (w + d) := nI_sub1 (w + d)
      simp only [rX8_insertProbe_66, rX8_insertProbe_67, rX8_insertProbe_69, rX8_insertProbe_73, rX8_insertProbe_74, rX8_insertProbe_75, rX8_insertProbe_78, rX8_insertProbe_79, rX8_insertProbe_80, rX8_insertProbe_82, rX8_insertProbe_85, rX8_insertProbe_88, rX8_insertProbe_89, rX8_insertProbe_92, rX8_insertProbe_93, rX8_insertProbe_94, hT.1.1, c1, g1, nI_add, g2, hd, g3, up2_eq, va_rf, eq_self, or_true, true_or, Option.toList_some, Option.toList_none, List.cons_append, List.nil_append, if_true, if_false]
      rw [hd] at hQ
      refine l_shift (f' := w + d + 1) hT (by omega) (by omega) hQ d _ _ (by omega) ⟨fun q a h1 h2 h3 h4 => ?_, fun q a h1 => rfl, fun a _ => rfl⟩ ?_ ⟨hp.1, ?_, ?_, ?_⟩ (fun j h1 h2 => by omega) (fun j h1 h2 => ?_)
      · rw [up2_k h4]
      · rw [up2_eq]
      · rw [up2_k (by decide)]; exact hp.2.1
      · rw [up2_k (by decide)]; exact hp.2.2.1
      · rw [up2_k (by decide)]; exact hp.2.2.2
      · obtain ⟨h3, h4, h5, h6⟩ := c3 j (by omega)
        exact ⟨h3, by rw [up2_k (by decide)]; exact h4, by rw [up2_k (by decide)]; exact h5, by rw [up2_k (by decide)]; exact h6⟩
/-- how far two samples are alike from here and there on, 12 at the most -/
def alk (sb : Nat → Nat → Int32) (sl : Nat → Nat) (s p i q : Nat) : Nat := cpl (fun j => sb s (p + j)) (fun j => sb i (q + j)) (min 12 (min (sl s - p) (sl i - q)))
def lon (sb : Nat → Nat → Int32) (sl : Nat → Nat) (s p i : Nat) : Nat → Nat
  | 0 => 0
  | q + 1 => max (lon sb sl s p i q) (alk sb sl s p i q)
theorem alk_le {sb : Nat → Nat → Int32} {s q i w : Nat} : alk sb sl s q i w ≤ 12 ∧ alk sb sl s q i w ≤ sl s - q := by
  have := cpl_le (f := fun j => sb s (q + j)) (g := fun j => sb i (w + j)) (min 12 (min (sl s - q) (sl i - w)))
  unfold alk
  omega
theorem lon_le {sb : Nat → Nat → Int32} {s q i : Nat} : ∀ w, lon sb sl s q i w ≤ 12 ∧ lon sb sl s q i w ≤ sl s - q
  | 0 => ⟨Nat.zero_le _, Nat.zero_le _⟩
  | w + 1 => by
    have h1 := lon_le (sb := sb) (s := s) (q := q) (i := i) w
    have h2 := alk_le (sl := sl) (sb := sb) (s := s) (q := q) (i := i) (w := w)
    unfold lon
    omega
theorem lon_mono {sb : Nat → Nat → Int32} {s q i : Nat} : ∀ d w, lon sb sl s q i w ≤ lon sb sl s q i (w + d)
  | 0, w => Nat.le_refl _
  | d + 1, w => Nat.le_trans (lon_mono d w) (Nat.le_max_left _ _)
theorem l_lon {s q i : Nat} (hT : isT sh R B t pk) (hsm : isSm F t ns sl) (hs : s < ns) (hi : i < ns) (hq : q ≤ sl s) :
    ∀ d w, w + d = sl i → (rw_ (k + 2) mX8_longestAlike 6 [.ref t, .ref (t + 9 + 2 * s), .int (nI q), .ref (t + 9 + 2 * i), .int (nI (lon (sbA A t) sl s q i w)), .int (nI w)] [] (mkh n u sh F R A B) Q ↔ Q (some (.int (nI (lon (sbA A t) sl s q i (sl i))))) (mkh n u sh F R A B)) := by
  have hS := isT_sB hT hsm hs
  have hI := isT_sB hT hsm hi
  have sS := hS.2.2.2.2.2
  have sI := hI.2.2.2.2.2
  intro d
  induction d with
  | zero =>
    intro w hw
    have e : w = sl i := by omega
    subst e
    have g1 : nI (sl i) ≤ nI (sl i) := nI_le (Nat.le_refl _) (by omega)
    simp only [rX8_longestAlike_6, rX8_longestAlike_8, rX8_longestAlike_8_n, rX8_longestAlike_9, rX8_longestAlike_12, rX8_longestAlike_45, rX8_longestAlike_47, hI.1, hI.2.2.2.2.1, g1, up2_eq, va_rf, eq_self, or_true, true_or, Option.toList_some, Option.toList_none, List.cons_append, List.nil_append, if_true, if_false]
  | succ d ih =>
    intro w hw
    have hl := lon_le (sl := sl) (sb := sbA A t) (s := s) (q := q) (i := i) w
    have g1 : ¬ nI (sl i) ≤ nI w := nI_ge (by omega) (by omega)
    simp only [rX8_longestAlike_6, rX8_longestAlike_8, rX8_longestAlike_8_n, rX8_longestAlike_9, rX8_longestAlike_12, rX8_longestAlike_15, rX8_longestAlike_17, rX8_longestAlike_19, hI.1, hI.2.2.2.2.1, g1, up2_eq, va_rf, eq_self, or_true, true_or, Option.toList_some, Option.toList_none, List.cons_append, List.nil_append, if_true, if_false]
    by_cases c : lon (sbA A t) sl s q i w = 12
    · have g2 : nI 12 ≤ nI (lon (sbA A t) sl s q i w) := nI_le (by omega) (by omega)
      have h2 := lon_mono (sl := sl) (sb := sbA A t) (s := s) (q := q) (i := i) (d + 1) w
      have h3 := lon_le (sl := sl) (sb := sbA A t) (s := s) (q := q) (i := i) (w + (d + 1))
      rw [hw] at h2 h3
      have h4 : lon (sbA A t) sl s q i (sl i) = lon (sbA A t) sl s q i w := by omega
      rw [h4]
      simp only [rX8_longestAlike_45, rX8_longestAlike_47, g2, up2_eq, va_rf, eq_self, or_true, true_or, Option.toList_some, Option.toList_none, List.cons_append, List.nil_append, if_true, if_false]
    · have g2 : ¬ nI 12 ≤ nI (lon (sbA A t) sl s q i w) := nI_ge (by omega) (by omega)
      have ha := alk_le (sl := sl) (sb := sbA A t) (s := s) (q := q) (i := i) (w := w)
      simp only [rX8_longestAlike_22, rX8_longestAlike_24, rX8_longestAlike_24_n, rX8_longestAlike_25, rX8_longestAlike_26, rX8_longestAlike_26_n, rX8_longestAlike_27, rX8_longestAlike_29, g2, up2_eq, va_rf, eq_self, or_true, true_or, Option.toList_some, Option.toList_none, List.cons_append, List.nil_append, if_true, if_false]
      rw [rX8_longestAlike_31 hS.1, k_Bytes_alike hS hI hq (by omega) (by omega)]
      have e1 : cpl (fun j => A (t + 10 + 2 * s) (q + j)) (fun j => A (t + 10 + 2 * i) (w + j)) (min 12 (min (sl s - q) (sl i - w))) = alk (sbA A t) sl s q i w := rfl
      rw [e1]
      have g3 := nI_max (a := lon (sbA A t) sl s q i w) (b := alk (sbA A t) sl s q i w) (by omega) (by omega)
      simp only [rX8_longestAlike_34, rX8_longestAlike_37, rX8_longestAlike_39, rX8_longestAlike_42, g3, nI_add, up2_eq, va_rf, eq_self, or_true, true_or, Option.toList_some, Option.toList_none, List.cons_append, List.nil_append, if_true, if_false]
      exact ih (w + 1) (by omega)
theorem k_Tlongest {s q i : Nat} (hT : isT sh R B t pk) (hsm : isSm F t ns sl) (hs : s < ns) (hi : i < ns) (hq : q ≤ sl s) :
    rc_ (k + 2) mX8_longestAlike [.ref t, .ref (t + 9 + 2 * s), .int (nI q), .ref (t + 9 + 2 * i)] (mkh n u sh F R A B) Q ↔ Q (some (.int (nI (lon (sbA A t) sl s q i (sl i))))) (mkh n u sh F R A B) := by
  rw [eX8_longestAlike]
  simp only [rX8_longestAlike_0, rX8_longestAlike_1, rX8_longestAlike_3, rX8_longestAlike_4]
  exact l_lon hT hsm hs hi hq (sl i) 0 (by omega)
end CA2
