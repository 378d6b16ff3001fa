/-! ===== the trainer looks for candidates ===== -/
/-- in how many of the first i samples n bytes from p on of sample s are -/
def sprd (sb : Nat → Nat → Int32) (sl : Nat → Nat) (s p n : Nat) : Nat → Nat
  | 0 => 0
  | i + 1 => sprd sb sl s p n i + (if n ≤ lon sb sl s p i (sl i) then 1 else 0)
abbrev cS : Type := (Nat → cd) × Nat
def fstp (sb : Nat → Nat → Int32) (sl : Nat → Nat) (ns s p : Nat) (S : cS) (n : Nat) : cS :=
  if 2 ≤ sprd sb sl s p n ns then insP sb S (s, p, n, sprd sb sl s p n ns) else S
def fndL (sb : Nat → Nat → Int32) (sl : Nat → Nat) (ns s p : Nat) (S : cS) : Nat → cS
  | 0 => S
  | d + 1 => fstp sb sl ns s p (fndL sb sl ns s p S d) (3 + d)
def begP (sb : Nat → Nat → Int32) (sl : Nat → Nat) (ns s : Nat) (S : cS) : Nat → cS
  | 0 => S
  | p + 1 => fndL sb sl ns s p (begP sb sl ns s S p) 10
def begS (sb : Nat → Nat → Int32) (sl : Nat → Nat) (ns : Nat) : Nat → cS
  | 0 => (fun _ => (0, 0, 0, 0), 0)
  | s + 1 => begP sb sl ns s (begS sb sl ns s) (sl s)
theorem sprd_le {sb : Nat → Nat → Int32} {sl : Nat → Nat} {s p n : Nat} : ∀ i, sprd sb sl s p n i ≤ i
  | 0 => Nat.le_refl _
  | i + 1 => by
    have := sprd_le (sb := sb) (sl := sl) (s := s) (p := p) (n := n) i
    unfold sprd
    split <;> omega
theorem sprd_in {sb : Nat → Nat → Int32} {sl : Nat → Nat} {s p n : Nat} : ∀ i, 0 < sprd sb sl s p n i → n ≤ 12 ∧ n ≤ sl s - p
  | 0, h => by unfold sprd at h; omega
  | i + 1, h => by
    by_cases c : n ≤ lon sb sl s p i (sl i)
    · have := lon_le (sl := sl) (sb := sb) (s := s) (q := p) (i := i) (sl i)
      omega
    · unfold sprd at h
      rw [if_neg c] at h
      exact sprd_in i h
def okCS (ns : Nat) (sl : Nat → Nat) (S : cS) : Prop := S.2 ≤ 8 ∧ ∀ i, i < S.2 → okC ns sl (S.1 i)
theorem insP_okCS {sb : Nat → Nat → Int32} {sl : Nat → Nat} {ns : Nat} {S : cS} {p : cd} (h : okCS ns sl S) (hp : okC ns sl p) : okCS ns sl (insP sb S p) := by
  have hw := iat_le (lt := fun c => decide (ordW sb c p < nI 0)) (cs := S.1) S.2 0
  unfold insP
  generalize iat (fun c => decide (ordW sb c p < nI 0)) S.1 S.2 0 = w at hw ⊢
  split
  · exact h
  · rename_i hn
    refine ⟨Nat.min_le_right _ _, fun i hi => ?_⟩
    dsimp only at hi ⊢
    unfold insC
    split
    · exact h.2 i (by omega)
    · split
      · exact hp
      · exact h.2 (i - 1) (by omega)
theorem fstp_okCS {sb : Nat → Nat → Int32} {sl : Nat → Nat} {ns s p n : Nat} {S : cS} (h : okCS ns sl S) (hs : s < ns) (hns : ns ≤ 8) (hn : 3 ≤ n) (hp : p ≤ sl s) : okCS ns sl (fstp sb sl ns s p S n) := by
  unfold fstp
  split
  · rename_i h2
    have h3 := sprd_in (sb := sb) (sl := sl) (s := s) (p := p) (n := n) ns (by omega)
    have h4 := sprd_le (sb := sb) (sl := sl) (s := s) (p := p) (n := n) ns
    exact insP_okCS h ⟨hs, by dsimp only; omega, hn, h3.1, by dsimp only; omega⟩
  · exact h
theorem fndL_okCS {sb : Nat → Nat → Int32} {sl : Nat → Nat} {ns s p : Nat} {S : cS} (h : okCS ns sl S) (hs : s < ns) (hns : ns ≤ 8) (hp : p ≤ sl s) : ∀ d, okCS ns sl (fndL sb sl ns s p S d)
  | 0 => h
  | d + 1 => fstp_okCS (fndL_okCS h hs hns hp d) hs hns (by omega) hp
theorem begP_okCS {sb : Nat → Nat → Int32} {sl : Nat → Nat} {ns s : Nat} {S : cS} (h : okCS ns sl S) (hs : s < ns) (hns : ns ≤ 8) : ∀ p, p ≤ sl s → okCS ns sl (begP sb sl ns s S p)
  | 0, _ => h
  | p + 1, hp => fndL_okCS (begP_okCS h hs hns p (by omega)) hs hns (by omega) 10
theorem begS_okCS {sb : Nat → Nat → Int32} {sl : Nat → Nat} {ns : Nat} (hns : ns ≤ 8) : ∀ s, s ≤ ns → okCS ns sl (begS sb sl ns s)
  | 0, _ => ⟨Nat.zero_le _, fun i hi => absurd hi (Nat.not_lt_zero _)⟩
  | s + 1, hs => begP_okCS (begS_okCS hns s (by omega)) (by omega) hns (sl s) (Nat.le_refl _)
theorem sbA_fr {A A' : hF_} {t : Nat} (h : ∀ a, a ≠ t + 3 → A' a = A a) : sbA A' t = sbA A t := by
  funext i
  exact h _ (by omega)
section FND
variable {k n u : Nat} {sh : hs_} {F : hF_} {R : hR_} {A : hF_} {B : hR_} {Q : Option Value → pm_H → Prop} {t pk ns : Nat} {sl : Nat → Nat} {S : cS} {s p : Nat}
theorem l_fA (hT : isT sh R B t pk) (hsm : isSm F t ns sl) (hs : s < ns) (hp : p ≤ sl s) {a4 a5 : Value}
    (hQ : ∀ A', (∀ a, a ≠ t + 3 → A' a = A a) → (∀ j, j < ns → A' (t + 3) j = nI (lon (sbA A t) sl s p j (sl j))) → rw_ (k + 3) mX8_findAt 34 [.ref t, .ref (t + 9 + 2 * s), .int (nI p), .int (nI ns), a4, a5] [] (mkh n u sh F R A' B) Q) :
    ∀ d i A1, i + d = ns → (∀ a, a ≠ t + 3 → A1 a = A a) → (∀ j, j < i → A1 (t + 3) j = nI (lon (sbA A t) sl s p j (sl j))) →
    rw_ (k + 3) mX8_findAt 2 [.ref t, .ref (t + 9 + 2 * s), .int (nI p), .int (nI i), a4, a5] [] (mkh n u sh F R A1 B) Q := by
  have hns := hsm.2.1
  intro d
  induction d with
  | zero =>
    intro i A1 hi h1 h2
    have e : i = ns := by omega
    subst e
    have g1 : nI i ≤ nI i := nI_le (Nat.le_refl _) (by omega)
    simp only [rX8_findAt_2, rX8_findAt_3, rX8_findAt_4, rX8_findAt_7, hT.1.1, hsm.1, g1, up2_eq, va_rf, eq_self, or_true, true_or, Option.toList_some, Option.toList_none, List.cons_append, List.nil_append, if_true, if_false]
    exact hQ A1 h1 h2
  | succ d ih =>
    intro i A1 hi h1 h2
    have g1 : ¬ nI ns ≤ nI i := nI_ge (by omega) (by omega)
    obtain ⟨b1, b2, b3, b4⟩ := hT.2.2.2.2.2.2.2.1 i (by omega)
    simp only [rX8_findAt_2, rX8_findAt_3, rX8_findAt_4, rX8_findAt_7, rX8_findAt_10, rX8_findAt_11, rX8_findAt_14, rX8_findAt_15, rX8_findAt_16, rX8_findAt_16_n, rX8_findAt_17, rX8_findAt_18, rX8_findAt_19, rX8_findAt_22, hT.1.1, hT.2.1.1, hT.2.2.2.2.1.1, hsm.1, g1, up2_eq, va_rf, eq_self, or_true, true_or, Option.toList_some, Option.toList_none, List.cons_append, List.nil_append, if_true, if_false]
    rw [rX8_findAt_23 hT.2.1.2 (by omega) (by omega), b1]
    simp only [up2_eq, va_rf, eq_self, or_true, true_or, Option.toList_some, Option.toList_none, List.cons_append, List.nil_append, if_true, if_false]
    rw [rX8_findAt_24 hT.1.1, k_Tlongest hT hsm hs (by omega) hp, sbA_fr h1]
    simp only [up2_eq, va_rf, eq_self, or_true, true_or, Option.toList_some, Option.toList_none, List.cons_append, List.nil_append, if_true, if_false]
    rw [rX8_findAt_27 hT.2.2.2.2.1.2 (by omega) (by omega)]
    simp only [rX8_findAt_28, rX8_findAt_31, nI_add]
    refine ih (i + 1) _ (by omega) (fun a ha => ?_) (fun j hj => ?_)
    · rw [up2_row ha]; exact h1 a ha
    · by_cases c : j = i
      · subst c; rw [up2_eq]
      · rw [up2_a c]; exact h2 j (by omega)
theorem l_fC (hT : isT sh R B t pk) (hsm : isSm F t ns sl) {sb : Nat → Nat → Int32} (hA : ∀ j, j < ns → A (t + 3) j = nI (lon sb sl s p j (sl j))) {m : Nat} (hm : m < 2 ^ 30) {a1 a2 : Value} :
    ∀ d i, i + d = ns → (rw_ k mX8_findAt 48 [.ref t, a1, a2, .int (nI m), .int (nI (sprd sb sl s p m i)), .int (nI i)] [] (mkh n u sh F R A B) Q ↔ rw_ k mX8_findAt 77 [.ref t, a1, a2, .int (nI m), .int (nI (sprd sb sl s p m ns)), .int (nI ns)] [] (mkh n u sh F R A B) Q) := by
  have hns := hsm.2.1
  intro d
  induction d with
  | zero =>
    intro i hi
    have e : i = ns := by omega
    subst e
    have g1 : nI i ≤ nI i := nI_le (Nat.le_refl _) (by omega)
    simp only [rX8_findAt_48, rX8_findAt_50, rX8_findAt_51, rX8_findAt_54, hT.1.1, hsm.1, g1, up2_eq, va_rf, eq_self, or_true, true_or, Option.toList_some, Option.toList_none, List.cons_append, List.nil_append, if_true, if_false]
  | succ d ih =>
    intro i hi
    have g1 : ¬ nI ns ≤ nI i := nI_ge (by omega) (by omega)
    have hl := lon_le (sl := sl) (sb := sb) (s := s) (q := p) (i := i) (sl i)
    simp only [rX8_findAt_48, rX8_findAt_50, rX8_findAt_51, rX8_findAt_54, rX8_findAt_57, rX8_findAt_58, rX8_findAt_61, hT.1.1, hT.2.2.2.2.1.1, hsm.1, g1, up2_eq, va_rf, eq_self, or_true, true_or, Option.toList_some, Option.toList_none, List.cons_append, List.nil_append, if_true, if_false]
    rw [rX8_findAt_63 hT.2.2.2.2.1.2 (by decide) (by omega) (by omega), hA i (by omega)]
    by_cases c : m ≤ lon sb sl s p i (sl i)
    · have g2 : ¬ nI (lon sb sl s p i (sl i)) < nI m := nI_nlt c (by omega)
      have e1 : sprd sb sl s p m i + 1 = sprd sb sl s p m (i + 1) := by
        show _ = sprd sb sl s p m i + (if m ≤ lon sb sl s p i (sl i) then 1 else 0)
        rw [if_pos c]
      simp only [rX8_findAt_64, rX8_findAt_65, rX8_findAt_68, rX8_findAt_71, rX8_findAt_74, g2, nI_add, up2_eq, va_rf, eq_self, or_true, true_or, Option.toList_some, Option.toList_none, List.cons_append, List.nil_append, if_true, if_false]
      rw [e1]
      exact ih (i + 1) (by omega)
    · have g2 : nI (lon sb sl s p i (sl i)) < nI m := nI_lt (by omega) (by omega)
      have e1 : sprd sb sl s p m i = sprd sb sl s p m (i + 1) := by
        show _ = sprd sb sl s p m i + (if m ≤ lon sb sl s p i (sl i) then 1 else 0)
        rw [if_neg c]
        rfl
      simp only [rX8_findAt_64, rX8_findAt_65, rX8_findAt_71, rX8_findAt_74, g2, nI_add, up2_eq, va_rf, eq_self, or_true, true_or, Option.toList_some, Option.toList_none, List.cons_append, List.nil_append, if_true, if_false]
      rw [e1]
      exact ih (i + 1) (by omega)
theorem l_fB (hT : isT sh R B t pk) (hsm : isSm F t ns sl) (hs : s < ns) (hp : p ≤ sl s) (hS : okCS ns sl S) (hA : ∀ j, j < ns → A (t + 3) j = nI (lon (sbA A t) sl s p j (sl j)))
    (hQ : ∀ F' R', frC t F R A F' R' A → isCs F' R' t (fndL (sbA A t) sl ns s p S 10).2 (fndL (sbA A t) sl ns s p S 10).1 → Q none (mkh n u sh F' R' A B)) :
    ∀ d m F1 R1 a4 a5, m + d = 10 → frC t F R A F1 R1 A → isCs F1 R1 t (fndL (sbA A t) sl ns s p S m).2 (fndL (sbA A t) sl ns s p S m).1 →
    rw_ (k + 5) mX8_findAt 36 [.ref t, .ref (t + 9 + 2 * s), .int (nI p), .int (nI (3 + m)), a4, a5] [] (mkh n u sh F1 R1 A B) Q := by
  have hns := hsm.2.1
  intro d
  induction d with
  | zero =>
    intro m F1 R1 a4 a5 hm hfr hcs
    have e : m = 10 := by omega
    subst e
    have g1 : nI 12 < nI (3 + 10) := nI_lt (by omega) (by omega)
    simp only [rX8_findAt_36, rX8_findAt_37, rX8_findAt_39, rX8_findAt_105, g1, up2_eq, va_rf, eq_self, or_true, true_or, Option.toList_some, Option.toList_none, List.cons_append, List.nil_append, if_true, if_false]
    exact hQ _ _ hfr hcs
  | succ d ih =>
    intro m F1 R1 a4 a5 hm hfr hcs
    have hT1 : isT sh R1 B t pk := isT_cong hT (fun q a hq => hfr.2.1 q a (by omega))
    have hsm1 : isSm F1 t ns sl := isSm_cong hsm (hfr.1 _ _ (by decide) (by decide) (by decide) (by decide)) (fun i _ => hfr.1 _ _ (by decide) (by decide) (by decide) (by decide))
    have g1 : ¬ nI 12 < nI (3 + m) := nI_nlt (by omega) (by omega)
    have hsp := sprd_le (sb := sbA A t) (sl := sl) (s := s) (p := p) (n := 3 + m) ns
    have hok := fndL_okCS (sb := sbA A t) hS hs hns hp m
    simp only [rX8_findAt_36, rX8_findAt_37, rX8_findAt_39, rX8_findAt_42, rX8_findAt_43, rX8_findAt_45, rX8_findAt_46, g1, up2_eq, va_rf, eq_self, or_true, true_or, Option.toList_some, Option.toList_none, List.cons_append, List.nil_append, if_true, if_false]
    refine (l_fC (k := k + 5) (s := s) (p := p) hT1 hsm1 (sb := sbA A t) (m := 3 + m) hA (by omega) ns 0 (by omega)).mpr ?_
    have e2 : fndL (sbA A t) sl ns s p S (m + 1) = fstp (sbA A t) sl ns s p (fndL (sbA A t) sl ns s p S m) (3 + m) := rfl
    by_cases c : 2 ≤ sprd (sbA A t) sl s p (3 + m) ns
    · have g2 : ¬ nI (sprd (sbA A t) sl s p (3 + m) ns) < nI 2 := nI_nlt c (by omega)
      have h3 := sprd_in (sb := sbA A t) (sl := sl) (s := s) (p := p) (n := 3 + m) ns (by omega)
      simp only [rX8_findAt_77, rX8_findAt_79, rX8_findAt_80, rX8_findAt_83, rX8_findAt_84, rX8_findAt_87, rX8_findAt_87_n, rX8_findAt_88, rX8_findAt_89, rX8_findAt_90, hT.1.1, hT1.2.2.2.1.1, g2, up2_eq, va_rf, eq_self, or_true, true_or, Option.toList_some, Option.toList_none, List.cons_append, List.nil_append, if_true, if_false]
      rw [rX8_findAt_92 hT.2.2.2.1.2, k_Cset hT.2.2.2.1.2]
      simp only [rX8_findAt_95, up2_eq, va_rf, eq_self, or_true, true_or, Option.toList_some, Option.toList_none, List.cons_append, List.nil_append, if_true, if_false]
      rw [rX8_findAt_96 hT.1.1]
      have e3 : fstp (sbA A t) sl ns s p (fndL (sbA A t) sl ns s p S m) (3 + m) = insP (sbA A t) (fndL (sbA A t) sl ns s p S m) (s, p, 3 + m, sprd (sbA A t) sl s p (3 + m) ns) := if_pos c
      have hfr2 : frC t F R A (up2 (up2 (up2 F1 201 (t + 25) (nI p)) 202 (t + 25) (nI (3 + m))) 203 (t + 25) (nI (sprd (sbA A t) sl s p (3 + m) ns))) (up2 R1 200 (t + 25) (some (t + 9 + 2 * s))) A := by
        refine ⟨fun q a h1 h2 h3 h4 => ?_, fun q a h1 => ?_, fun a _ => rfl⟩
        · rw [up2_k h3, up2_k h2, up2_k h1]; exact hfr.1 q a h1 h2 h3 h4
        · rw [up2_k h1]; exact hfr.2.1 q a h1
      refine k_insP (p := (s, p, 3 + m, sprd (sbA A t) sl s p (3 + m) ns)) (ns := ns) (sl := sl) (pk := pk) (f := (fndL (sbA A t) sl ns s p S m).2) (cs := (fndL (sbA A t) sl ns s p S m).1) (isT_cong hT (fun q a hq => hfr2.2.1 q a (by omega))) (isSm_cong hsm (hfr2.1 _ _ (by decide) (by decide) (by decide) (by decide)) (fun i _ => hfr2.1 _ _ (by decide) (by decide) (by decide) (by decide))) ⟨?_, hcs.2.1, fun i hi => isC_upo (by omega) (hcs.2.2 i hi)⟩ hok.2 (isC_ups (c := (s, p, 3 + m, sprd (sbA A t) sl s p (3 + m) ns))) ⟨hs, by dsimp only; omega, by dsimp only; omega, h3.1, by dsimp only; omega⟩ ?_
      · rw [up2_k (by decide), up2_k (by decide), up2_k (by decide)]; exact hcs.1
      · intro F2 R2 hfr3 hcs2
        simp only [rX8_findAt_99, rX8_findAt_102, nI_add, up2_eq, va_rf, eq_self, or_true, true_or, Option.toList_some, Option.toList_none, List.cons_append, List.nil_append, if_true, if_false]
        refine ih (m + 1) F2 R2 _ _ (by omega) (frC_trans hfr2 hfr3) ?_
        rw [e2, e3]
        exact hcs2
    · have g2 : nI (sprd (sbA A t) sl s p (3 + m) ns) < nI 2 := nI_lt (by omega) (by omega)
      simp only [rX8_findAt_77, rX8_findAt_79, rX8_findAt_80, rX8_findAt_99, rX8_findAt_102, g2, nI_add, up2_eq, va_rf, eq_self, or_true, true_or, Option.toList_some, Option.toList_none, List.cons_append, List.nil_append, if_true, if_false]
      refine ih (m + 1) F1 R1 _ _ (by omega) hfr ?_
      rw [e2, show fstp (sbA A t) sl ns s p (fndL (sbA A t) sl ns s p S m) (3 + m) = fndL (sbA A t) sl ns s p S m from if_neg c]
      exact hcs
theorem k_findAt (hT : isT sh R B t pk) (hsm : isSm F t ns sl) (hs : s < ns) (hp : p ≤ sl s) (hS : okCS ns sl S) (hcs : isCs F R t S.2 S.1)
    (hQ : ∀ F' R' A', frC t F R A F' R' A' → isCs F' R' t (fndL (sbA A t) sl ns s p S 10).2 (fndL (sbA A t) sl ns s p S 10).1 → Q none (mkh n u sh F' R' A' B)) :
    rc_ (k + 5) mX8_findAt [.ref t, .ref (t + 9 + 2 * s), .int (nI p)] (mkh n u sh F R A B) Q := by
  rw [eX8_findAt]
  simp only [rX8_findAt_0, rX8_findAt_1]
  refine l_fA (k := k + 2) hT hsm hs hp ?_ ns 0 A (by omega) (fun _ _ => rfl) (fun j hj => absurd hj (Nat.not_lt_zero _))
  intro A1 h1 h2
  simp only [rX8_findAt_34, rX8_findAt_35]
  have e := sbA_fr h1
  rw [← e] at h2
  refine l_fB (S := S) hT hsm hs hp hS h2 ?_ 10 0 F R _ _ (by omega) frC_refl hcs
  intro F' R' hfr hcs'
  rw [e] at hcs'
  exact hQ F' R' A1 ⟨hfr.1, hfr.2.1, h1⟩ hcs'
theorem l_bP (hT : isT sh R B t pk) (hsm : isSm F t ns sl) (hs : s < ns) (hS : okCS ns sl S)
    (hQ : ∀ F' R' A', frC t F R A F' R' A' → isCs F' R' t (begP (sbA A t) sl ns s S (sl s)).2 (begP (sbA A t) sl ns s S (sl s)).1 → rw_ (k + 6) mX8_begin 54 [.ref t, .int (nI s), .int (nI (sl s))] [] (mkh n u sh F' R' A' B) Q) :
    ∀ d p F1 R1 A1, p + d = sl s → frC t F R A F1 R1 A1 → isCs F1 R1 t (begP (sbA A t) sl ns s S p).2 (begP (sbA A t) sl ns s S p).1 →
    rw_ (k + 6) mX8_begin 24 [.ref t, .int (nI s), .int (nI p)] [] (mkh n u sh F1 R1 A1 B) Q := by
  have hns := hsm.2.1
  have hsl := (hsm.2.2 s hs).2
  intro d
  induction d with
  | zero =>
    intro p F1 R1 A1 hp hfr hcs
    have e : p = sl s := by omega
    subst e
    have hT1 : isT sh R1 B t pk := isT_cong hT (fun q a hq => hfr.2.1 q a (by omega))
    have hsm1 : isSm F1 t ns sl := isSm_cong hsm (hfr.1 _ _ (by decide) (by decide) (by decide) (by decide)) (fun i _ => hfr.1 _ _ (by decide) (by decide) (by decide) (by decide))
    obtain ⟨b1, b2, b3, b4⟩ := hT.2.2.2.2.2.2.2.1 s (by omega)
    have g1 : nI (sl s) ≤ nI (sl s) := nI_le (Nat.le_refl _) (by omega)
    simp only [rX8_begin_24, rX8_begin_25, rX8_begin_26, rX8_begin_29, hT.1.1, hT1.2.1.1, up2_eq, va_rf, eq_self, or_true, true_or, Option.toList_some, Option.toList_none, List.cons_append, List.nil_append, if_true, if_false]
    rw [rX8_begin_30 hT.2.1.2 (by omega) (by omega), b1]
    simp only [rX8_begin_31, rX8_begin_34, b2, (hsm1.2.2 s hs).1, g1, up2_eq, va_rf, eq_self, or_true, true_or, Option.toList_some, Option.toList_none, List.cons_append, List.nil_append, if_true, if_false]
    exact hQ _ _ _ hfr hcs
  | succ d ih =>
    intro p F1 R1 A1 hp hfr hcs
    have hT1 : isT sh R1 B t pk := isT_cong hT (fun q a hq => hfr.2.1 q a (by omega))
    have hsm1 : isSm F1 t ns sl := isSm_cong hsm (hfr.1 _ _ (by decide) (by decide) (by decide) (by decide)) (fun i _ => hfr.1 _ _ (by decide) (by decide) (by decide) (by decide))
    obtain ⟨b1, b2, b3, b4⟩ := hT.2.2.2.2.2.2.2.1 s (by omega)
    have g1 : ¬ nI (sl s) ≤ nI p := nI_ge (by omega) (by omega)
    have hok := begP_okCS (sb := sbA A t) hS hs hns p (by omega)
    simp only [rX8_begin_24, rX8_begin_25, rX8_begin_26, rX8_begin_29, hT.1.1, hT1.2.1.1, up2_eq, va_rf, eq_self, or_true, true_or, Option.toList_some, Option.toList_none, List.cons_append, List.nil_append, if_true, if_false]
    rw [rX8_begin_30 hT.2.1.2 (by omega) (by omega), b1]
    simp only [rX8_begin_31, rX8_begin_34, rX8_begin_37, rX8_begin_38, rX8_begin_39, rX8_begin_42, b2, (hsm1.2.2 s hs).1, hT.1.1, hT1.2.1.1, g1, up2_eq, va_rf, eq_self, or_true, true_or, Option.toList_some, Option.toList_none, List.cons_append, List.nil_append, if_true, if_false]
    rw [rX8_begin_43 hT.2.1.2 (by omega) (by omega), b1]
    simp only [rX8_begin_44, up2_eq, va_rf, eq_self, or_true, true_or, Option.toList_some, Option.toList_none, List.cons_append, List.nil_append, if_true, if_false]
    rw [rX8_begin_45 hT.1.1]
    refine k_findAt (S := begP (sbA A t) sl ns s S p) hT1 hsm1 hs (by omega) hok hcs ?_
    intro F2 R2 A2 hfr2 hcs2
    simp only [rX8_begin_48, rX8_begin_51, nI_add, up2_eq, va_rf, eq_self, or_true, true_or, Option.toList_some, Option.toList_none, List.cons_append, List.nil_append, if_true, if_false]
    refine ih (p + 1) F2 R2 A2 (by omega) (frC_trans hfr hfr2) ?_
    rw [sbA_fr hfr.2.2] at hcs2
    exact hcs2
theorem l_bS (hT : isT sh R B t pk) (hsm : isSm F t ns sl)
    (hQ : ∀ F' R' A', frC t F R A F' R' A' → isCs F' R' t (begS (sbA A t) sl ns ns).2 (begS (sbA A t) sl ns ns).1 → Q none (mkh n u sh F' R' A' B)) :
    ∀ d s F1 R1 A1 a2, s + d = ns → frC t F R A F1 R1 A1 → isCs F1 R1 t (begS (sbA A t) sl ns s).2 (begS (sbA A t) sl ns s).1 →
    rw_ (k + 6) mX8_begin 14 [.ref t, .int (nI s), a2] [] (mkh n u sh F1 R1 A1 B) Q := by
  have hns := hsm.2.1
  intro d
  induction d with
  | zero =>
    intro s F1 R1 A1 a2 hs hfr hcs
    have e : s = ns := by omega
    subst e
    have hsm1 : isSm F1 t s sl := isSm_cong hsm (hfr.1 _ _ (by decide) (by decide) (by decide) (by decide)) (fun i _ => hfr.1 _ _ (by decide) (by decide) (by decide) (by decide))
    have g1 : nI s ≤ nI s := nI_le (Nat.le_refl _) (by omega)
    simp only [rX8_begin_14, rX8_begin_15, rX8_begin_16, rX8_begin_19, rX8_begin_60, hT.1.1, hsm1.1, g1, up2_eq, va_rf, eq_self, or_true, true_or, Option.toList_some, Option.toList_none, List.cons_append, List.nil_append, if_true, if_false]
    exact hQ _ _ _ hfr hcs
  | succ d ih =>
    intro s F1 R1 A1 a2 hs hfr hcs
    have hT1 : isT sh R1 B t pk := isT_cong hT (fun q a hq => hfr.2.1 q a (by omega))
    have hsm1 : isSm F1 t ns sl := isSm_cong hsm (hfr.1 _ _ (by decide) (by decide) (by decide) (by decide)) (fun i _ => hfr.1 _ _ (by decide) (by decide) (by decide) (by decide))
    have g1 : ¬ nI ns ≤ nI s := nI_ge (by omega) (by omega)
    have e := sbA_fr hfr.2.2
    simp only [rX8_begin_14, rX8_begin_15, rX8_begin_16, rX8_begin_19, rX8_begin_22, rX8_begin_23, hT.1.1, hsm1.1, g1, up2_eq, va_rf, eq_self, or_true, true_or, Option.toList_some, Option.toList_none, List.cons_append, List.nil_append, if_true, if_false]
    refine l_bP (S := begS (sbA A t) sl ns s) hT1 hsm1 (by omega) (begS_okCS hns s (by omega)) ?_ (sl s) 0 F1 R1 A1 (by omega) frC_refl hcs
    intro F2 R2 A2 hfr2 hcs2
    simp only [rX8_begin_54, rX8_begin_57, nI_add, up2_eq, va_rf, eq_self, or_true, true_or, Option.toList_some, Option.toList_none, List.cons_append, List.nil_append, if_true, if_false]
    rw [e] at hcs2
    exact ih (s + 1) F2 R2 A2 _ (by omega) (frC_trans hfr hfr2) hcs2
theorem k_Tbegin {r v z s e ze c : Nat} {E : Nat → Nat} (hT : isT sh R B t pk) (hsm : isSm F t ns sl) (hp : isP sh F R A (t + 4) r v z s e ze c E) (hr : ∀ i, i < 8 → r ≠ t + 9 + 2 * i)
    (hQ : ∀ F' R' A', frC t (up2 (up2 F 101 r (nI 0)) 502 (t + 4) (nI 0)) R A F' R' A' → isCs F' R' t (begS (sbA A t) sl ns ns).2 (begS (sbA A t) sl ns ns).1 → Q none (mkh n u sh F' R' A' B)) :
    rc_ (k + 6) mX8_begin [.ref t] (mkh n u sh F R A B) Q := by
  rw [eX8_begin]
  simp only [rX8_begin_0, rX8_begin_1, hT.1.1, hT.2.2.2.2.2.1, up2_eq, va_rf, eq_self, or_true, true_or, Option.toList_some, Option.toList_none, List.cons_append, List.nil_append, if_true, if_false]
  rw [rX8_begin_4 hp.1, k_Pieces_clear hp]
  simp only [rX8_begin_7, rX8_begin_8, rX8_begin_9, rX8_begin_12, rX8_begin_13, hT.1.1, up2_eq, va_rf, eq_self, or_true, true_or, Option.toList_some, Option.toList_none, List.cons_append, List.nil_append, if_true, if_false]
  refine l_bS (F := up2 (up2 F 101 r (nI 0)) 502 (t + 4) (nI 0)) hT (isSm_cong hsm ?_ (fun i hi => ?_)) hQ ns 0 _ R A _ (by omega) ⟨fun q a h1 h2 h3 h4 => ?_, fun _ _ _ => rfl, fun _ _ => rfl⟩ ⟨?_, Nat.zero_le _, fun i hi => absurd hi (Nat.not_lt_zero _)⟩
  · rw [up2_k (by decide), up2_k (by decide)]
  · rw [up2_k (by decide), up2_a (Ne.symm (hr i hi))]
  · rw [up2_k h4]
  · rw [up2_eq]; rfl
end FND
