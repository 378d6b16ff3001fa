/-! ===== the packer: wholes, runs ===== -/
theorem isP.A {sh : hs_} {F : hF_} {R : hR_} {A A' : hF_} {o r v z s e ze c : Nat} {E : Nat → Nat} (h : isP sh F R A o r v z s e ze c E) (he : A' e = A e) : isP sh F R A' o r v z s e ze c E := by
  obtain ⟨h1, h2, h3, h4, h5, h6, h7, h8, h9⟩ := h
  exact ⟨h1, h2, h3, h4, h5, h6, h7, fun j hj => by rw [he]; exact h8 j hj, h9⟩
theorem okE.mono {E : Nat → Nat} {c s : Nat} (h : okE E c s) : ∀ d a, a + d ≤ c → pst E a ≤ pst E (a + d)
  | 0, a, _ => Nat.le_refl _
  | d + 1, a, hc => by
    have h1 := okE.mono h d a (by omega)
    have h2 := h.1 (a + d) (by omega)
    exact Nat.le_trans h1 h2
theorem ear_at {E : Nat → Nat} {c s p q : Nat} (h : okE E c s) (hq : q < c) (h1 : pst E q ≤ p) (h2 : p < E q) : ∀ d i, i + d = c → i ≤ q → ear E p d i = E q
  | 0, i, e, hi => by omega
  | d + 1, i, e, hi => by
    unfold ear
    by_cases e1 : i = q
    · subst e1
      rw [if_pos h2]
    · have h3 := h.mono (q - (i + 1)) (i + 1) (by omega)
      rw [show i + 1 + (q - (i + 1)) = q by omega] at h3
      have h4 : E i ≤ pst E q := h3
      rw [if_neg (by omega)]
      exact ear_at h hq h1 h2 d (i + 1) (by omega) (by omega)
/-- a row's first P places anew -/
def pfx (A : hF_) (a : Nat) (g : Nat → Int32) (P : Nat) : hF_ := fun q j => if q = a ∧ j < P then g j else A q j
theorem pfx_0 {A : hF_} {a : Nat} {g : Nat → Int32} : pfx A a g 0 = A := by
  funext q j
  unfold pfx
  rw [if_neg (by omega)]
theorem pfx_s {A : hF_} {a P : Nat} {g : Nat → Int32} : up2 (pfx A a g P) a P (g P) = pfx A a g (P + 1) := by
  funext q j
  unfold pfx up2
  dsimp only
  by_cases hq : q = a
  · subst hq
    by_cases hj : j = P
    · subst hj
      rw [if_pos rfl, if_pos rfl, if_pos ⟨rfl, by omega⟩]
    · rw [if_pos rfl, if_neg hj]
      by_cases hl : j < P
      · rw [if_pos ⟨rfl, hl⟩, if_pos ⟨rfl, by omega⟩]
      · rw [if_neg (by omega), if_neg (by omega)]
  · rw [if_neg hq, if_neg (fun h => hq h.1), if_neg (fun h => hq h.1)]
theorem pfx_out {A : hF_} {a P q : Nat} {g : Nat → Int32} (h : q ≠ a) : pfx A a g P q = A q := by
  funext j
  unfold pfx
  rw [if_neg (fun x => h x.1)]
theorem pfx_old {A : hF_} {a P j : Nat} {g : Nat → Int32} (h : P ≤ j) : pfx A a g P a j = A a j := by
  unfold pfx
  rw [if_neg (by omega)]
theorem pfx_new {A : hF_} {a P j : Nat} {g : Nat → Int32} (h : j < P) : pfx A a g P a j = g j := by
  unfold pfx
  rw [if_pos ⟨rfl, h⟩]
/-- offers of WHOLE: c pieces -/
def whoA (A : hF_) (pk i : Nat) (E rr : Nat → Nat) : Nat → hF_
  | 0 => A
  | q + 1 => if 0 < E q - pst E q ∧ rr (pst E q) = E q - pst E q then offA (whoA A pk i E rr q) pk i (nI 3) (nI q) (E q - pst E q) (nI 2 + A (pk + 8) (q + 1)) else whoA A pk i E rr q
theorem whoA_out {A : hF_} {pk i a : Nat} {E rr : Nat → Nat} (h : a < pk + 1 ∨ pk + 5 < a) : ∀ c, whoA A pk i E rr c a = A a
  | 0 => rfl
  | c + 1 => by
    unfold whoA
    split
    · rw [offA_out h, whoA_out h c]
    · rw [whoA_out h c]
section RUN
variable {k n u : Nat} {sh : hs_} {F : hF_} {R : hR_} {A : hF_} {B : hR_} {pk : Nat} {Q : Option Value → pm_H → Prop} {o r v z s e ze c : Nat} {E : Nat → Nat}
theorem l_tryWhole {i : Nat} {rr : Nat → Nat} (hk : isK sh R pk) (hR : R 409 pk = some o) (hp : isP sh F R A o r v z s e ze c E) (hE : okE E c s) (he : e < pk + 1 ∨ pk + 5 < e) (hc : c ≤ 20) (hs : s ≤ 320) (hi : i ≤ 120) (hrr : ∀ p, p ≤ s → A (pk + 6) p = nI (rr p) ∧ rr p < 2 ^ 30 ∧ (0 < rr p → i + rr p ≤ 120)) :
    ∀ d q, q + d = c → ∀ y3 : Value, (rw_ (k + 1) mX4_tryWhole 2 [.ref pk, .int (nI i), .int (nI q), y3] [] (mkh n u sh F R (whoA A pk i E rr q) B) Q ↔ Q none (mkh n u sh F R (whoA A pk i E rr c) B)) := by
  obtain ⟨h0, ⟨r0, r1, r2, r3, r4, r5, r6, r7⟩, s0, s1, s2, s3, s4, s5, s6, s7⟩ := id hk
  have ho := hp.1
  have hn := hp.2.2.2.2.2.1
  intro d
  induction d with
  | zero =>
    intro q hq y3
    have e1 : q = c := by omega
    subst e1
    have g1 : nI q ≤ nI q := nI_le (Nat.le_refl _) (by omega)
    simp only [rX4_tryWhole_2, rX4_tryWhole_3, rX4_tryWhole_4, rX4_tryWhole_7, rX4_tryWhole_10, rX4_tryWhole_67, h0, hR, ho, hn, g1, up2_eq, va_rf, eq_self, or_true, true_or, Option.toList_some, Option.toList_none, List.cons_append, List.nil_append, if_true, if_false]
  | succ d ih =>
    intro q hq y3
    have g1 : ¬ nI c ≤ nI q := nI_ge (by omega) (by omega)
    have hpq : isP sh F R (whoA A pk i E rr q) o r v z s e ze c E := hp.A (whoA_out he q)
    have hEq := hE.E_le (j := q) (by omega)
    have hst := hE.pst_le (j := q) (by omega)
    obtain ⟨q1, q2, q3⟩ := hrr (pst E q) hst
    simp only [rX4_tryWhole_2, rX4_tryWhole_3, rX4_tryWhole_4, rX4_tryWhole_7, rX4_tryWhole_10, rX4_tryWhole_13, rX4_tryWhole_14, rX4_tryWhole_17, h0, hR, ho, hn, g1, up2_eq, va_rf, eq_self, or_true, true_or, Option.toList_some, Option.toList_none, List.cons_append, List.nil_append, if_true, if_false]
    rw [rX4_tryWhole_18 ho, k_Pieces_length hpq hE (by omega)]
    have tail : ∀ y3 : Value, (rw_ (k + 1) mX4_tryWhole 61 [.ref pk, .int (nI i), .int (nI q), y3] [] (mkh n u sh F R (whoA A pk i E rr (q + 1)) B) Q ↔ Q none (mkh n u sh F R (whoA A pk i E rr c) B)) := by
      intro y3
      simp only [rX4_tryWhole_61, rX4_tryWhole_64, nI_add]
      exact ih (q + 1) (by omega) y3
    by_cases c1 : 0 < E q - pst E q
    · have g2 : ¬ nI (E q - pst E q) ≤ nI 0 := nI_ge c1 (by omega)
      simp only [rX4_tryWhole_21, rX4_tryWhole_22, rX4_tryWhole_23, rX4_tryWhole_26, rX4_tryWhole_27, rX4_tryWhole_30, rX4_tryWhole_31, rX4_tryWhole_34, h0, hR, r5, g2, up2_eq, va_rf, eq_self, or_true, true_or, Option.toList_some, Option.toList_none, List.cons_append, List.nil_append, if_true, if_false]
      rw [rX4_tryWhole_35 ho, k_Pieces_start hpq (by omega)]
      simp only [up2_eq, va_rf, eq_self, or_true, true_or, Option.toList_some, Option.toList_none, List.cons_append, List.nil_append, if_true, if_false]
      rw [rX4_tryWhole_38 s5 (by decide) (by omega) (by omega), whoA_out (by omega), q1]
      by_cases c2 : rr (pst E q) = E q - pst E q
      · have hw : whoA A pk i E rr (q + 1) = offA (whoA A pk i E rr q) pk i (nI 3) (nI q) (E q - pst E q) (nI 2 + A (pk + 8) (q + 1)) := by
          rw [whoA, if_pos ⟨c1, c2⟩]
        rw [hw] at tail
        have g3 : nI (rr (pst E q)) = nI (E q - pst E q) := by rw [c2]
        simp only [rX4_tryWhole_39, rX4_tryWhole_40, rX4_tryWhole_43, rX4_tryWhole_44, rX4_tryWhole_45, rX4_tryWhole_46, rX4_tryWhole_47, rX4_tryWhole_48, rX4_tryWhole_49, rX4_tryWhole_50, rX4_tryWhole_53, rX4_tryWhole_54, rX4_tryWhole_55, h0, r7, g3, nI_add, up2_eq, va_rf, eq_self, or_true, true_or, Option.toList_some, Option.toList_none, List.cons_append, List.nil_append, if_true, if_false]
        rw [rX4_tryWhole_56 s7 (by decide) (by omega) (by omega), whoA_out (by omega)]
        simp only [rX4_tryWhole_57]
        rw [rX4_tryWhole_58 h0, k_tryPart hk (by omega) c1]
        simp only [up2_eq, va_rf, eq_self, or_true, true_or, Option.toList_some, Option.toList_none, List.cons_append, List.nil_append, if_true, if_false]
        exact tail _
      · have hw : whoA A pk i E rr (q + 1) = whoA A pk i E rr q := by
          rw [whoA, if_neg (fun x => c2 x.2)]
        rw [hw] at tail
        have g3 : ¬ nI (rr (pst E q)) = nI (E q - pst E q) := fun x => c2 ((nI_eq (by omega) (by omega)).mp x)
        simp only [rX4_tryWhole_39, rX4_tryWhole_40, g3, up2_eq, va_rf, eq_self, or_true, true_or, Option.toList_some, Option.toList_none, List.cons_append, List.nil_append, if_true, if_false]
        exact tail _
    · have hw : whoA A pk i E rr (q + 1) = whoA A pk i E rr q := by
        rw [whoA, if_neg (fun x => c1 x.1)]
      rw [hw] at tail
      have g2 : nI (E q - pst E q) ≤ nI 0 := nI_le (by omega) (by omega)
      simp only [rX4_tryWhole_21, rX4_tryWhole_22, rX4_tryWhole_23, g2, up2_eq, va_rf, eq_self, or_true, true_or, Option.toList_some, Option.toList_none, List.cons_append, List.nil_append, if_true, if_false]
      exact tail _
theorem k_tryWhole {i : Nat} {rr : Nat → Nat} (hk : isK sh R pk) (hR : R 409 pk = some o) (hp : isP sh F R A o r v z s e ze c E) (hE : okE E c s) (he : e < pk + 1 ∨ pk + 5 < e) (hc : c ≤ 20) (hs : s ≤ 320) (hi : i ≤ 120) (hrr : ∀ p, p ≤ s → A (pk + 6) p = nI (rr p) ∧ rr p < 2 ^ 30 ∧ (0 < rr p → i + rr p ≤ 120)) :
    rc_ (k + 1) mX4_tryWhole [.ref pk, .int (nI i)] (mkh n u sh F R A B) Q ↔ Q none (mkh n u sh F R (whoA A pk i E rr c) B) := by
  rw [eX4_tryWhole]
  simp only [rX4_tryWhole_0, rX4_tryWhole_1]
  exact l_tryWhole hk hR hp hE he hc hs hi hrr c 0 (by omega) _
end RUN
