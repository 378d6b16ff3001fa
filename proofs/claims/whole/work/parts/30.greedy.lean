/-! ===== the packer: greedy ===== -/
def lwN (E rr : Nat → Nat) : Nat → Int32 × Nat
  | 0 => (-1, 0)
  | q + 1 => if (lwN E rr q).2 < E q - pst E q ∧ rr (pst E q) = E q - pst E q then (nI q, E q - pst E q) else lwN E rr q
theorem lwN_or {E rr : Nat → Nat} : ∀ c, lwN E rr c = (-1, 0) ∨ ∃ q, q < c ∧ lwN E rr c = (nI q, E q - pst E q) ∧ 0 < E q - pst E q ∧ rr (pst E q) = E q - pst E q
  | 0 => Or.inl rfl
  | c + 1 => by
    unfold lwN
    split
    · rename_i h
      exact Or.inr ⟨c, by omega, rfl, by omega, h.2⟩
    · rcases lwN_or (E := E) (rr := rr) c with h | ⟨q, h1, h2⟩
      · exact Or.inl h
      · exact Or.inr ⟨q, by omega, h2⟩
def mxf (rr : Nat → Nat) : Nat → Nat
  | 0 => 0
  | p + 1 => max (mxf rr p) (rr p)
theorem mxf_le {rr : Nat → Nat} {m : Nat} : ∀ p, (∀ j, j < p → rr j ≤ m) → mxf rr p ≤ m
  | 0, _ => Nat.zero_le _
  | p + 1, h => by
    unfold mxf
    have h1 := mxf_le (rr := rr) (m := m) p (fun j hj => h j (by omega))
    have h2 := h p (by omega)
    omega
/-- greedy's price from byte i on, without a whole -/
def gryN (A : hF_) (pk i s : Nat) (rrow rlet : Nat → Nat) : Int32 :=
  if max (mxf rrow s) (mxf (fun p => min (rlet p) (i - p)) i) < 3 then nI 2 + A (pk + 8) 1 + nI 8 + A (pk + 1) (i + 1)
  else nI 2 + nI (wd (if mxf rrow s < mxf (fun p => min (rlet p) (i - p)) i then i else s)) + A (pk + 8) (max (mxf rrow s) (mxf (fun p => min (rlet p) (i - p)) i) - 2) + A (pk + 1) (i + max (mxf rrow s) (mxf (fun p => min (rlet p) (i - p)) i))
section GRE
variable {k n u : Nat} {sh : hs_} {F : hF_} {R : hR_} {A : hF_} {B : hR_} {pk : Nat} {Q : Option Value → pm_H → Prop} {o r v z s e ze c lb lv lz m : Nat} {E : Nat → Nat}
theorem l_longest {rr : Nat → Nat} (hk : isK sh R pk) (hR : R 409 pk = some o) (hp : isP sh F R A o r v z s e ze c E) (hE : okE E c s) (hs : s ≤ 320) (hrr : ∀ p, p ≤ s → A (pk + 6) p = nI (rr p) ∧ rr p ≤ 120) :
    ∀ d q, q + d = c → ∀ y4 : Value, (rw_ (k + 1) mX4_longestWhole 6 [.ref pk, .int (lwN E rr q).1, .int (nI (lwN E rr q).2), .int (nI q), y4] [] (mkh n u sh F R A B) Q ↔ Q (some (.int (lwN E rr c).1)) (mkh n u sh F R A B)) := by
  obtain ⟨h0, ⟨r0, r1, r2, r3, r4, r5, r6, r7⟩, s0, s1, s2, s3, s4, s5, s6, s7⟩ := id hk
  have ho := hp.1
  have hn := hp.2.2.2.2.2.1
  have h5 := hp.2.2.2.2.1
  have h7 := hp.2.2.2.2.2.2.1
  intro d
  induction d with
  | zero =>
    intro q hq y4
    have e1 : q = c := by omega
    subst e1
    have g1 : nI q ≤ nI q := nI_le (Nat.le_refl _) (by omega)
    simp only [rX4_longestWhole_6, rX4_longestWhole_7, rX4_longestWhole_8, rX4_longestWhole_11, rX4_longestWhole_14, rX4_longestWhole_62, rX4_longestWhole_63, h0, hR, ho, hn, g1, up2_eq, va_rf, eq_self, or_true, true_or, Option.toList_some, Option.toList_none, List.cons_append, List.nil_append, if_true, if_false]
  | succ d ih =>
    intro q hq y4
    have g1 : ¬ nI c ≤ nI q := nI_ge (by omega) (by omega)
    have hEq := hE.E_le (j := q) (by omega)
    have hst := hE.pst_le (j := q) (by omega)
    obtain ⟨q1, q2⟩ := hrr (pst E q) hst
    have hl2 : (lwN E rr q).2 < 2 ^ 31 := by
      rcases lwN_or (E := E) (rr := rr) q with h | ⟨j, h1, h2, h3, h4⟩
      · rw [h]; decide
      · rw [h2]
        have := hE.E_le (j := j) (by omega)
        dsimp only
        omega
    simp only [rX4_longestWhole_6, rX4_longestWhole_7, rX4_longestWhole_8, rX4_longestWhole_11, rX4_longestWhole_14, rX4_longestWhole_17, rX4_longestWhole_18, rX4_longestWhole_21, h0, hR, ho, hn, g1, up2_eq, va_rf, eq_self, or_true, true_or, Option.toList_some, Option.toList_none, List.cons_append, List.nil_append, if_true, if_false]
    rw [rX4_longestWhole_22 ho, k_Pieces_length hp hE (by omega)]
    simp only [rX4_longestWhole_25, rX4_longestWhole_27, rX4_longestWhole_29, up2_eq, va_rf, eq_self, or_true, true_or, Option.toList_some, Option.toList_none, List.cons_append, List.nil_append, if_true, if_false]
    by_cases c1 : (lwN E rr q).2 < E q - pst E q
    · have g2 : ¬ nI (E q - pst E q) ≤ nI (lwN E rr q).2 := nI_ge c1 (by omega)
      simp only [rX4_longestWhole_30, rX4_longestWhole_33, rX4_longestWhole_34, rX4_longestWhole_37, rX4_longestWhole_38, rX4_longestWhole_41, h0, hR, r5, g2, up2_eq, va_rf, eq_self, or_true, true_or, Option.toList_some, Option.toList_none, List.cons_append, List.nil_append, if_true, if_false]
      rw [rX4_longestWhole_42 ho, k_Pieces_start hp (by omega)]
      simp only [up2_eq, va_rf, eq_self, or_true, true_or, Option.toList_some, Option.toList_none, List.cons_append, List.nil_append, if_true, if_false]
      rw [rX4_longestWhole_45 s5 (by decide) (by omega) (by omega), q1]
      by_cases c2 : rr (pst E q) = E q - pst E q
      · have hw : lwN E rr (q + 1) = (nI q, E q - pst E q) := by rw [lwN, if_pos ⟨c1, c2⟩]
        have g3 : nI (rr (pst E q)) = nI (E q - pst E q) := by rw [c2]
        simp only [rX4_longestWhole_46, rX4_longestWhole_48, rX4_longestWhole_51, rX4_longestWhole_52, rX4_longestWhole_53, rX4_longestWhole_55, rX4_longestWhole_56, rX4_longestWhole_59, g3, nI_add, up2_eq, va_rf, eq_self, or_true, true_or, Option.toList_some, Option.toList_none, List.cons_append, List.nil_append, if_true, if_false]
        have := ih (q + 1) (by omega) (.int (nI (E q - pst E q)))
        rw [hw] at this
        exact this
      · have hw : lwN E rr (q + 1) = lwN E rr q := by rw [lwN, if_neg (fun x => c2 x.2)]
        have g3 : ¬ nI (rr (pst E q)) = nI (E q - pst E q) := fun x => c2 ((nI_eq (by omega) (by omega)).mp x)
        simp only [rX4_longestWhole_46, rX4_longestWhole_48, rX4_longestWhole_56, rX4_longestWhole_59, g3, nI_add, up2_eq, va_rf, eq_self, or_true, true_or, Option.toList_some, Option.toList_none, List.cons_append, List.nil_append, if_true, if_false]
        have := ih (q + 1) (by omega) (.int (nI (E q - pst E q)))
        rw [hw] at this
        exact this
    · have hw : lwN E rr (q + 1) = lwN E rr q := by rw [lwN, if_neg (fun x => c1 x.1)]
      have g2 : nI (E q - pst E q) ≤ nI (lwN E rr q).2 := nI_le (by omega) hl2
      simp only [rX4_longestWhole_30, rX4_longestWhole_56, rX4_longestWhole_59, g2, nI_add, up2_eq, va_rf, eq_self, or_true, true_or, Option.toList_some, Option.toList_none, List.cons_append, List.nil_append, if_true, if_false]
      have := ih (q + 1) (by omega) (.int (nI (E q - pst E q)))
      rw [hw] at this
      exact this
theorem k_longest {rr : Nat → Nat} (hk : isK sh R pk) (hR : R 409 pk = some o) (hp : isP sh F R A o r v z s e ze c E) (hE : okE E c s) (hs : s ≤ 320) (hrr : ∀ p, p ≤ s → A (pk + 6) p = nI (rr p) ∧ rr p ≤ 120) :
    rc_ (k + 1) mX4_longestWhole [.ref pk] (mkh n u sh F R A B) Q ↔ Q (some (.int (lwN E rr c).1)) (mkh n u sh F R A B) := by
  rw [eX4_longestWhole]
  simp only [rX4_longestWhole_0, rX4_longestWhole_1, rX4_longestWhole_2, rX4_longestWhole_3, rX4_longestWhole_4, rX4_longestWhole_5]
  exact l_longest hk hR hp hE hs hrr c 0 (by omega) _
theorem k_greedyW {i q : Nat} (hk : isK sh R pk) (hR : R 409 pk = some o) (hp : isP sh F R A o r v z s e ze c E) (hE : okE E c s) (hq : q < c) (hc : c ≤ 20) (hi : i + (E q - pst E q) ≤ 120) :
    rc_ (k + 1) mX4_greedyFrom [.ref pk, .int (nI i), .int (nI q)] (mkh n u sh F R A B) Q ↔ Q (some (.int (nI 2 + A (pk + 8) (q + 1) + A (pk + 1) (i + (E q - pst E q))))) (mkh n u sh F R A B) := by
  obtain ⟨h0, ⟨r0, r1, r2, r3, r4, r5, r6, r7⟩, s0, s1, s2, s3, s4, s5, s6, s7⟩ := id hk
  rw [eX4_greedyFrom]
  have g0 : ¬ nI q = -1 := fun x => absurd (show nI q < 0 by rw [x]; decide) (nI_pos (by omega))
  simp only [rX4_greedyFrom_0, rX4_greedyFrom_1, rX4_greedyFrom_2, rX4_greedyFrom_5, rX4_greedyFrom_6, rX4_greedyFrom_7, rX4_greedyFrom_10, rX4_greedyFrom_11, rX4_greedyFrom_12, h0, r7, g0, nI_add, up2_eq, va_rf, eq_self, or_true, true_or, Option.toList_some, Option.toList_none, List.cons_append, List.nil_append, if_true, if_false]
  rw [rX4_greedyFrom_13 s7 (by decide) (by omega) (by omega)]
  simp only [rX4_greedyFrom_14, rX4_greedyFrom_15, rX4_greedyFrom_16, rX4_greedyFrom_19, rX4_greedyFrom_20, rX4_greedyFrom_21, rX4_greedyFrom_24, h0, r0, hR, up2_eq, va_rf, eq_self, or_true, true_or, Option.toList_some, Option.toList_none, List.cons_append, List.nil_append, if_true, if_false]
  rw [rX4_greedyFrom_25 hp.1, k_Pieces_length hp hE hq]
  simp only [rX4_greedyFrom_28, nI_add, up2_eq, va_rf, eq_self, or_true, true_or, Option.toList_some, Option.toList_none, List.cons_append, List.nil_append, if_true, if_false]
  rw [rX4_greedyFrom_29 s0 (by decide) (by omega) (by omega)]
  simp only [rX4_greedyFrom_30, rX4_greedyFrom_31]
theorem l_gry1 {i : Nat} {rr : Nat → Nat} {w : Value} {Z : Prop} (hk : isK sh R pk) (hF : F 411 pk = nI s) (hs : s ≤ 320) (hrr : ∀ p, p ≤ s → A (pk + 6) p = nI (rr p) ∧ rr p ≤ 120) :
    (∀ y4, (rw_ (k + 1) mX4_greedyFrom 64 [.ref pk, .int (nI i), w, .int (nI (mxf rr s)), y4, .retAddr 0, .retAddr 0] [] (mkh n u sh F R A B) Q ↔ Z)) →
    ∀ d p, p + d = s → (rw_ (k + 1) mX4_greedyFrom 37 [.ref pk, .int (nI i), w, .int (nI (mxf rr p)), .int (nI p), .retAddr 0, .retAddr 0] [] (mkh n u sh F R A B) Q ↔ Z) := by
  obtain ⟨h0, ⟨r0, r1, r2, r3, r4, r5, r6, r7⟩, s0, s1, s2, s3, s4, s5, s6, s7⟩ := id hk
  intro hZ d
  induction d with
  | zero =>
    intro p hp
    have e1 : p = s := by omega
    subst e1
    have g1 : nI p ≤ nI p := nI_le (Nat.le_refl _) (by omega)
    simp only [rX4_greedyFrom_37, rX4_greedyFrom_39, rX4_greedyFrom_40, rX4_greedyFrom_43, h0, hF, g1, up2_eq, va_rf, eq_self, or_true, true_or, Option.toList_some, Option.toList_none, List.cons_append, List.nil_append, if_true, if_false]
    exact hZ _
  | succ d ih =>
    intro p hp
    have g1 : ¬ nI s ≤ nI p := nI_ge (by omega) (by omega)
    have hml := mxf_le (rr := rr) (m := 120) p (fun j hj => (hrr j (by omega)).2)
    obtain ⟨q1, q2⟩ := hrr p (by omega)
    simp only [rX4_greedyFrom_37, rX4_greedyFrom_39, rX4_greedyFrom_40, rX4_greedyFrom_43, rX4_greedyFrom_46, rX4_greedyFrom_47, rX4_greedyFrom_48, rX4_greedyFrom_51, h0, hF, r5, g1, up2_eq, va_rf, eq_self, or_true, true_or, Option.toList_some, Option.toList_none, List.cons_append, List.nil_append, if_true, if_false]
    rw [rX4_greedyFrom_53 s5 (by decide) (by omega) (by omega), q1, rX4_greedyFrom_54, nI_max (by omega) (by omega)]
    simp only [rX4_greedyFrom_57, rX4_greedyFrom_58, rX4_greedyFrom_61, nI_add]
    exact ih (p + 1) (by omega)
theorem l_gry2 {i : Nat} {rr : Nat → Nat} {w t3 : Value} {Z : Prop} (hk : isK sh R pk) (hi : i ≤ 120) (hrr : ∀ p, p < i → A (pk + 7) p = nI (rr p) ∧ rr p ≤ 120) :
    (∀ y5, (rw_ (k + 1) mX4_greedyFrom 103 [.ref pk, .int (nI i), w, t3, .int (nI (mxf (fun p => min (rr p) (i - p)) i)), y5, .retAddr 0] [] (mkh n u sh F R A B) Q ↔ Z)) →
    ∀ d p, p + d = i → (rw_ (k + 1) mX4_greedyFrom 70 [.ref pk, .int (nI i), w, t3, .int (nI (mxf (fun p => min (rr p) (i - p)) p)), .int (nI p), .retAddr 0] [] (mkh n u sh F R A B) Q ↔ Z) := by
  obtain ⟨h0, ⟨r0, r1, r2, r3, r4, r5, r6, r7⟩, s0, s1, s2, s3, s4, s5, s6, s7⟩ := id hk
  intro hZ d
  induction d with
  | zero =>
    intro p hp
    have e1 : p = i := by omega
    subst e1
    have g1 : nI p ≤ nI p := nI_le (Nat.le_refl _) (by omega)
    simp only [rX4_greedyFrom_70, rX4_greedyFrom_72, rX4_greedyFrom_73, g1, up2_eq, va_rf, eq_self, or_true, true_or, Option.toList_some, Option.toList_none, List.cons_append, List.nil_append, if_true, if_false]
    exact hZ _
  | succ d ih =>
    intro p hp
    have g1 : ¬ nI i ≤ nI p := nI_ge (by omega) (by omega)
    have hml := mxf_le (rr := fun p => min (rr p) (i - p)) (m := 120) p (fun j hj => by have := (hrr j (by omega)).2; omega)
    obtain ⟨q1, q2⟩ := hrr p (by omega)
    simp only [rX4_greedyFrom_70, rX4_greedyFrom_72, rX4_greedyFrom_73, rX4_greedyFrom_76, rX4_greedyFrom_78, rX4_greedyFrom_79, rX4_greedyFrom_82, h0, r6, g1, up2_eq, va_rf, eq_self, or_true, true_or, Option.toList_some, Option.toList_none, List.cons_append, List.nil_append, if_true, if_false]
    rw [rX4_greedyFrom_84 s6 (by decide) (by omega) (by omega), q1]
    simp only [rX4_greedyFrom_85, rX4_greedyFrom_86, rX4_greedyFrom_88, pk_sub (show p ≤ i by omega)]
    rw [rX4_greedyFrom_89, nI_min (by omega) (by omega), rX4_greedyFrom_92, nI_max (by omega) (by omega)]
    simp only [rX4_greedyFrom_95, rX4_greedyFrom_97, rX4_greedyFrom_100, nI_add]
    exact ih (p + 1) (by omega)
theorem k_greedyN {i : Nat} {rrow rlet : Nat → Nat} (hk : isK sh R pk) (hR : R 409 pk = some o) (hF : F 411 pk = nI s) (hp : isP sh F R A o r v z s e ze c E) (hs : s ≤ 320) (hi : i < m) (hm : m ≤ 120) (hr1 : ∀ p, p ≤ s → A (pk + 6) p = nI (rrow p) ∧ rrow p ≤ m - i) (hr2 : ∀ p, p < i → A (pk + 7) p = nI (rlet p) ∧ rlet p ≤ m - i) :
    rc_ (k + 1) mX4_greedyFrom [.ref pk, .int (nI i), .int (-1)] (mkh n u sh F R A B) Q ↔ Q (some (.int (gryN A pk i s rrow rlet))) (mkh n u sh F R A B) := by
  obtain ⟨h0, ⟨r0, r1, r2, r3, r4, r5, r6, r7⟩, s0, s1, s2, s3, s4, s5, s6, s7⟩ := id hk
  have ho := hp.1
  have hro := hp.2.1
  have hrb := hp.2.2.2.2.2.2.2.2
  have hz5 := hrb.2.2.2.2.1
  rw [eX4_greedyFrom]
  simp only [rX4_greedyFrom_0, rX4_greedyFrom_1, rX4_greedyFrom_2, rX4_greedyFrom_32, rX4_greedyFrom_33, rX4_greedyFrom_34, rX4_greedyFrom_35, up2_eq, va_rf, eq_self, or_true, true_or, Option.toList_some, Option.toList_none, List.cons_append, List.nil_append, if_true, if_false]
  refine l_gry1 (rr := rrow) hk hF hs (fun p hp => ⟨(hr1 p hp).1, by have := (hr1 p hp).2; omega⟩) (fun y4 => ?_) s 0 (by omega)
  simp only [rX4_greedyFrom_64, rX4_greedyFrom_65, rX4_greedyFrom_67, rX4_greedyFrom_68]
  refine l_gry2 (rr := rlet) hk (by omega) (fun p hp => ⟨(hr2 p hp).1, by have := (hr2 p hp).2; omega⟩) (fun y5 => ?_) i 0 (by omega)
  have hm1 := mxf_le (rr := rrow) (m := m - i) s (fun j hj => (hr1 j (by omega)).2)
  have hm2 := mxf_le (rr := fun p => min (rlet p) (i - p)) (m := m - i) i (fun j hj => by have := (hr2 j (by omega)).2; omega)
  unfold gryN
  generalize mxf rrow s = td at *
  generalize mxf (fun p => min (rlet p) (i - p)) i = fr at *
  simp only [rX4_greedyFrom_103, rX4_greedyFrom_104]
  rw [rX4_greedyFrom_106, nI_max (by omega) (by omega)]
  simp only [rX4_greedyFrom_109, rX4_greedyFrom_111, rX4_greedyFrom_113]
  by_cases c1 : max td fr < 3
  · have g1 : ¬ nI 3 ≤ nI (max td fr) := nI_ge c1 (by omega)
    simp only [rX4_greedyFrom_114, rX4_greedyFrom_117, rX4_greedyFrom_118, rX4_greedyFrom_119, rX4_greedyFrom_122, h0, r7, g1, c1, up2_eq, va_rf, eq_self, or_true, true_or, Option.toList_some, Option.toList_none, List.cons_append, List.nil_append, if_true, if_false]
    rw [rX4_greedyFrom_123 s7 (by decide) (by omega) (by omega)]
    simp only [rX4_greedyFrom_124, rX4_greedyFrom_125, rX4_greedyFrom_127, rX4_greedyFrom_128, rX4_greedyFrom_129, rX4_greedyFrom_132, rX4_greedyFrom_133, rX4_greedyFrom_134, h0, r0, nI_add, up2_eq, va_rf, eq_self, or_true, true_or, Option.toList_some, Option.toList_none, List.cons_append, List.nil_append, if_true, if_false]
    rw [rX4_greedyFrom_135 s0 (by decide) (by omega) (by omega)]
    simp only [rX4_greedyFrom_136, rX4_greedyFrom_137]
  · have g1 : nI 3 ≤ nI (max td fr) := nI_le (by omega) (by omega)
    have tail : ∀ w : Nat, w < 2 ^ 31 → (rw_ (k + 1) mX4_greedyFrom 158 [.ref pk, .int (nI i), .int (-1), .int (nI td), .int (nI fr), .int (nI (max td fr)), .retAddr 0] [.int (nI w)] (mkh n u sh F R A B) Q ↔ Q (some (.int (nI 2 + nI (wd w) + A (pk + 8) (max td fr - 2) + A (pk + 1) (i + max td fr)))) (mkh n u sh F R A B)) := by
      intro w hw
      rw [rX4_greedyFrom_158, k_width hw]
      simp only [rX4_greedyFrom_161, rX4_greedyFrom_163, rX4_greedyFrom_164, rX4_greedyFrom_166, rX4_greedyFrom_167, rX4_greedyFrom_168, rX4_greedyFrom_171, rX4_greedyFrom_173, rX4_greedyFrom_174, h0, r7, pk_sub (show 2 ≤ max td fr by omega), up2_eq, va_rf, eq_self, or_true, true_or, Option.toList_some, Option.toList_none, List.cons_append, List.nil_append, if_true, if_false]
      rw [rX4_greedyFrom_175 s7 (by decide) (by omega) (by omega)]
      simp only [rX4_greedyFrom_176, rX4_greedyFrom_177, rX4_greedyFrom_178, rX4_greedyFrom_181, rX4_greedyFrom_182, rX4_greedyFrom_184, h0, r0, nI_add, up2_eq, va_rf, eq_self, or_true, true_or, Option.toList_some, Option.toList_none, List.cons_append, List.nil_append, if_true, if_false]
      rw [rX4_greedyFrom_185 s0 (by decide) (by omega) (by omega)]
      simp only [rX4_greedyFrom_186, rX4_greedyFrom_187, nI_add]
    simp only [rX4_greedyFrom_114, rX4_greedyFrom_138, rX4_greedyFrom_139, g1, c1, up2_eq, va_rf, eq_self, or_true, true_or, Option.toList_some, Option.toList_none, List.cons_append, List.nil_append, if_true, if_false]
    by_cases c2 : td < fr
    · have g2 : nI td < nI fr := nI_lt c2 (by omega)
      simp only [rX4_greedyFrom_141, rX4_greedyFrom_157, g2, c2, up2_eq, va_rf, eq_self, or_true, true_or, Option.toList_some, Option.toList_none, List.cons_append, List.nil_append, if_true, if_false]
      exact tail i (by omega)
    · have g2 : ¬ nI td < nI fr := nI_nlt (by omega) (by omega)
      simp only [rX4_greedyFrom_141, rX4_greedyFrom_144, rX4_greedyFrom_145, rX4_greedyFrom_148, rX4_greedyFrom_151, rX4_greedyFrom_154, h0, hR, ho, hro, hrb.1, hz5, g2, c2, up2_eq, va_rf, eq_self, or_true, true_or, Option.toList_some, Option.toList_none, List.cons_append, List.nil_append, if_true, if_false]
      exact tail s (by omega)
end GRE
