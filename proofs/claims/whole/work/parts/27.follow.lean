/-! ===== the packer: how far rows go alike ===== -/
/-- the new run at a place of the row -/
def nrr (f : Nat → Int32) (val : Int32) (en rr : Nat → Nat) (p : Nat) : Nat := if f p = val then (if p + 1 < en p then rr (p + 1) else 0) + 1 else 0
section FOL
variable {k n u : Nat} {sh : hs_} {F : hF_} {R : hR_} {A : hF_} {B : hR_} {pk : Nat} {Q : Option Value → pm_H → Prop} {o r v z s e ze c : Nat} {E : Nat → Nat}
theorem l_folIn {i q : Nat} {rr : Nat → Nat} {val : Int32} {Z : Prop} (hk : isK sh R pk) (hR : R 409 pk = some o) (hp : isP sh F R A o r v z s e ze c E) (hE : okE E c s) (hv : v ≠ pk + 6) (hs : s ≤ 320) (hq : q < c) (hrr : ∀ p, p ≤ s → A (pk + 6) p = nI (rr p)) :
    ∀ d p, p + d = E q → pst E q ≤ p → (∀ y6, (rw_ (k + 1) mX4_followRow 117 [.ref pk, .int (nI i), .int val, .int (nI q), .int (nI (E q)), .int (nI (E q)), y6] [] (mkh n u sh F R (pfx A (pk + 6) (fun p => nI (nrr (A v) val (fun p => ear E p c 0) rr p)) (E q)) B) Q ↔ Z)) →
      ∀ y6, (rw_ (k + 1) mX4_followRow 49 [.ref pk, .int (nI i), .int val, .int (nI q), .int (nI (E q)), .int (nI p), y6] [] (mkh n u sh F R (pfx A (pk + 6) (fun p => nI (nrr (A v) val (fun p => ear E p c 0) rr p)) p) B) Q ↔ Z) := by
  obtain ⟨h0, ⟨r0, r1, r2, r3, r4, r5, r6, r7⟩, s0, s1, s2, s3, s4, s5, s6, s7⟩ := id hk
  have ho := hp.1
  have hr := hp.2.1
  have hb := hp.2.2.2.2.2.2.2.2
  have hEq := hE.E_le (j := q) hq
  intro d
  induction d with
  | zero =>
    intro p hp0 hpl hZ y6
    have e1 : p = E q := by omega
    subst e1
    have g1 : nI (E q) ≤ nI (E q) := nI_le (Nat.le_refl _) (by omega)
    simp only [rX4_followRow_49, rX4_followRow_51, rX4_followRow_53, g1, up2_eq, va_rf, eq_self, or_true, true_or, Option.toList_some, Option.toList_none, List.cons_append, List.nil_append, if_true, if_false]
    exact hZ y6
  | succ d ih =>
    intro p hp0 hpl hZ y6
    have g1 : ¬ nI (E q) ≤ nI p := nI_ge (by omega) (by omega)
    have hear : ear E p c 0 = E q := ear_at hE hq hpl (by omega) c 0 (by omega) (by omega)
    have hbat : bat (pfx A (pk + 6) (fun p => nI (nrr (A v) val (fun p => ear E p c 0) rr p)) p) v s (nI p) = A v p := by rw [bat_in (by omega) (by omega), pfx_out hv]
    have tail : ∀ (bh : Nat) , bh = (if p + 1 < ear E p c 0 then rr (p + 1) else 0) → (rw_ (k + 1) mX4_followRow 80 [.ref pk, .int (nI i), .int val, .int (nI q), .int (nI (E q)), .int (nI p), .int (nI bh)] [] (mkh n u sh F R (pfx A (pk + 6) (fun p => nI (nrr (A v) val (fun p => ear E p c 0) rr p)) p) B) Q ↔ Z) := by
      intro bh hbh
      simp only [rX4_followRow_80, rX4_followRow_81, rX4_followRow_84, rX4_followRow_86, rX4_followRow_87, rX4_followRow_90, rX4_followRow_93, h0, r5, hR, ho, hr, up2_eq, va_rf, eq_self, or_true, true_or, Option.toList_some, Option.toList_none, List.cons_append, List.nil_append, if_true, if_false]
      rw [rX4_followRow_95 hb.1, k_Bytes_at hb, hbat]
      have hst : ∀ x : Int32, x = nI (nrr (A v) val (fun p => ear E p c 0) rr p) → (rw_ (k + 1) mX4_followRow 110 [.ref pk, .int (nI i), .int val, .int (nI q), .int (nI (E q)), .int (nI p), .int (nI bh)] [.int x, .int (nI p), .ref (pk + 6)] (mkh n u sh F R (pfx A (pk + 6) (fun p => nI (nrr (A v) val (fun p => ear E p c 0) rr p)) p) B) Q ↔ Z) := by
        intro x hx
        subst hx
        rw [rX4_followRow_110 s5 (by omega) (by omega), pfx_s (g := fun p => nI (nrr (A v) val (fun p => ear E p c 0) rr p))]
        simp only [rX4_followRow_111, rX4_followRow_114, nI_add]
        exact ih (p + 1) (by omega) (by omega) hZ _
      by_cases c1 : A v p = val
      · simp only [rX4_followRow_98, rX4_followRow_99, rX4_followRow_102, rX4_followRow_104, rX4_followRow_105, rX4_followRow_106, c1, nI_add, up2_eq, va_rf, eq_self, or_true, true_or, Option.toList_some, Option.toList_none, List.cons_append, List.nil_append, if_true, if_false]
        exact hst _ (by unfold nrr; rw [if_pos c1, ← hbh])
      · simp only [rX4_followRow_98, rX4_followRow_99, rX4_followRow_109, c1, up2_eq, va_rf, eq_self, or_true, true_or, Option.toList_some, Option.toList_none, List.cons_append, List.nil_append, if_true, if_false]
        exact hst _ (by unfold nrr; rw [if_neg c1])
    by_cases c2 : p + 1 < E q
    · have g2 : ¬ nI (E q) ≤ nI (p + 1) := nI_ge c2 (by omega)
      simp only [rX4_followRow_49, rX4_followRow_51, rX4_followRow_53, rX4_followRow_56, rX4_followRow_58, rX4_followRow_59, rX4_followRow_60, rX4_followRow_62, rX4_followRow_65, rX4_followRow_66, rX4_followRow_69, rX4_followRow_71, rX4_followRow_72, h0, r5, g1, g2, nI_add, up2_eq, va_rf, eq_self, or_true, true_or, Option.toList_some, Option.toList_none, List.cons_append, List.nil_append, if_true, if_false]
      rw [rX4_followRow_73 s5 (by decide) (by omega) (by omega), pfx_old (by omega), hrr (p + 1) (by omega)]
      simp only [rX4_followRow_74, rX4_followRow_78]
      exact tail _ (by rw [hear, if_pos c2])
    · have g2 : nI (E q) ≤ nI (p + 1) := nI_le (by omega) (by omega)
      simp only [rX4_followRow_49, rX4_followRow_51, rX4_followRow_53, rX4_followRow_56, rX4_followRow_58, rX4_followRow_59, rX4_followRow_60, rX4_followRow_62, rX4_followRow_77, rX4_followRow_78, g1, g2, nI_add, up2_eq, va_rf, eq_self, or_true, true_or, Option.toList_some, Option.toList_none, List.cons_append, List.nil_append, if_true, if_false]
      exact tail _ (by rw [hear, if_neg c2])
theorem l_folOut {i : Nat} {rr : Nat → Nat} {val : Int32} (hk : isK sh R pk) (hR : R 409 pk = some o) (ht : F 411 pk = nI s) (hp : isP sh F R A o r v z s e ze c E) (hE : okE E c s) (hv : v ≠ pk + 6) (he : e ≠ pk + 6) (hs : s ≤ 320) (hrr : ∀ p, p ≤ s → A (pk + 6) p = nI (rr p)) :
    ∀ d q, q + d = c → ∀ y4 y5 y6, (rw_ (k + 1) mX4_followRow 11 [.ref pk, .int (nI i), .int val, .int (nI q), y4, y5, y6] [] (mkh n u sh F R (pfx A (pk + 6) (fun p => nI (nrr (A v) val (fun p => ear E p c 0) rr p)) (pst E q)) B) Q ↔ Q none (mkh n u sh F R (pfx A (pk + 6) (fun p => nI (nrr (A v) val (fun p => ear E p c 0) rr p)) s) B)) := by
  obtain ⟨h0, ⟨r0, r1, r2, r3, r4, r5, r6, r7⟩, s0, s1, s2, s3, s4, s5, s6, s7⟩ := id hk
  have ho := hp.1
  have hn := hp.2.2.2.2.2.1
  have h5 := hp.2.2.2.2.1
  have h7 := hp.2.2.2.2.2.2.1
  intro d
  induction d with
  | zero =>
    intro q hq y4 y5 y6
    have e1 : q = c := by omega
    subst e1
    have g1 : nI q ≤ nI q := nI_le (Nat.le_refl _) (by omega)
    simp only [rX4_followRow_11, rX4_followRow_12, rX4_followRow_13, rX4_followRow_16, rX4_followRow_19, rX4_followRow_123, h0, hR, ho, hn, g1, up2_eq, va_rf, eq_self, or_true, true_or, Option.toList_some, Option.toList_none, List.cons_append, List.nil_append, if_true, if_false]
    rw [hE.2]
  | succ d ih =>
    intro q hq y4 y5 y6
    have g1 : ¬ nI c ≤ nI q := nI_ge (by omega) (by omega)
    have hEq := hE.E_le (j := q) (by omega)
    have hpq : isP sh F R (pfx A (pk + 6) (fun p => nI (nrr (A v) val (fun p => ear E p c 0) rr p)) (pst E q)) o r v z s e ze c E := hp.A (pfx_out he)
    simp only [rX4_followRow_11, rX4_followRow_12, rX4_followRow_13, rX4_followRow_16, rX4_followRow_19, rX4_followRow_22, rX4_followRow_23, rX4_followRow_26, h0, hR, ho, hn, g1, up2_eq, va_rf, eq_self, or_true, true_or, Option.toList_some, Option.toList_none, List.cons_append, List.nil_append, if_true, if_false]
    rw [rX4_followRow_27 ho, k_Pieces_end hpq (by omega)]
    simp only [rX4_followRow_30, rX4_followRow_31, h0, ht, up2_eq, va_rf, eq_self, or_true, true_or, Option.toList_some, Option.toList_none, List.cons_append, List.nil_append, if_true, if_false]
    rw [rX4_followRow_34, nI_min (by omega) (by omega), Nat.min_eq_left hEq]
    simp only [rX4_followRow_37, rX4_followRow_39, rX4_followRow_40, rX4_followRow_43, h0, hR, up2_eq, va_rf, eq_self, or_true, true_or, Option.toList_some, Option.toList_none, List.cons_append, List.nil_append, if_true, if_false]
    rw [rX4_followRow_44 ho, k_Pieces_start hpq (by omega)]
    simp only [rX4_followRow_47, up2_eq, va_rf, eq_self, or_true, true_or, Option.toList_some, Option.toList_none, List.cons_append, List.nil_append, if_true, if_false]
    have h13 := hE.1 q (by omega)
    refine l_folIn hk hR hp hE hv hs (by omega) hrr (E q - pst E q) (pst E q) (by omega) (Nat.le_refl _) (fun y6 => ?_) _
    simp only [rX4_followRow_117, rX4_followRow_120, nI_add]
    exact ih (q + 1) (by omega) _ _ _
theorem k_followRow {i lb lv lz m : Nat} {rr : Nat → Nat} (hk : isK sh R pk) (hR : R 409 pk = some o) (hL : R 408 pk = some lb) (ht : F 411 pk = nI s) (hp : isP sh F R A o r v z s e ze c E) (hE : okE E c s) (hb : isB sh F R lb lv lz m) (hi : i < m) (hv : v ≠ pk + 6) (he : e ≠ pk + 6) (hs : s ≤ 320) (hrr : ∀ p, p ≤ s → A (pk + 6) p = nI (rr p)) :
    rc_ (k + 1) mX4_followRow [.ref pk, .int (nI i)] (mkh n u sh F R A B) Q ↔ Q none (mkh n u sh F R (pfx A (pk + 6) (fun p => nI (nrr (A v) (A lv i) (fun p => ear E p c 0) rr p)) s) B) := by
  have h0 := hk.1
  have hz := hb.2.2.2.1
  have hm := hb.2.2.2.2.2
  rw [eX4_followRow]
  simp only [rX4_followRow_0, rX4_followRow_1, rX4_followRow_4, h0, hL, up2_eq, va_rf, eq_self, or_true, true_or, Option.toList_some, Option.toList_none, List.cons_append, List.nil_append, if_true, if_false]
  rw [rX4_followRow_5 hb.1, k_Bytes_at hb, bat_in hi (by omega)]
  simp only [rX4_followRow_8, rX4_followRow_9, rX4_followRow_10, up2_eq, va_rf, eq_self, or_true, true_or, Option.toList_some, Option.toList_none, List.cons_append, List.nil_append, if_true, if_false]
  have := l_folOut (k := k) (n := n) (u := u) (B := B) (Q := Q) (i := i) (val := A lv i) hk hR ht hp hE hv he hs hrr c 0 (by omega) (.retAddr 0) (.retAddr 0) (.retAddr 0)
  rw [show pst E 0 = 0 from rfl, pfx_0] at this
  exact this
/-- the new run at a place of the letter -/
def nlr (f : Nat → Int32) (val : Int32) (rr : Nat → Nat) (p : Nat) : Nat := if f p = val then rr (p + 1) + 1 else 0
theorem l_folLet {i lb lv lz m : Nat} {rr : Nat → Nat} {val : Int32} (hk : isK sh R pk) (hL : R 408 pk = some lb) (hb : isB sh F R lb lv lz m) (hi : i < m) (hi2 : i ≤ 120) (hv : lv ≠ pk + 7) (hrr : ∀ p, p ≤ i → A (pk + 7) p = nI (rr p)) :
    ∀ d p, p + d = i → (rw_ (k + 1) mX4_followLetter 11 [.ref pk, .int (nI i), .int val, .int (nI p)] [] (mkh n u sh F R (pfx A (pk + 7) (fun p => nI (nlr (A lv) val rr p)) p) B) Q ↔ Q none (mkh n u sh F R (pfx A (pk + 7) (fun p => nI (nlr (A lv) val rr p)) i) B)) := by
  obtain ⟨h0, ⟨r0, r1, r2, r3, r4, r5, r6, r7⟩, s0, s1, s2, s3, s4, s5, s6, s7⟩ := id hk
  have hz := hb.2.2.2.1
  have hm := hb.2.2.2.2.2
  intro d
  induction d with
  | zero =>
    intro p hp
    have e1 : p = i := by omega
    subst e1
    have g1 : nI p ≤ nI p := nI_le (Nat.le_refl _) (by omega)
    simp only [rX4_followLetter_11, rX4_followLetter_12, rX4_followLetter_13, rX4_followLetter_54, g1, up2_eq, va_rf, eq_self, or_true, true_or, Option.toList_some, Option.toList_none, List.cons_append, List.nil_append, if_true, if_false]
  | succ d ih =>
    intro p hp
    have g1 : ¬ nI i ≤ nI p := nI_ge (by omega) (by omega)
    simp only [rX4_followLetter_11, rX4_followLetter_12, rX4_followLetter_13, rX4_followLetter_16, rX4_followLetter_17, rX4_followLetter_20, rX4_followLetter_21, rX4_followLetter_22, rX4_followLetter_25, h0, r6, hL, g1, up2_eq, va_rf, eq_self, or_true, true_or, Option.toList_some, Option.toList_none, List.cons_append, List.nil_append, if_true, if_false]
    rw [rX4_followLetter_26 hb.1, k_Bytes_at hb, bat_in (by omega) (by omega), pfx_out hv]
    have hst : ∀ x : Int32, x = nI (nlr (A lv) val rr p) → (rw_ (k + 1) mX4_followLetter 47 [.ref pk, .int (nI i), .int val, .int (nI p)] [.int x, .int (nI p), .ref (pk + 7)] (mkh n u sh F R (pfx A (pk + 7) (fun p => nI (nlr (A lv) val rr p)) p) B) Q ↔ Q none (mkh n u sh F R (pfx A (pk + 7) (fun p => nI (nlr (A lv) val rr p)) i) B)) := by
      intro x hx
      subst hx
      rw [rX4_followLetter_47 s6 (by omega) (by omega), pfx_s (g := fun p => nI (nlr (A lv) val rr p))]
      simp only [rX4_followLetter_48, rX4_followLetter_51, nI_add]
      exact ih (p + 1) (by omega)
    by_cases c1 : A lv p = val
    · simp only [rX4_followLetter_29, rX4_followLetter_30, rX4_followLetter_33, rX4_followLetter_34, rX4_followLetter_37, rX4_followLetter_38, rX4_followLetter_39, h0, r6, c1, nI_add, up2_eq, va_rf, eq_self, or_true, true_or, Option.toList_some, Option.toList_none, List.cons_append, List.nil_append, if_true, if_false]
      rw [rX4_followLetter_40 s6 (by decide) (by omega) (by omega), pfx_old (by omega), hrr (p + 1) (by omega)]
      simp only [rX4_followLetter_41, rX4_followLetter_42, rX4_followLetter_43, nI_add]
      exact hst _ (by unfold nlr; rw [if_pos c1])
    · simp only [rX4_followLetter_29, rX4_followLetter_30, rX4_followLetter_46, c1, up2_eq, va_rf, eq_self, or_true, true_or, Option.toList_some, Option.toList_none, List.cons_append, List.nil_append, if_true, if_false]
      exact hst _ (by unfold nlr; rw [if_neg c1])
theorem k_followLetter {i lb lv lz m : Nat} {rr : Nat → Nat} (hk : isK sh R pk) (hL : R 408 pk = some lb) (hb : isB sh F R lb lv lz m) (hi : i < m) (hi2 : i ≤ 120) (hv : lv ≠ pk + 7) (hrr : ∀ p, p ≤ i → A (pk + 7) p = nI (rr p)) :
    rc_ (k + 1) mX4_followLetter [.ref pk, .int (nI i)] (mkh n u sh F R A B) Q ↔ Q none (mkh n u sh F R (pfx A (pk + 7) (fun p => nI (nlr (A lv) (A lv i) rr p)) i) B) := by
  have h0 := hk.1
  have hz := hb.2.2.2.1
  have hm := hb.2.2.2.2.2
  rw [eX4_followLetter]
  simp only [rX4_followLetter_0, rX4_followLetter_1, rX4_followLetter_4, h0, hL, up2_eq, va_rf, eq_self, or_true, true_or, Option.toList_some, Option.toList_none, List.cons_append, List.nil_append, if_true, if_false]
  rw [rX4_followLetter_5 hb.1, k_Bytes_at hb, bat_in hi (by omega)]
  simp only [rX4_followLetter_8, rX4_followLetter_9, rX4_followLetter_10, up2_eq, va_rf, eq_self, or_true, true_or, Option.toList_some, Option.toList_none, List.cons_append, List.nil_append, if_true, if_false]
  have := l_folLet (k := k) (n := n) (u := u) (B := B) (Q := Q) (val := A lv i) hk hL hb hi hi2 hv hrr i 0 (by omega)
  rw [pfx_0] at this
  exact this
end FOL
