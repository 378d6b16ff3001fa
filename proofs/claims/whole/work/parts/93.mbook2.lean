/-! ===== the reference: book ===== -/
section MBK
variable {k n u : Nat} {sh : hs_} {F F' : hF_} {R : hR_} {A A' : hF_} {B : hR_} {Q : Option Value → pm_H → Prop} {y : Nat} {T : TT} {b c s kd : Nat} {E f : Nat → Nat}
theorem MS_dr1 (h : MS F A y T) (hT : okT T) (h0 : T.1 4 24 = 0) (f1 : ∀ a, a ≠ y + 4 → a ≠ y + 5 → a ≠ y + 6 → A' a = A a) (h6 : ∀ j, A' (y + 6) j = A (y + 6) j) (h5 : ∀ j, j ≠ 21 * 24 → A' (y + 5) j = A (y + 5) j) (h5n : A' (y + 5) (21 * 24) = nI 0) (h4 : ∀ j, j ≠ 24 → A' (y + 4) j = A (y + 4) j) (h4n : A' (y + 4) 24 = nI 1) : MS F A' y (dr1 T) := by
  obtain ⟨a1, a2, a3, a4, a5, a6⟩ := id h
  have h24 := hT.2.2.2.1.1
  have hz : T.1 5 24 = 0 := by
    have := hT.2.2.1.2.1.2
    rw [h0] at this
    exact this.symm
  unfold dr1
  rw [if_pos h0]
  refine ⟨mTO_cong (N := T.1) a1 rfl rfl (f1 _ (by omega) (by omega) (by omega)) (f1 _ (by omega) (by omega) (by omega)), ?_, mPk_cong (T := T) a3 (fun _ _ => rfl) (fun k k1 k2 => f1 _ (by omega) (by omega) (by omega)), mSm_cong (T := T) a4 rfl (f1 _ (by omega) (by omega) (by omega)) (f1 _ (by omega) (by omega) (by omega)), mGa_cong (T := T) a5 (fun _ _ _ => rfl) (f1 _ (by omega) (by omega) (by omega)), mWi_cong (T := T) a6 (fun _ _ => rfl) (fun k k1 k2 => f1 _ (by omega) (by omega) (by omega))⟩
  obtain ⟨b1, b2, b3, b4, b5⟩ := a2
  refine ⟨b1, ?_, fun b hb => ?_, fun b g1 g2 => mBV_cong (b4 b g1 g2) (fun k k1 k2 => by rw [f1 _ (by omega) (by omega) (by omega)]), by rw [f1 _ (by omega) (by omega) (by omega)]; exact b5⟩
  · show mB1 A' y 24 1 (T.1 5 24) (fun _ => 0) (T.2.1 0 24)
    refine ⟨h4n, fun q hq => ?_, fun j hj => by omega⟩
    have e : q = 0 := by omega
    subst e
    exact h5n
  · have hb' : b < T.1 2 0 := hb
    obtain ⟨c1, c2, c3⟩ := b3 b hb'
    have hok := (hT.2.2.2.1.2.1 b (Or.inl hb')).1
    have o2 := hok.2.1
    have o3 := hok.2.2.1
    refine ⟨by rw [f1 _ (by omega) (by omega) (by omega)]; exact c1, ?_, mBV_cong c3 (fun k k1 k2 => by rw [f1 _ (by omega) (by omega) (by omega)])⟩
    show mB1 A' y b (up2 T.1 4 24 1 4 b) (T.1 5 b) (up2 T.2.1 3 24 (fun _ => 0) 3 b) (T.2.1 0 b)
    rw [up2_o (by omega), up2_o (by omega)]
    exact mB1_cong c2 (h4 _ (by omega)) (fun q hq => h5 _ (by omega)) (fun j hj => h6 _)
/-- a book more -/
theorem MS_apB (h : MS F A y T) (hn : T.1 2 0 < 24) (hc : T.1 4 24 ≤ 20) (hs : T.1 5 24 ≤ 4000) (hb : ∀ b, b < T.1 2 0 → T.1 4 b ≤ 20 ∧ T.1 5 b ≤ 320) (h05 : F' 1205 y = nI (T.1 2 0 + 1)) (hF : ∀ q, q ≠ 1205 → F' q y = F q y) (f1 : ∀ a, ¬ (y + 3 ≤ a ∧ a ≤ y + 6) → A' a = A a) (f3 : ∀ j, j < 24 → j ≠ T.1 2 0 → A' (y + 3) j = A (y + 3) j) (f3n : A' (y + 3) (T.1 2 0) = nI kd) (f4 : ∀ j, j < 25 → j ≠ T.1 2 0 → A' (y + 4) j = A (y + 4) j) (f5 : ∀ j, j < 525 → (j < 21 * T.1 2 0 ∨ 21 * T.1 2 0 + 21 ≤ j) → A' (y + 5) j = A (y + 5) j) (f6 : ∀ j, j < 100000 → (j < 4000 * T.1 2 0 ∨ 4000 * T.1 2 0 + 4000 ≤ j) → A' (y + 6) j = A (y + 6) j) (hB : mB1 A' y (T.1 2 0) c s E f) : MS F' A' y (apB T kd c s E f) := by
  obtain ⟨a1, a2, a3, a4, a5, a6⟩ := h
  refine ⟨mTO_cong (N := T.1) a1 (hF _ (by decide)) (hF _ (by decide)) (f1 _ (by omega)) (f1 _ (by omega)), ?_, mPk_cong (T := T) a3 (fun q hq => hF q (by omega)) (fun k k1 k2 => f1 _ (by omega)), mSm_cong (T := T) a4 (hF _ (by decide)) (f1 _ (by omega)) (f1 _ (by omega)), mGa_cong (T := T) a5 (fun q q1 q2 => hF q (by omega)) (f1 _ (by omega)), mWi_cong (T := T) a6 (fun q hq => hF q (by omega)) (fun k k1 k2 => f1 _ (by omega))⟩
  obtain ⟨b1, b2, b3, b4, b5⟩ := a2
  refine ⟨h05, ?_, fun b hb' => ?_, fun b g1 g2 => ?_, ?_⟩
  · rw [apB_o (by decide) (by omega), apB_o (by decide) (by omega), apB_oJ (by omega), apB_oJ (by omega)]
    exact mB1_cong b2 (f4 _ (by omega) (by omega)) (fun q hq => f5 _ (by omega) (by omega)) (fun j hj => f6 _ (by omega) (by omega))
  · by_cases e : b = T.1 2 0
    · subst e
      obtain ⟨n1, n2, n3, n4, n5, n6, n7, n8, n9, n10, n11⟩ := apB_n (T := T) (kd := kd) (c := c) (s := s) (E := E) (f := f)
      rw [n1, n2, n3, n4, n5, n6, n7, n8, n9, n10, n11]
      exact ⟨f3n, hB, mBV_cong (b4 _ (Nat.le_refl _) hn) (fun k k1 k2 => by rw [f1 _ (by omega)])⟩
    · have hb2 : b < T.1 2 0 + 1 := hb'
      have hb3 : b < T.1 2 0 := by omega
      obtain ⟨c1, c2, c3⟩ := b3 b hb3
      obtain ⟨o1, o2⟩ := hb b hb3
      rw [apB_o (by decide) e, apB_o (by decide) e, apB_o (by decide) e, apB_oJ e, apB_oJ e, apB_o (by decide) e, apB_o (by decide) e, apB_o (by decide) e, apB_oI e, apB_oI e, apB_oI e]
      exact ⟨by rw [f3 _ (by omega) e]; exact c1, mB1_cong c2 (f4 _ (by omega) e) (fun q hq => f5 _ (by omega) (by omega)) (fun j hj => f6 _ (by omega) (by omega)), mBV_cong c3 (fun k k1 k2 => by rw [f1 _ (by omega)])⟩
  · have g1' : T.1 2 0 + 1 ≤ b := g1
    exact mBV_cong (b4 b (by omega) g2) (fun k k1 k2 => by rw [f1 _ (by omega)])
  · rw [apB_oI (by omega), f1 _ (by omega)]
    exact b5
theorem MS_dclr (h : MS F A y T) (hn : T.1 2 0 ≤ 24) : MS F (up2 A (y + 4) 24 (nI 0)) y (up2 (up2 T.1 4 24 0) 5 24 0, T.2) := by
  obtain ⟨a1, a2, a3, a4, a5, a6⟩ := h
  refine ⟨mTO_cong (N := T.1) a1 rfl rfl (up2_row (by omega)) (up2_row (by omega)), ?_, mPk_cong (T := T) a3 (fun _ _ => rfl) (fun k k1 k2 => up2_row (by omega)), mSm_cong (T := T) a4 rfl (up2_row (by omega)) (up2_row (by omega)), mGa_cong (T := T) a5 (fun _ _ _ => rfl) (up2_row (by omega)), mWi_cong (T := T) a6 (fun _ _ => rfl) (fun k k1 k2 => up2_row (by omega))⟩
  obtain ⟨b1, b2, b3, b4, b5⟩ := a2
  refine ⟨b1, ?_, fun b hb => ?_, fun b g1 g2 => mBV_cong (b4 b g1 g2) (fun k k1 k2 => by rw [up2_row (by omega)]), by rw [up2_row (by omega)]; exact b5⟩
  · exact ⟨up2_eq, fun q hq => absurd hq (Nat.not_lt_zero _), fun q hq => absurd hq (Nat.not_lt_zero _)⟩
  · have hb' : b < T.1 2 0 := hb
    obtain ⟨c1, c2, c3⟩ := b3 b hb'
    refine ⟨by rw [up2_row (by omega)]; exact c1, ?_, mBV_cong c3 (fun k k1 k2 => by rw [up2_row (by omega)])⟩
    show mB1 _ y b (up2 (up2 T.1 4 24 0) 5 24 0 4 b) (up2 (up2 T.1 4 24 0) 5 24 0 5 b) (T.2.1 3 b) (T.2.1 0 b)
    have e1 : up2 (up2 T.1 4 24 0) 5 24 0 4 b = T.1 4 b := by rw [up2_o (by omega), up2_o (by omega)]
    have e2 : up2 (up2 T.1 4 24 0) 5 24 0 5 b = T.1 5 b := by rw [up2_o (by omega), up2_o (by omega)]
    rw [e1, e2]
    exact mB1_cong c2 (up2_a (by omega)) (fun q hq => by rw [up2_row (by omega)]) (fun q hq => by rw [up2_row (by omega)])
def bokU (T : TT) (kd : Nat) : TT := (up2 (up2 (apB T kd (T.1 4 24) (T.1 5 24) (T.2.1 3 24) (T.2.1 0 24)).1 4 24 0) 5 24 0, (apB T kd (T.1 4 24) (T.1 5 24) (T.2.1 3 24) (T.2.1 0 24)).2)
theorem l_book {x1 : Value} (hM : isM sh R y) (h : MS F A y T) (hn : T.1 2 0 < 24) (hc : T.1 4 24 ≤ 20) (hE : okE (T.2.1 3 24) (T.1 4 24) (T.1 5 24)) (hs : T.1 5 24 ≤ 4000) (hb : ∀ b, b < T.1 2 0 → T.1 4 b ≤ 20 ∧ T.1 5 b ≤ 320) (hk : A (y + 3) 24 = nI kd)
    (hQ : ∀ F' A', MS F' A' y (bokU T kd) → frM y F A F' A' → Q (some (.int (nI (T.1 2 0)))) (mkh n u sh F' R A' B)) : rw_ (k + 2) mX12_book 67 [.ref y, x1] [] (mkh n u sh F R A B) Q := by
  have r4 := hM.r 1207 4 0 26 (by decide)
  have s4 := hM.s 1207 4 0 26 (by decide)
  have b05 := h.2.1.1
  simp only [rX12_book_67, rX12_book_68, rX12_book_70, rX12_book_71, hM.1, b05, up2_eq, va_rf, eq_self, or_true, true_or, Option.toList_some, Option.toList_none, List.cons_append, List.nil_append, if_true, if_false]
  rw [rX12_book_74 hM.1]
  refine k_copyBook (b := 24) (to_ := T.1 2 0) hM (by omega) (by omega) (by omega) h.2.1.2.1 hE hc hs ?_
  intro A' f1 f3 f3n f4 f5 f6 hB
  simp only [rX12_book_77, rX12_book_78, rX12_book_81, rX12_book_83, hM.1, r4, up2_eq, va_rf, eq_self, or_true, true_or, Option.toList_some, Option.toList_none, List.cons_append, List.nil_append, if_true, if_false]
  rw [rX12_book_84 s4 (by omega) (by omega)]
  simp only [rX12_book_85, rX12_book_86, rX12_book_87, rX12_book_90, rX12_book_91, rX12_book_92, rX12_book_95, rX12_book_96, rX12_book_99, rX12_book_100, rX12_book_101, hM.1, b05, nI_add, nI_sub1, up2_eq, va_rf, eq_self, or_true, true_or, Option.toList_some, Option.toList_none, List.cons_append, List.nil_append, if_true, if_false]
  have h1 := MS_apB (kd := kd) (F' := up2 F 1205 y (nI (T.1 2 0 + 1))) (A' := A') h hn hc hs hb up2_eq (fun q hq => up2_k hq) f1 (fun j _ j2 => f3 j j2) (f3n.trans hk) (fun j _ j2 => f4 j j2) (fun j _ j2 => f5 j j2) (fun j _ j2 => f6 j j2) hB
  have h2 := MS_dclr h1 (by show T.1 2 0 + 1 ≤ 24; omega)
  exact hQ _ _ h2 ⟨fun q a g => up2_o (by omega), fun a g => by rw [up2_row (by omega)]; exact f1 a (by omega)⟩
theorem m_book {i : Int32} (hM : isM sh R y) (h : MS F A y T) (hT : okT T) (hQ : mPost n u sh F R A B y (s_book T i) Q) : rc_ (k + 8) mX12_book [.ref y, .int i] (mkh n u sh F R A B) Q := by
  have h0 := MS_th (v := nI 0) h hT
  have h24 := hT.2.2.2.1.1
  have hbb : ∀ b, b < T.1 2 0 → T.1 4 b ≤ 20 ∧ T.1 5 b ≤ 320 := fun b hb => ⟨(hT.2.2.2.1.2.1 b (Or.inl hb)).1.2.1, (hT.2.2.2.1.2.1 b (Or.inl hb)).1.2.2.1⟩
  obtain ⟨d1, d2, d3, d4⟩ := hT.2.2.1
  have dsum := okE_sum _ d2 (fun q hq => (d3 q hq).2) (T.1 4 24) (Nat.le_refl _)
  rw [d2.2] at dsum
  have fr0 : frM y F A (up2 F 1200 y (nI 0)) A := frM_F (by decide)
  have r1 := hM.r 1201 1 0 240 (by decide)
  have r3 := hM.r 1206 3 0 26 (by decide)
  have s3 := hM.s 1206 3 0 26 (by decide)
  have r4 := hM.r 1207 4 0 26 (by decide)
  have s4 := hM.s 1207 4 0 26 (by decide)
  have e05 : up2 F 1200 y (nI 0) 1205 y = nI (T.1 2 0) := h0.2.1.1
  have e4 : A (y + 4) 24 = nI (T.1 4 24) := h.2.1.2.1.1
  have g : ¬ nI 1 = nI 0 := by decide
  have e : (i < nI 0 ∨ nI 2 < i) ↔ ix i 3 = none := by
    have := in_ix (v := i) (n := 3) (by omega)
    rw [show nI 3 - nI 1 = nI 2 by decide] at this
    exact this
  rw [eX12_book]
  simp only [rX12_book_0, rX12_book_1, rX12_book_2, rX12_book_5, rX12_book_6, rX12_book_7, hM.1, up2_eq, va_rf, eq_self, or_true, true_or, Option.toList_some, Option.toList_none, List.cons_append, List.nil_append, if_true, if_false]
  rw [rX12_book_8, k_in]
  unfold s_book at hQ
  cases hi : ix i 3 with
  | none =>
    rw [hi] at hQ
    rw [if_pos (e.mpr hi)]
    simp only [rX12_book_11, rX12_book_22, rX12_book_24, up2_eq, va_rf, eq_self, or_true, true_or, Option.toList_some, Option.toList_none, List.cons_append, List.nil_append, if_true, if_false]
    exact hQ _ _ h0 fr0
  | some kd =>
    rw [hi] at hQ
    rw [if_neg (fun x => by rw [e.mp x] at hi; cases hi)]
    obtain ⟨hk3, hk31, rfl⟩ := ix_some hi
    dsimp only at hQ
    simp only [rX12_book_11, rX12_book_14, rX12_book_15, g, up2_eq, va_rf, eq_self, or_true, true_or, Option.toList_some, Option.toList_none, List.cons_append, List.nil_append, if_true, if_false]
    rw [rX12_book_16 hM.1, k_areSuch hM h.2.1.2.1 d2 d1 (by omega) (by omega)]
    cases hfit : fitB (T.2.1 3 24) (T.1 4 24) kd with
    | false =>
      rw [hfit] at hQ
      simp only [Bool.false_eq_true, rX12_book_19, rX12_book_22, rX12_book_24, up2_eq, va_rf, eq_self, or_true, true_or, Option.toList_some, Option.toList_none, List.cons_append, List.nil_append, if_true, if_false]
      exact hQ _ _ h0 fr0
    | true =>
      rw [hfit] at hQ
      simp only [up2_eq, va_rf, eq_self, or_true, true_or, Option.toList_some, Option.toList_none, List.cons_append, List.nil_append, if_true, if_false] at hQ
      simp only [rX12_book_19, rX12_book_25, rX12_book_26, rX12_book_29, g, hM.1, e05, up2_eq, va_rf, eq_self, or_true, true_or, Option.toList_some, Option.toList_none, List.cons_append, List.nil_append, if_true, if_false]
      by_cases c4 : 24 ≤ T.1 2 0
      · rw [if_pos c4] at hQ
        have e24 : T.1 2 0 = 24 := by omega
        rw [e24]
        simp only [rX12_book_31, rX12_book_34, rX12_book_36, up2_eq, va_rf, eq_self, or_true, true_or, Option.toList_some, Option.toList_none, List.cons_append, List.nil_append, if_true, if_false]
        exact hQ _ _ h0 fr0
      · rw [if_neg c4] at hQ
        have g2 : ¬ nI (T.1 2 0) = nI 24 := by rw [nI_eq (by omega) (by omega)]; omega
        have h1 : MS (up2 F 1200 y (nI 0)) (up2 A (y + 3) 24 (nI kd)) y T := by
          obtain ⟨a1, a2, a3, a4, a5, a6⟩ := h0
          obtain ⟨b1, b2, b3, b4, b5⟩ := a2
          refine ⟨mTO_cong a1 rfl rfl (up2_row (by omega)) (up2_row (by omega)), ⟨b1, mB1_cong b2 (up2_k (by omega)) (fun _ _ => up2_k (by omega)) (fun _ _ => up2_k (by omega)), fun b hb => ?_, fun b g1 g2 => mBV_cong (b4 b g1 g2) (fun k k1 k2 => by rw [up2_row (by omega)]), by rw [up2_row (by omega)]; exact b5⟩, mPk_cong a3 (fun _ _ => rfl) (fun k k1 k2 => up2_row (by omega)), mSm_cong a4 rfl (up2_row (by omega)) (up2_row (by omega)), mGa_cong a5 (fun _ _ _ => rfl) (up2_row (by omega)), mWi_cong a6 (fun _ _ => rfl) (fun k k1 k2 => up2_row (by omega))⟩
          obtain ⟨c1, c2, c3⟩ := b3 b hb
          exact ⟨by rw [up2_a (by omega)]; exact c1, mB1_cong c2 (up2_k (by omega)) (fun _ _ => up2_k (by omega)) (fun _ _ => up2_k (by omega)), mBV_cong c3 (fun k k1 k2 => by rw [up2_row (by omega)])⟩
        have fr1 : frM y F A (up2 F 1200 y (nI 0)) (up2 A (y + 3) 24 (nI kd)) := frM_trans fr0 (frM_A (by decide) (by decide))
        simp only [rX12_book_31, rX12_book_37, rX12_book_38, rX12_book_41, rX12_book_43, g2, hM.1, r3, up2_eq, va_rf, eq_self, or_true, true_or, Option.toList_some, Option.toList_none, List.cons_append, List.nil_append, if_true, if_false]
        rw [rX12_book_44 s3 (by omega) (by omega)]
        simp only [rX12_book_45, rX12_book_46, rX12_book_49, hM.1, r4, up2_eq, va_rf, eq_self, or_true, true_or, Option.toList_some, Option.toList_none, List.cons_append, List.nil_append, if_true, if_false]
        rw [rX12_book_51 s4 (by decide) (by omega) (by omega), up2_k (by omega), e4]
        by_cases c5 : T.1 4 24 = 0
        · have ed : bokT T kd = bokU (dr1 T) kd := rfl
          have hz : T.1 5 24 = 0 := by
            have := d2.2
            rw [c5] at this
            exact this.symm
          have e3 : nI (T.1 4 24) = nI 0 := by rw [c5]
          simp only [rX12_book_52, rX12_book_55, rX12_book_56, rX12_book_58, rX12_book_59, rX12_book_62, rX12_book_63, e3, hM.1, r1, up2_eq, va_rf, eq_self, or_true, true_or, Option.toList_some, Option.toList_none, List.cons_append, List.nil_append, if_true, if_false]
          rw [rX12_book_64 hM.1]
          refine k_addPiece (b := 24) (z := 240) (at_ := 0) (nn := 0) hM (by omega) h1.2.1.2.1 d2 (by omega) d1 (hM.s 1201 1 0 240 (by decide)) (by omega) (by omega) (by omega) (by omega) ?_
          intro A' f1 f2 f3 f4 f5 f6 f7
          rw [c5, Nat.add_zero] at f4
          rw [c5, hz, Nat.add_zero] at f5
          rw [c5] at f7
          have h2 := MS_dr1 h1 hT c5 f1 (fun j => f2 j (by omega)) f4 f5 f6 f7
          obtain ⟨q1, q2, q3, q4, q5, q6⟩ := dr1_ok hT
          have q7 : (dr1 T).1 5 24 = 0 := by unfold dr1; rw [if_pos c5]; exact hz
          have hb2 : ∀ b, b < (dr1 T).1 2 0 → (dr1 T).1 4 b ≤ 20 ∧ (dr1 T).1 5 b ≤ 320 := by
            intro b hb
            rw [q3] at hb
            unfold dr1
            rw [if_pos c5]
            dsimp only
            rw [up2_o (by omega), up2_o (by omega)]
            exact hbb b hb
          rw [ed] at hQ
          have h3 : A' (y + 3) 24 = nI kd := by rw [f1 _ (by omega) (by omega) (by omega), up2_eq]
          refine l_book (k := k + 6) hM h2 (by omega) q2 q1 (by omega) hb2 h3 ?_
          intro F2 A2 m1 m2
          rw [q3]
          exact hQ _ _ m1 (frM_trans fr1 (frM_trans ⟨fun _ _ _ => rfl, fun a g => f1 a (by omega) (by omega) (by omega)⟩ m2))
        · have ed : bokT T kd = bokU T kd := by unfold bokT bokU dr1; rw [if_neg c5]
          have e3 : ¬ nI (T.1 4 24) = nI 0 := nI_ne0 (by omega) (by omega)
          simp only [rX12_book_52, e3, up2_eq, va_rf, eq_self, or_true, true_or, Option.toList_some, Option.toList_none, List.cons_append, List.nil_append, if_true, if_false]
          rw [ed] at hQ
          refine l_book (k := k + 6) hM h1 (by omega) d1 d2 (by omega) hbb up2_eq ?_
          intro F2 A2 m1 m2
          exact hQ _ _ m1 (frM_trans fr1 m2)
end MBK
