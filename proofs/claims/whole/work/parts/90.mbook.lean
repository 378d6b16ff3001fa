/-! ===== the reference: book, tell ===== -/
section MBO
variable {k n u : Nat} {sh : hs_} {F F' : hF_} {R : hR_} {A A' : hF_} {B : hR_} {Q : Option Value → pm_H → Prop} {y : Nat} {T : TT} {b c s : Nat} {E f : Nat → Nat}
theorem l_tell {q : Nat} (hM : isM sh R y) (hb : b < 26) (h : mB1 A y b c s E f) (hE : okE E c s) (hc : c ≤ 20) (hs : s ≤ 4000) (hq : q < c) (hl : E q - pst E q ≤ 400)
    (hQ : ∀ F' A', (∀ w, w ≠ 1204 → F' w y = F w y) → (∀ w a, a ≠ y → F' w a = F w a) → F' 1204 y = nI (E q - pst E q) → (∀ a, a ≠ y + 2 → A' a = A a) → (∀ j, j < E q - pst E q → A' (y + 2) j = nI (f (pst E q + j))) → Q (some (.int (nI (E q - pst E q)))) (mkh n u sh F' R A' B)) :
    ∀ d i F1 A1, i + d = E q - pst E q → (∀ w, w ≠ 1204 → F1 w y = F w y) → (∀ w a, a ≠ y → F1 w a = F w a) → F1 1204 y = nI i → (∀ a, a ≠ y + 2 → A1 a = A a) → (∀ j, j < i → A1 (y + 2) j = nI (f (pst E q + j))) → rw_ (k + 1) mX12_tell 44 [.ref y, .int (nI b), .int (nI q), .int (nI (pst E q + i))] [] (mkh n u sh F1 R A1 B) Q := by
  have r2 := hM.r 1203 2 0 400 (by decide)
  have s2 := hM.s 1203 2 0 400 (by decide)
  have r6 := hM.r 1209 6 0 104000 (by decide)
  have s6 := hM.s 1209 6 0 104000 (by decide)
  have hEq := hE.E_le hq
  have hst := hE.1 q hq
  intro d
  induction d with
  | zero =>
    intro i F1 A1 hi f1 f1' f2 f3 f4
    have e : i = E q - pst E q := by omega
    have h1 : mB1 A1 y b c s E f := mB1_cong h (by rw [f3 _ (by omega)]) (fun _ _ => by rw [f3 _ (by omega)]) (fun _ _ => by rw [f3 _ (by omega)])
    subst e
    have g1 : nI (E q) ≤ nI (pst E q + (E q - pst E q)) := nI_le (by omega) (by omega)
    simp only [rX12_tell_44, rX12_tell_45, rX12_tell_46, rX12_tell_47, up2_eq, va_rf, eq_self, or_true, true_or, Option.toList_some, Option.toList_none, List.cons_append, List.nil_append, if_true, if_false]
    rw [rX12_tell_48 hM.1, k_end12 hM hb h1 hc hq]
    simp only [rX12_tell_51, rX12_tell_91, rX12_tell_92, rX12_tell_95, g1, hM.1, f2, up2_eq, va_rf, eq_self, or_true, true_or, Option.toList_some, Option.toList_none, List.cons_append, List.nil_append, if_true, if_false]
    exact hQ F1 A1 f1 f1' f2 f3 f4
  | succ d ih =>
    intro i F1 A1 hi f1 f1' f2 f3 f4
    have h1 : mB1 A1 y b c s E f := mB1_cong h (by rw [f3 _ (by omega)]) (fun _ _ => by rw [f3 _ (by omega)]) (fun _ _ => by rw [f3 _ (by omega)])
    have g1 : ¬ nI (E q) ≤ nI (pst E q + i) := nI_ge (by omega) (by omega)
    simp only [rX12_tell_44, rX12_tell_45, rX12_tell_46, rX12_tell_47, up2_eq, va_rf, eq_self, or_true, true_or, Option.toList_some, Option.toList_none, List.cons_append, List.nil_append, if_true, if_false]
    rw [rX12_tell_48 hM.1, k_end12 hM hb h1 hc hq]
    simp only [rX12_tell_51, rX12_tell_54, rX12_tell_55, rX12_tell_58, rX12_tell_59, rX12_tell_62, rX12_tell_63, rX12_tell_66, rX12_tell_69, rX12_tell_70, rX12_tell_71, rX12_tell_72, g1, hM.1, f2, r2, r6, pk_mul, nI_add, up2_eq, va_rf, eq_self, or_true, true_or, Option.toList_some, Option.toList_none, List.cons_append, List.nil_append, if_true, if_false]
    rw [rX12_tell_73 s6 (by decide) (by omega) (by omega), show 4000 * b + (pst E q + i) = 4000 * b + (pst E q + i) from rfl, h1.2.2 _ (by omega)]
    rw [rX12_tell_74 s2 (by omega) (by omega)]
    simp only [rX12_tell_75, rX12_tell_76, rX12_tell_77, rX12_tell_80, rX12_tell_81, rX12_tell_82, rX12_tell_85, rX12_tell_88, hM.1, f2, nI_add, up2_eq, va_rf, eq_self, or_true, true_or, Option.toList_some, Option.toList_none, List.cons_append, List.nil_append, if_true, if_false]
    refine ih (i + 1) _ _ (by omega) (fun w hw => by rw [up2_k hw]; exact f1 w hw) (fun w a ha => by rw [up2_a ha]; exact f1' w a ha) up2_eq (fun a ha => by rw [up2_row ha]; exact f3 a ha) (fun j hj => ?_)
    by_cases e : j = i
    · subst e; rw [up2_eq]
    · rw [up2_a e]; exact f4 j (by omega)
theorem m_tell {i w : Int32} (hM : isM sh R y) (h : MS F A y T) (hT : okT T) (hQ : mPost n u sh F R A B y (s_tell T i w) Q) : rc_ (k + 8) mX12_tell [.ref y, .int i, .int w] (mkh n u sh F R A B) Q := by
  have h0 := MS_th (v := nI 0) h hT
  obtain ⟨a1, a2, a3, a4, a5, a6⟩ := id h0
  have h24 := hT.2.2.2.1.1
  have g : ¬ nI 1 = nI 0 := by decide
  rw [eX12_tell]
  simp only [rX12_tell_0, rX12_tell_1, rX12_tell_2, rX12_tell_5, rX12_tell_6, hM.1, up2_eq, va_rf, eq_self, or_true, true_or, Option.toList_some, Option.toList_none, List.cons_append, List.nil_append, if_true, if_false]
  rw [rX12_tell_7 hM.1, k_isBook hM a2.1 h24]
  unfold s_tell at hQ
  cases hi : ix i (T.1 2 0) with
  | none =>
    rw [hi] at hQ
    rw [if_pos rfl]
    simp only [rX12_tell_10, rX12_tell_29, rX12_tell_31, up2_eq, va_rf, eq_self, or_true, true_or, Option.toList_some, Option.toList_none, List.cons_append, List.nil_append, if_true, if_false]
    exact hQ _ _ h0 (frM_F (by decide))
  | some b =>
    rw [hi] at hQ
    obtain ⟨hb, -, rfl⟩ := ix_some hi
    obtain ⟨b1, b2, v⟩ := a2.2.2.1 b hb
    obtain ⟨k1, k2, k3, k4, k5, k6, k7⟩ := (hT.2.2.2.1.2.1 b (Or.inl hb)).1
    dsimp only at hQ
    rw [if_neg (by simp)]
    simp only [rX12_tell_10, rX12_tell_13, rX12_tell_14, rX12_tell_15, rX12_tell_16, rX12_tell_19, g, hM.1, hM.r 1207 4 0 26 (by decide), up2_eq, va_rf, eq_self, or_true, true_or, Option.toList_some, Option.toList_none, List.cons_append, List.nil_append, if_true, if_false]
    rw [rX12_tell_20 (hM.s 1207 4 0 26 (by decide)) (by decide) (by omega) (by omega), b2.1]
    simp only [rX12_tell_21, rX12_tell_22, up2_eq, va_rf, eq_self, or_true, true_or, Option.toList_some, Option.toList_none, List.cons_append, List.nil_append, if_true, if_false]
    rw [rX12_tell_23, k_in]
    have e := in_ix (v := w) (n := T.1 4 b) (by omega)
    cases hw : ix w (T.1 4 b) with
    | none =>
      rw [hw] at hQ
      rw [if_pos (e.mpr hw)]
      simp only [rX12_tell_26, rX12_tell_29, rX12_tell_31, up2_eq, va_rf, eq_self, or_true, true_or, Option.toList_some, Option.toList_none, List.cons_append, List.nil_append, if_true, if_false]
      exact hQ _ _ h0 (frM_F (by decide))
    | some q =>
      rw [hw] at hQ
      obtain ⟨hq, hq31, rfl⟩ := ix_some hw
      dsimp only at hQ
      rw [if_neg (fun q => by have := e.mp q; rw [hw] at this; cases this)]
      have hl := k6 q hq
      simp only [rX12_tell_26, rX12_tell_32, rX12_tell_33, rX12_tell_34, rX12_tell_37, rX12_tell_38, rX12_tell_39, g, hM.1, up2_eq, va_rf, eq_self, or_true, true_or, Option.toList_some, Option.toList_none, List.cons_append, List.nil_append, if_true, if_false]
      rw [rX12_tell_40 hM.1, k_begin12 hM (by omega) b2 k2 (by omega)]
      simp only [rX12_tell_43, up2_eq, va_rf, eq_self, or_true, true_or, Option.toList_some, Option.toList_none, List.cons_append, List.nil_append, if_true, if_false]
      have hstart := l_tell (k := k + 7) (n := n) (u := u) (B := B) (Q := Q) (F := up2 (up2 F 1200 y (nI 0)) 1204 y (nI 0)) (q := q) hM (by omega) b2 k1 k2 (by omega) hq (by omega) ?_ (T.2.1 3 b q - pst (T.2.1 3 b) q) 0 (up2 (up2 F 1200 y (nI 0)) 1204 y (nI 0)) A (by omega) (fun _ _ => rfl) (fun _ _ _ => rfl) up2_eq (fun _ _ => rfl) (fun j hj => absurd hj (Nat.not_lt_zero _))
      · rw [Nat.add_zero] at hstart
        exact hstart
      · intro F' A' f1 f1' f2 f3 f4
        refine hQ _ _ (MS_TO h hT (fun w hw => by rw [f1 w (by omega), up2_k (by omega), up2_k (by omega)]) (fun k k1 k2 hk => f3 _ (by omega)) (by rw [f1 _ (by decide), up2_k (by decide)]; exact a1.1.1) (fun j hj => by rw [f3 _ (by omega)]; exact a1.1.2 j hj) f2 f4) ⟨fun w a g => ?_, fun a g => f3 a (by omega)⟩
        by_cases ha : a = y
        · subst ha
          rw [f1 w (by omega), up2_k (by omega), up2_k (by omega)]
        · rw [f1' w a ha, up2_a ha, up2_a ha]
end MBO
