/-! ===== the reference: send, tell ===== -/
theorem clr_eq {T : TT} : clrT T = (up2 T.1 0 0 0, T.2) := by
  have e : sTO T.1 0 (T.1 1 0) (T.1 30) (T.1 31) = up2 T.1 0 0 0 := by
    funext q i
    unfold sTO up1 up2
    by_cases h1 : q = 31
    · subst h1; simp
    by_cases h2 : q = 30
    · subst h2; simp
    rw [if_neg h1, if_neg h2]
    by_cases h3 : q = 1
    · subst h3
      by_cases h4 : i = 0
      · subst h4; simp
      · simp [h4]
    · rw [if_neg h3]
  unfold clrT
  rw [e]
theorem pu_clr {T : TT} {so b1 lm : Nat} {le : Int32} {L : Nat → Nat} : puT (clrT T) so b1 le lm L = clrT (puT T so b1 le lm L) := by
  rw [clr_eq, clr_eq]
  have e1 : (puT (up2 T.1 0 0 0, T.2) so b1 le lm L).1 = up2 (puT T so b1 le lm L).1 0 0 0 := by
    show up2 (up2 (up2 (up2 (up2 (up2 (up2 T.1 0 0 0) 8 0 (T.1 8 0 + 1)) 9 (T.1 8 0) so) 10 (T.1 8 0) b1) 11 (T.1 8 0) 1) 12 (T.1 8 0) lm) 21 (T.1 8 0) 0 = up2 (up2 (up2 (up2 (up2 (up2 (up2 T.1 8 0 (T.1 8 0 + 1)) 9 (T.1 8 0) so) 10 (T.1 8 0) b1) 11 (T.1 8 0) 1) 12 (T.1 8 0) lm) 21 (T.1 8 0) 0) 0 0 0
    rw [up2_sw (k := 0) (k' := 8) (by decide), up2_sw (k := 0) (k' := 9) (by decide), up2_sw (k := 0) (k' := 10) (by decide), up2_sw (k := 0) (k' := 11) (by decide), up2_sw (k := 0) (k' := 12) (by decide), up2_sw (k := 0) (k' := 21) (by decide)]
  exact Prod.ext e1 rfl
theorem bv_clr {T : TT} {b st hd go : Nat} {sn tg se : Int32} : bvT (clrT T) b st hd go sn tg se = clrT (bvT T b st hd go sn tg se) := by
  rw [clr_eq, clr_eq]
  have e1 : (bvT (up2 T.1 0 0 0, T.2) b st hd go sn tg se).1 = up2 (bvT T b st hd go sn tg se).1 0 0 0 := by
    show up2 (up2 (up2 (up2 T.1 0 0 0) 18 b st) 19 b hd) 20 b go = up2 (up2 (up2 (up2 T.1 18 b st) 19 b hd) 20 b go) 0 0 0
    rw [up2_sw (k := 0) (k' := 18) (by decide), up2_sw (k := 0) (k' := 19) (by decide), up2_sw (k := 0) (k' := 20) (by decide)]
  exact Prod.ext e1 rfl
section MSE
variable {k n u : Nat} {sh : hs_} {F F' : hF_} {R : hR_} {A A' : hF_} {B : hR_} {Q : Option Value → pm_H → Prop} {y : Nat} {T : TT} {b m : Nat}
theorem l_send {nm lm : Nat} {x1 x2 x3 : Value} (hM : isM sh R y) (hn : nm < 200) (hl : lm ≤ 120) (h19 : F 1219 y = nI nm) (h32 : F 1232 y = nI lm)
    (hQ : ∀ A' x4, (∀ a, a ≠ y + 21 → A' a = A a) → (∀ j, j < 120 * nm → A' (y + 21) j = A (y + 21) j) → (∀ j, j < lm → A' (y + 21) (120 * nm + j) = A (y + 22) j) → rw_ k mX12_send 121 [.ref y, x1, x2, x3, x4] [] (mkh n u sh F R A' B) Q) :
    ∀ d i A1, i + d = lm → (∀ a, a ≠ y + 21 → A1 a = A a) → (∀ j, j < 120 * nm → A1 (y + 21) j = A (y + 21) j) → (∀ j, j < i → A1 (y + 21) (120 * nm + j) = A (y + 22) j) → rw_ k mX12_send 84 [.ref y, x1, x2, x3, .int (nI i)] [] (mkh n u sh F R A1 B) Q := by
  have r22 := hM.r 1231 22 0 240 (by decide)
  have s22 := hM.s 1231 22 0 240 (by decide)
  have r21 := hM.r 1226 21 0 24000 (by decide)
  have s21 := hM.s 1226 21 0 24000 (by decide)
  intro d
  induction d with
  | zero =>
    intro i A1 hi f1 f2 f3
    have e : i = lm := by omega
    subst e
    have g1 : nI i ≤ nI i := nI_le (Nat.le_refl _) (by omega)
    simp only [rX12_send_84, rX12_send_86, rX12_send_87, rX12_send_90, hM.1, h32, g1, up2_eq, va_rf, eq_self, or_true, true_or, Option.toList_some, Option.toList_none, List.cons_append, List.nil_append, if_true, if_false]
    exact hQ A1 _ f1 f2 f3
  | succ d ih =>
    intro i A1 hi f1 f2 f3
    have g1 : ¬ nI lm ≤ nI i := nI_ge (by omega) (by omega)
    simp only [rX12_send_84, rX12_send_86, rX12_send_87, rX12_send_90, rX12_send_93, rX12_send_94, rX12_send_97, rX12_send_99, rX12_send_100, rX12_send_103, rX12_send_104, rX12_send_106, rX12_send_107, rX12_send_108, rX12_send_111, hM.1, h32, h19, g1, r21, r22, pk_mul, nI_add, up2_eq, va_rf, eq_self, or_true, true_or, Option.toList_some, Option.toList_none, List.cons_append, List.nil_append, if_true, if_false]
    rw [rX12_send_113 s22 (by decide) (by omega) (by omega)]
    rw [rX12_send_114 s21 (by omega) (by omega)]
    simp only [rX12_send_115, rX12_send_118, nI_add]
    refine ih (i + 1) _ (by omega) (fun a ha => by rw [up2_row ha]; exact f1 a ha) (fun j hj => by rw [up2_a (by omega)]; exact f2 j hj) (fun j hj => ?_)
    by_cases e : j = i
    · subst e; rw [up2_eq, f1 _ (by omega)]
    · rw [up2_a (by omega)]; exact f3 j (by omega)
theorem m_send {i : Int32} (hM : isM sh R y) (h : MS F A y T) (hT : okT T) (hQ : mPost n u sh F R A B y (s_send T i) Q) : rc_ (k + 8) mX12_send [.ref y, .int i] (mkh n u sh F R A B) Q := by
  have h0 := MS_th (v := nI 0) h hT
  have hc := MS_clr h0 hT
  have hTc := okT_clr hT
  have t0 := hT.1.1
  have h24 := hT.2.2.2.1.1
  have h200 := hT.2.2.2.2.2.2.1.1
  have e02 : up2 F 1200 y (nI 0) 1202 y = nI (T.1 0 0) := h0.1.1.1
  have frc : frM y F A (up2 (up2 F 1200 y (nI 0)) 1202 y (nI 0)) A := frM_trans (frM_F (by decide)) (frM_F (by decide))
  have r7 := hM.r 1210 7 0 24 (by decide)
  have s7 := hM.s 1210 7 0 24 (by decide)
  have r11 := hM.r 1214 11 0 25 (by decide)
  have s11 := hM.s 1214 11 0 25 (by decide)
  have r20 := hM.r 1225 20 0 200 (by decide)
  have s20 := hM.s 1225 20 0 200 (by decide)
  have g : ¬ nI 1 = nI 0 := by decide
  rw [eX12_send]
  simp only [rX12_send_0, rX12_send_1, rX12_send_2, rX12_send_5, hM.1, up2_eq, va_rf, eq_self, or_true, true_or, Option.toList_some, Option.toList_none, List.cons_append, List.nil_append, if_true, if_false]
  rw [rX12_send_6 hM.1]
  unfold s_send at hQ
  refine k_takeTape hM e02 t0 (fun c => ?_) (fun c A1 f1 f2 => ?_)
  · simp only [rX12_send_9, rX12_send_10, rX12_send_11, up2_eq, va_rf, eq_self, or_true, true_or, Option.toList_some, Option.toList_none, List.cons_append, List.nil_append, if_true, if_false]
    rw [rX12_send_12 hM.1, k_isBookOr hM hc.2.1.1 h24]
    have hq : mPost n u sh F R A B y (-3, clrT T) Q := by
      cases hi : bx i (T.1 2 0) with
      | none => rw [hi] at hQ; exact hQ
      | some b => rw [hi] at hQ; dsimp only at hQ; rw [if_pos c] at hQ; exact hQ
    have hq2 := hq _ _ hc frc
    have e05 : bx i ((clrT T).1 2 0) = bx i (T.1 2 0) := rfl
    rw [e05]
    cases hi : bx i (T.1 2 0) with
    | none =>
      rw [if_pos rfl]
      simp only [rX12_send_15, rX12_send_22, rX12_send_24, up2_eq, va_rf, eq_self, or_true, true_or, Option.toList_some, Option.toList_none, List.cons_append, List.nil_append, if_true, if_false]
      exact hq2
    | some b =>
      rw [if_neg (by simp)]
      simp only [rX12_send_15, rX12_send_18, rX12_send_19, rX12_send_22, rX12_send_24, g, up2_eq, va_rf, eq_self, or_true, true_or, Option.toList_some, Option.toList_none, List.cons_append, List.nil_append, if_true, if_false]
      exact hq2
  · have hs : MS (up2 (up2 (up2 F 1200 y (nI 0)) 1202 y (nI 0)) 1232 y (nI (T.1 0 0))) A1 y (clrT T) := MS_scr hc hTc (fun q hq => up2_k (by omega)) (fun k k1 k2 k3 => f1 _ (by omega)) (fun j _ => by rw [f1 _ (by omega)]) (fun j _ => by rw [f1 _ (by omega)]) (fun j _ => by rw [f1 _ (by omega)]) (fun j _ => by rw [f1 _ (by omega)])
    have frs : frM y F A (up2 (up2 (up2 F 1200 y (nI 0)) 1202 y (nI 0)) 1232 y (nI (T.1 0 0))) A1 := frM_trans frc ⟨fun q a g => up2_o (by omega), fun a g => f1 _ (by omega)⟩
    have e32 : up2 (up2 (up2 F 1200 y (nI 0)) 1202 y (nI 0)) 1232 y (nI (T.1 0 0)) 1232 y = nI (T.1 0 0) := up2_eq
    generalize up2 (up2 (up2 F 1200 y (nI 0)) 1202 y (nI 0)) 1232 y (nI (T.1 0 0)) = F1 at hs frs e32 ⊢
    obtain ⟨a1, a2, a3, a4, a5, a6⟩ := id hs
    simp only [rX12_send_9, rX12_send_10, rX12_send_11, up2_eq, va_rf, eq_self, or_true, true_or, Option.toList_some, Option.toList_none, List.cons_append, List.nil_append, if_true, if_false]
    rw [rX12_send_12 hM.1, k_isBookOr hM a2.1 h24]
    have e05 : bx i ((clrT T).1 2 0) = bx i (T.1 2 0) := rfl
    rw [e05]
    cases hi : bx i (T.1 2 0) with
    | none =>
      rw [hi] at hQ
      rw [if_pos rfl]
      simp only [rX12_send_15, rX12_send_22, rX12_send_24, up2_eq, va_rf, eq_self, or_true, true_or, Option.toList_some, Option.toList_none, List.cons_append, List.nil_append, if_true, if_false]
      exact hQ _ _ hs frs
    | some b =>
      rw [hi] at hQ
      dsimp only at hQ
      rw [if_neg (by omega)] at hQ
      rw [if_neg (by simp)]
      have hb := bx_some hi
      have hb2 : b < 24 ∨ b = 25 := by rcases hb with hb | hb <;> omega
      have h18 := (hT.2.2.2.1.2.1 b hb).2.1
      have e19 : F1 1219 y = nI (T.1 8 0) := a6.1
      have ei : i = nm3 b := by
        unfold bx at hi
        split at hi
        · rename_i e; cases hi; rw [e]; rfl
        · obtain ⟨q1, q2, q3⟩ := ix_some hi
          rw [q3, nm3_lt (by omega)]
      simp only [rX12_send_15, rX12_send_18, rX12_send_19, rX12_send_25, rX12_send_26, rX12_send_27, g, up2_eq, va_rf, eq_self, or_true, true_or, Option.toList_some, Option.toList_none, List.cons_append, List.nil_append, if_true, if_false]
      -- the state is asked for, of a book
      have hst : ∀ K : Prop, (T.1 18 b ≠ 2 → mPost n u sh F R A B y (-4, clrT T) Q) → (T.1 18 b = 2 → rw_ (k + 8) mX12_send 43 [.ref y, .int i, .int (nI 1), .retAddr 0, .retAddr 0] [] (mkh n u sh F1 R A1 B) Q) → (if i = -1 then rw_ (k + 8) mX12_send 43 [.ref y, .int i, .int (nI 1), .retAddr 0, .retAddr 0] [] (mkh n u sh F1 R A1 B) Q else rw_ (k + 8) mX12_send 30 [.ref y, .int i, .int (nI 1), .retAddr 0, .retAddr 0] [] (mkh n u sh F1 R A1 B) Q) := by
        intro _ q1 q2
        by_cases e25 : b = 25
        · have : i = -1 := by rw [ei, e25]; rfl
          rw [if_pos this]
          apply q2
          rw [e25]
          exact hT.2.2.2.1.2.2.2.2.2.1
        · have hlt : b < 24 := by omega
          have hbn : b < T.1 2 0 := by rcases hb with hb | hb <;> omega
          have g0 : ¬ i = -1 := fun e => by
            rw [ei, nm3_lt hlt] at e
            have h1 := nI_toInt (n := b) (by omega)
            rw [e] at h1
            have h2 : (-1 : Int32).toInt = -1 := by decide
            omega
          have v1 : A1 (y + 7) b = nI (T.1 18 b) := (a2.2.2.1 b hbn).2.2.1
          rw [if_neg g0]
          simp only [rX12_send_30, rX12_send_31, rX12_send_34, hM.1, r7, up2_eq, va_rf, eq_self, or_true, true_or, Option.toList_some, Option.toList_none, List.cons_append, List.nil_append, if_true, if_false]
          rw [ei, nm3_lt hlt, rX12_send_35 s7 (by decide) (by omega) (by omega), v1, ← nm3_lt hlt, ← ei]
          by_cases c2 : T.1 18 b = 2
          · rw [c2]
            simp only [rX12_send_36, rX12_send_37, up2_eq, va_rf, eq_self, or_true, true_or, Option.toList_some, Option.toList_none, List.cons_append, List.nil_append, if_true, if_false]
            exact q2 c2
          · have g2 : ¬ nI (T.1 18 b) = nI 2 := by rw [nI_eq (by omega) (by omega)]; exact c2
            simp only [rX12_send_36, rX12_send_37, rX12_send_40, rX12_send_42, g2, up2_eq, va_rf, eq_self, or_true, true_or, Option.toList_some, Option.toList_none, List.cons_append, List.nil_append, if_true, if_false]
            exact q1 c2 _ _ hs frs
      refine hst True (fun c2 => by rw [if_pos c2] at hQ; exact hQ) (fun c2 => ?_)
      rw [if_neg (fun e => e c2)] at hQ
      simp only [rX12_send_43, rX12_send_44, rX12_send_47, rX12_send_50, hM.1, e19, up2_eq, va_rf, eq_self, or_true, true_or, Option.toList_some, Option.toList_none, List.cons_append, List.nil_append, if_true, if_false]
      by_cases c3 : 200 ≤ T.1 8 0
      · rw [if_pos c3] at hQ
        have e3 : T.1 8 0 = 200 := by omega
        rw [e3]
        simp only [rX12_send_53, rX12_send_55, up2_eq, va_rf, eq_self, or_true, true_or, Option.toList_some, Option.toList_none, List.cons_append, List.nil_append, if_true, if_false]
        exact hQ _ _ hs frs
      rw [if_neg c3] at hQ
      have g3 : ¬ nI (T.1 8 0) = nI 200 := by rw [nI_eq (by omega) (by omega)]; omega
      obtain ⟨ct, hct, hct25, hct2⟩ : ∃ ct, A1 (y + 11) ct = T.2.2 2 b ∧ ct < 25 ∧ (if b = 25 then ct = 24 else ct = b) := by
        by_cases e25 : b = 25
        · refine ⟨24, ?_, by omega, by rw [if_pos e25]⟩
          rw [e25]; exact a2.2.2.2.2
        · have hbn : b < T.1 2 0 := by rcases hb with hb | hb <;> omega
          exact ⟨b, (a2.2.2.1 b hbn).2.2.2.2.2.2.1, by omega, by rw [if_neg e25]⟩
      have h67 : rw_ (k + 8) mX12_send 56 [.ref y, .int i, .int (nI 1), .retAddr 0, .retAddr 0] [] (mkh n u sh F1 R A1 B) Q ↔ rw_ (k + 8) mX12_send 68 [.ref y, .int i, .int (nI 1), .int (nI ct), .retAddr 0] [] (mkh n u sh F1 R A1 B) Q := by
        by_cases e25 : b = 25
        · have : i = -1 := by rw [ei, e25]; rfl
          rw [if_pos e25] at hct2
          simp only [rX12_send_56, rX12_send_57, rX12_send_58, rX12_send_61, rX12_send_63, rX12_send_67, this, hct2, up2_eq, va_rf, eq_self, or_true, true_or, Option.toList_some, Option.toList_none, List.cons_append, List.nil_append, if_true, if_false]
        · have hlt : b < 24 := by omega
          rw [if_neg e25] at hct2
          have g0 : ¬ i = -1 := fun e => by
            rw [ei, nm3_lt hlt] at e
            have h1 := nI_toInt (n := b) (by omega)
            rw [e] at h1
            have h2 : (-1 : Int32).toInt = -1 := by decide
            omega
          simp only [rX12_send_56, rX12_send_57, rX12_send_58, rX12_send_66, rX12_send_67, g0, up2_eq, va_rf, eq_self, or_true, true_or, Option.toList_some, Option.toList_none, List.cons_append, List.nil_append, if_true, if_false]
          rw [hct2, ← nm3_lt hlt, ← ei]
      rw [if_neg g3, h67]
      simp only [rX12_send_68, rX12_send_69, rX12_send_72, rX12_send_73, rX12_send_76, rX12_send_77, hM.1, r20, e19, e32, up2_eq, va_rf, eq_self, or_true, true_or, Option.toList_some, Option.toList_none, List.cons_append, List.nil_append, if_true, if_false]
      rw [rX12_send_80 s20 (by omega) (by omega)]
      simp only [rX12_send_81, rX12_send_82, up2_eq, va_rf, eq_self, or_true, true_or, Option.toList_some, Option.toList_none, List.cons_append, List.nil_append, if_true, if_false]
      refine l_send (nm := T.1 8 0) (lm := T.1 0 0) hM (by omega) c e19 e32 ?_ (T.1 0 0) 0 _ (by omega) (fun _ _ => rfl) (fun _ _ => rfl) (fun j hj => absurd hj (Nat.not_lt_zero _))
      intro A2 x4 p1 p2 p3
      have hct' : A2 (y + 11) ct = T.2.2 2 b := by rw [p1 _ (by omega), up2_row (by omega)]; exact hct
      simp only [rX12_send_121, rX12_send_122, rX12_send_123, rX12_send_124, rX12_send_125, rX12_send_128, hM.1, r11, up2_eq, va_rf, eq_self, or_true, true_or, Option.toList_some, Option.toList_none, List.cons_append, List.nil_append, if_true, if_false]
      rw [rX12_send_129 s11 (by decide) hct25 (by omega), hct']
      rw [rX12_send_130 hM.1]
      refine k_sendMessage (so := 3) hM e19 (by omega) (by decide) (fun A3 q1 q2 q3 => ?_)
      have hA3 : ∀ k, 1 ≤ k → k ≤ 38 → ¬ (15 ≤ k ∧ k ≤ 21) → A3 (y + k) = A1 (y + k) := fun k k1 k2 k3 => by rw [q1 _ (by omega), p1 _ (by omega), up2_row (by omega)]
      have hpu : MS (up2 F1 1219 y (nI (T.1 8 0 + 1))) A3 y (puT (clrT T) 3 (b5 b) (T.2.2 2 b) (T.1 0 0) (T.1 30)) := by
        refine MS_pu hs hTc hb (fun q _ h2 => up2_k h2) up2_eq hA3 (fun k k1 k2 j hj => ?_) (fun j hj => ?_) (by rw [← ei]; exact q3) (fun _ => ⟨?_, fun j hj => ?_⟩)
        · have hj' : j ≠ T.1 8 0 := hj
          by_cases e20 : k = 20
          · subst e20; rw [q1 _ (by omega), p1 _ (by omega), up2_a hj']
          · rw [q2 k k1 (by omega) j hj', p1 _ (by omega), up2_row (by omega)]
        · have hj' : j < 120 * T.1 8 0 := hj
          rw [q1 _ (by omega), p2 j hj', up2_row (by omega)]
        · show A3 (y + 20) (T.1 8 0) = nI (T.1 0 0)
          rw [q1 _ (by omega), p1 _ (by omega), up2_eq]
        · show A3 (y + 21) (120 * T.1 8 0 + j) = nI (T.1 30 j)
          rw [q1 _ (by omega), p3 j hj, up2_row (by omega), f2 j hj]
          exact h0.1.1.2 j hj
      have hct3 : A3 (y + 11) ct = T.2.2 2 b := by rw [hA3 11 (by decide) (by decide) (by decide)]; exact hct
      simp only [rX12_send_133, rX12_send_134, rX12_send_137, rX12_send_138, hM.1, r11, up2_eq, va_rf, eq_self, or_true, true_or, Option.toList_some, Option.toList_none, List.cons_append, List.nil_append, if_true, if_false]
      rw [rX12_send_139 s11 (by decide) hct25 (by omega), hct3]
      simp only [rX12_send_140, rX12_send_141, up2_eq, va_rf, eq_self, or_true, true_or, Option.toList_some, Option.toList_none, List.cons_append, List.nil_append, if_true, if_false]
      rw [rX12_send_142 s11 hct25 (by omega)]
      simp only [rX12_send_143, rX12_send_144, rX12_send_147, hM.1, up2_eq, va_rf, eq_self, or_true, true_or, Option.toList_some, Option.toList_none, List.cons_append, List.nil_append, if_true, if_false]
      have hfin : MS (up2 F1 1219 y (nI (T.1 8 0 + 1))) (up2 A3 (y + 11) ct (T.2.2 2 b + nI 1)) y (clrT (sndT T b)) := by
        unfold sndT
        rw [← bv_clr, ← pu_clr]
        by_cases e25 : b = 25
        · rw [if_pos e25] at hct2
          subst e25 hct2
          exact MS_b25 hpu (by show T.1 2 0 ≤ 24; exact h24) (fun _ _ => rfl) (fun k k1 k2 k3 => up2_row (by omega)) (fun j hj => up2_a hj) up2_eq
        · rw [if_neg e25] at hct2
          rw [hct2]
          have hbn : b < T.1 2 0 := by rcases hb with hb | hb <;> omega
          obtain ⟨v1, v2, v3, v4, v5, v6⟩ := (hpu.2.1.2.2.1 b hbn).2.2
          exact MS_bv hpu (by show T.1 2 0 ≤ 24; exact h24) hbn (fun _ _ => rfl) (fun k k1 k2 k3 => up2_row (by omega)) (fun k k1 k2 j hj => up2_a hj) ⟨by rw [up2_k (by omega)]; exact v1, by rw [up2_k (by omega)]; exact v2, by rw [up2_k (by omega)]; exact v3, by rw [up2_k (by omega)]; exact v4, up2_eq, by rw [up2_k (by omega)]; exact v6⟩
      refine hQ _ _ hfin (frM_trans frs (frM_trans ⟨fun q a g => up2_o (by omega), fun a g => ?_⟩ (frM_A (k := 11) (by decide) (by decide))))
      rw [q1 _ (by omega), p1 _ (by omega), up2_row (by omega)]
end MSE
