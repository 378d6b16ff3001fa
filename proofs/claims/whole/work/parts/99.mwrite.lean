/-! ===== the reference: bits written ===== -/
/-- the row of bits stands for what is written -/
def isW12 (F : hF_) (A : hF_) (y : Nat) (st : wst) : Prop := F 1247 y = nI st.2 ∧ ∀ j, j < st.2 → A (y + 32) j = nI (b2 (st.1 j) 1)
def frW12 (y : Nat) (F : hF_) (A : hF_) (F' : hF_) (A' : hF_) : Prop := (∀ q a, ¬ (q = 1247 ∧ a = y) → F' q a = F q a) ∧ ∀ a, a ≠ y + 32 → A' a = A a
theorem frW12_refl {y : Nat} {F : hF_} {A : hF_} : frW12 y F A F A := ⟨fun _ _ _ => rfl, fun _ _ => rfl⟩
theorem frW12_trans {y : Nat} {F F1 F2 : hF_} {A A1 A2 : hF_} (h : frW12 y F A F1 A1) (h' : frW12 y F1 A1 F2 A2) : frW12 y F A F2 A2 := ⟨fun q a g => by rw [h'.1 q a g, h.1 q a g], fun a g => by rw [h'.2 a g, h.2 a g]⟩
theorem b2_dec {v : Nat} : b2 (decide (v % 2 = 1)) 1 = v % 2 := by
  unfold b2
  by_cases c : v % 2 = 1
  · rw [decide_eq_true c, c]; rfl
  · rw [decide_eq_false c, if_neg (by decide)]; omega
theorem wb_in12 {bt : Nat → Bool} {w a i nb : Nat} (hi : w ≤ i) : ∀ j, i < w + j → wb bt w a j nb i = decide (a / 2 ^ (nb - 1 - (i - w)) % 2 = 1)
  | 0, h => by omega
  | j + 1, h => by
    unfold wb
    by_cases e : i = w + j
    · subst e
      rw [sb_eq, show w + j - w = j by omega]
    · rw [sb_ne e, wb_in12 hi j (by omega)]
/-- a number's width in noughts and the number: what the class writes at once -/
theorem wS_g {st : wst} {a : Nat} (h : 0 < a) : wS (wS st 0 (wd a - 1)) a (wd a) = wS st a (gm a) := by
  obtain ⟨h1, h2, h3⟩ := wd_b h
  have hg : gm a = 2 * wd a - 1 := rfl
  refine Prod.ext (funext fun j => ?_) (by show st.2 + (wd a - 1) + wd a = st.2 + gm a; omega)
  show wb (wb st.1 st.2 0 (wd a - 1) (wd a - 1)) (st.2 + (wd a - 1)) a (wd a) (wd a) j = wb st.1 st.2 a (gm a) (gm a) j
  by_cases c1 : j < st.2
  · rw [wb_out _ _ (Or.inl (by omega)), wb_out _ _ (Or.inl c1), wb_out _ _ (Or.inl c1)]
  · by_cases c2 : j < st.2 + (wd a - 1)
    · rw [wb_out _ _ (Or.inl c2), wb_in12 (by omega) _ c2, wb_in12 (by omega) _ (by omega)]
      have h4 : a / 2 ^ (gm a - 1 - (j - st.2)) = 0 := Nat.div_eq_of_lt (Nat.lt_of_lt_of_le h2 (Nat.pow_le_pow_right (by omega) (by omega)))
      rw [h4, Nat.zero_div]
    · by_cases c3 : j < st.2 + (wd a - 1) + wd a
      · rw [wb_in12 (by omega) _ c3, wb_in12 (by omega) _ (by omega), show wd a - 1 - (j - (st.2 + (wd a - 1))) = gm a - 1 - (j - st.2) by omega]
      · rw [wb_out _ _ (Or.inr (by omega)), wb_out _ _ (Or.inr (by omega)), wb_out _ _ (Or.inr (by omega))]
section MWR
variable {k n u : Nat} {sh : hs_} {F F' : hF_} {R : hR_} {A A' : hF_} {B : hR_} {Q : Option Value → pm_H → Prop} {y : Nat} {st : wst}
theorem l_write12 {a nb : Nat} (hM : isM sh R y) (ha : a < 2 ^ 31) (hnb : nb ≤ 30) (hcap : st.2 + nb ≤ 2400)
    (hQ : ∀ F' A', frW12 y F A F' A' → isW12 F' A' y (wS st a nb) → Q none (mkh n u sh F' R A' B)) :
    ∀ r F1 A1, r ≤ nb → frW12 y F A F1 A1 → isW12 F1 A1 y (wb st.1 st.2 a (nb - r) nb, st.2 + (nb - r)) → rw_ k mX12_write 4 [.ref y, .int (nI a), .int (nI nb), .int (nI r + (-1))] [] (mkh n u sh F1 R A1 B) Q := by
  have r32 := hM.r 1246 32 0 2400 (by decide)
  have s32 := hM.s 1246 32 0 2400 (by decide)
  intro r
  induction r with
  | zero =>
    intro F1 A1 _ f1 f2
    have g0 : nI 0 + (-1) < nI 0 := by decide
    simp only [rX12_write_4, rX12_write_5, rX12_write_38, g0, up2_eq, va_rf, eq_self, or_true, true_or, Option.toList_some, Option.toList_none, List.cons_append, List.nil_append, if_true, if_false]
    exact hQ F1 A1 f1 f2
  | succ r ih =>
    intro F1 A1 hr f1 f2
    obtain ⟨b1, b2'⟩ := f2
    dsimp only at b1 b2'
    have g0 : ¬ nI r < nI 0 := nI_nlt (Nat.zero_le _) (by omega)
    have hd : a / 2 ^ r < 2 ^ 31 := Nat.lt_of_le_of_lt (Nat.div_le_self _ _) ha
    rw [nI_dec]
    simp only [rX12_write_4, rX12_write_5, rX12_write_8, rX12_write_9, rX12_write_12, rX12_write_13, rX12_write_16, rX12_write_17, rX12_write_18, rX12_write_19, rX12_write_20, g0, hM.1, r32, b1, nI_shr ha (show r < 31 by omega), nI_and1 hd, up2_eq, va_rf, eq_self, or_true, true_or, Option.toList_some, Option.toList_none, List.cons_append, List.nil_append, if_true, if_false]
    rw [rX12_write_21 s32 (by omega) (by omega)]
    simp only [rX12_write_22, rX12_write_23, rX12_write_24, rX12_write_27, rX12_write_28, rX12_write_29, rX12_write_32, rX12_write_35, hM.1, b1, nI_add, up2_eq, va_rf, eq_self, or_true, true_or, Option.toList_some, Option.toList_none, List.cons_append, List.nil_append, if_true, if_false]
    refine ih _ _ (by omega) ⟨fun q a g => by rw [up2_o g]; exact f1.1 q a g, fun a g => by rw [up2_row g]; exact f1.2 a g⟩ ⟨?_, fun j hj => ?_⟩
    · rw [up2_eq]
      dsimp only
      rw [show st.2 + (nb - (r + 1)) + 1 = st.2 + (nb - r) by omega]
    · dsimp only at hj ⊢
      rw [show nb - r = nb - (r + 1) + 1 by omega]
      unfold wb
      by_cases e : j = st.2 + (nb - (r + 1))
      · subst e
        rw [up2_eq, sb_eq, b2_dec, show nb - 1 - (nb - (r + 1)) = r by omega]
      · rw [up2_a e, sb_ne e]
        exact b2' j (by omega)
theorem k_write12 {a nb : Nat} (hM : isM sh R y) (h : isW12 F A y st) (ha : a < 2 ^ 31) (hnb : nb ≤ 30) (hcap : st.2 + nb ≤ 2400)
    (hQ : ∀ F' A', frW12 y F A F' A' → isW12 F' A' y (wS st a nb) → Q none (mkh n u sh F' R A' B)) :
    rc_ k mX12_write [.ref y, .int (nI a), .int (nI nb)] (mkh n u sh F R A B) Q := by
  rw [eX12_write]
  simp only [rX12_write_0, rX12_write_1, rX12_write_2, rX12_write_3, nI_sm1]
  refine l_write12 hM ha hnb hcap hQ nb F A (Nat.le_refl _) frW12_refl ?_
  rw [Nat.sub_self]
  exact h
theorem k_writeG {a : Nat} (hM : isM sh R y) (h : isW12 F A y st) (h0 : 0 < a) (ha : a < 2 ^ 14) (hcap : st.2 + gm a ≤ 2400)
    (hQ : ∀ F' A', frW12 y F A F' A' → isW12 F' A' y (wS st a (gm a)) → Q none (mkh n u sh F' R A' B)) :
    rc_ (k + 1) mX12_writeG [.ref y, .int (nI a)] (mkh n u sh F R A B) Q := by
  have hw := wd_le 14 a ha
  have hw1 := (wd_b h0).2.2
  have hg : gm a = 2 * wd a - 1 := rfl
  rw [eX12_writeG]
  simp only [rX12_writeG_0, rX12_writeG_1, rX12_writeG_2]
  rw [rX12_writeG_3, k_bitsOf (by omega)]
  simp only [rX12_writeG_6, rX12_writeG_7, pk_sub hw1, up2_eq, va_rf, eq_self, or_true, true_or, Option.toList_some, Option.toList_none, List.cons_append, List.nil_append, if_true, if_false]
  rw [rX12_writeG_8 hM.1]
  refine k_write12 (a := 0) hM h (by omega) (by omega) (by omega) ?_
  intro F1 A1 f1 w1
  simp only [rX12_writeG_11, rX12_writeG_12, rX12_writeG_13, up2_eq, va_rf, eq_self, or_true, true_or, Option.toList_some, Option.toList_none, List.cons_append, List.nil_append, if_true, if_false]
  rw [rX12_writeG_14, k_bitsOf (by omega)]
  simp only [up2_eq, va_rf, eq_self, or_true, true_or, Option.toList_some, Option.toList_none, List.cons_append, List.nil_append, if_true, if_false]
  rw [rX12_writeG_17 hM.1]
  refine k_write12 hM w1 (by omega) (by omega) (by show st.2 + (wd a - 1) + wd a ≤ 2400; omega) ?_
  intro F2 A2 f2 w2
  simp only [rX12_writeG_20, up2_eq, va_rf, eq_self, or_true, true_or, Option.toList_some, Option.toList_none, List.cons_append, List.nil_append, if_true, if_false]
  rw [wS_g h0] at w2
  exact hQ _ _ (frW12_trans f1 f2) w2
theorem l_wOwn {bl : Nat → Nat} {i nn m : Nat} {x1 : Value} (hM : isM sh R y) (hm : m ≤ 120) (hi : i + nn ≤ m) (hl : ∀ j, j < m → A (y + 22) j = nI (bl j) ∧ bl j < 256) (hcap : st.2 + 8 * nn ≤ 2400)
    (hQ : ∀ F' A' x4, frW12 y F A F' A' → isW12 F' A' y (pbS st bl i nn) → rw_ (k + 1) mX12_writePart 87 [.ref y, x1, .int (nI i), .int (nI nn), x4] [] (mkh n u sh F' R A' B) Q) :
    ∀ d j F1 A1, j + d = nn → frW12 y F A F1 A1 → isW12 F1 A1 y (pbS st bl i j) → rw_ (k + 1) mX12_writePart 60 [.ref y, x1, .int (nI i), .int (nI nn), .int (nI j)] [] (mkh n u sh F1 R A1 B) Q := by
  have r22 := hM.r 1231 22 0 240 (by decide)
  have s22 := hM.s 1231 22 0 240 (by decide)
  intro d
  induction d with
  | zero =>
    intro j F1 A1 hj f1 f2
    have e : j = nn := by omega
    subst e
    have g1 : nI j ≤ nI j := nI_le (Nat.le_refl _) (by omega)
    simp only [rX12_writePart_60, rX12_writePart_62, rX12_writePart_63, g1, up2_eq, va_rf, eq_self, or_true, true_or, Option.toList_some, Option.toList_none, List.cons_append, List.nil_append, if_true, if_false]
    exact hQ F1 A1 _ f1 f2
  | succ d ih =>
    intro j F1 A1 hj f1 f2
    have g1 : ¬ nI nn ≤ nI j := nI_ge (by omega) (by omega)
    obtain ⟨l1, l2⟩ := hl (i + j) (by omega)
    simp only [rX12_writePart_60, rX12_writePart_62, rX12_writePart_63, rX12_writePart_66, rX12_writePart_67, rX12_writePart_68, rX12_writePart_71, rX12_writePart_72, rX12_writePart_74, hM.1, g1, r22, nI_add, up2_eq, va_rf, eq_self, or_true, true_or, Option.toList_some, Option.toList_none, List.cons_append, List.nil_append, if_true, if_false]
    rw [rX12_writePart_75 s22 (by decide) (by omega) (by omega), f1.2 _ (by omega), l1]
    simp only [rX12_writePart_76, up2_eq, va_rf, eq_self, or_true, true_or, Option.toList_some, Option.toList_none, List.cons_append, List.nil_append, if_true, if_false]
    rw [rX12_writePart_78 hM.1]
    have e2 := pbS_2 (st := st) (bl := bl) (p := i) j
    refine k_write12 hM f2 (by omega) (by omega) (by omega) ?_
    intro F2 A2 f3 f4
    simp only [rX12_writePart_81, rX12_writePart_84, nI_add, up2_eq, va_rf, eq_self, or_true, true_or, Option.toList_some, Option.toList_none, List.cons_append, List.nil_append, if_true, if_false]
    exact ih (j + 1) F2 A2 (by omega) (frW12_trans f1 f3) f4
theorem k_writePart {bl : Nat → Nat} {i nn m kd p c s : Nat} {E f : Nat → Nat} {bi pl : Int32} {rk : Bool} (hM : isM sh R y) (h : isW12 F A y st) (hB : mBo A y bi c s E f rk) (hE : okE E c s) (hc : c ≤ 20) (hs : s ≤ 320) (hm : m ≤ 120) (hi : i + nn ≤ m) (hn : 1 ≤ nn) (hl : ∀ j, j < m → A (y + 22) j = nI (bl j) ∧ bl j < 256) (h25 : A (y + 25) i = nI kd) (h26 : A (y + 26) i = pl) (h27 : A (y + 27) i = nI nn) (hk : kd < 4) (hp : kd ≠ 0 → pl = nI p ∧ p < 2 ^ 13) (h3 : kd = 1 ∨ kd = 2 → 3 ≤ nn) (hcap : st.2 + ptW kd p nn i s ≤ 2400)
    (hQ : ∀ F' A', frW12 y F A F' A' → isW12 F' A' y (ptS st kd p nn i s bl) → Q none (mkh n u sh F' R A' B)) :
    rc_ (k + 2) mX12_writePart [.ref y, .int bi, .int (nI i)] (mkh n u sh F R A B) Q := by
  have r25 := hM.r 1235 25 0 241 (by decide)
  have s25 := hM.s 1235 25 0 241 (by decide)
  have r26 := hM.r 1236 26 0 241 (by decide)
  have s26 := hM.s 1236 26 0 241 (by decide)
  have r27 := hM.r 1237 27 0 241 (by decide)
  have s27 := hM.s 1237 27 0 241 (by decide)
  have hws := wd_le 9 s (by omega)
  have hwi := wd_le 9 i (by omega)
  rw [eX12_writePart]
  simp only [rX12_writePart_0, rX12_writePart_1, rX12_writePart_4, hM.1, r27, up2_eq, va_rf, eq_self, or_true, true_or, Option.toList_some, Option.toList_none, List.cons_append, List.nil_append, if_true, if_false]
  rw [rX12_writePart_5 s27 (by decide) (by omega) (by omega), h27]
  simp only [rX12_writePart_6, rX12_writePart_7, rX12_writePart_8, rX12_writePart_9, rX12_writePart_12, hM.1, r25, up2_eq, va_rf, eq_self, or_true, true_or, Option.toList_some, Option.toList_none, List.cons_append, List.nil_append, if_true, if_false]
  rw [rX12_writePart_13 s25 (by decide) (by omega) (by omega), h25]
  simp only [rX12_writePart_14, up2_eq, va_rf, eq_self, or_true, true_or, Option.toList_some, Option.toList_none, List.cons_append, List.nil_append, if_true, if_false]
  rw [rX12_writePart_15 hM.1]
  have hW : 2 ≤ ptW kd p nn i s := by unfold ptW; split; · omega
                                      split; · omega
                                      split <;> omega
  refine k_write12 hM h (by omega) (by omega) (by omega) ?_
  intro F1 A1 f1 w1
  have h25' : A1 (y + 25) i = nI kd := by rw [f1.2 _ (by omega)]; exact h25
  have h26' : A1 (y + 26) i = pl := by rw [f1.2 _ (by omega)]; exact h26
  have hB1 : mBo A1 y bi c s E f rk := mBo_cong hB (fun a x1 x2 => f1.2 _ (by omega))
  simp only [rX12_writePart_18, rX12_writePart_19, rX12_writePart_22, hM.1, r25, up2_eq, va_rf, eq_self, or_true, true_or, Option.toList_some, Option.toList_none, List.cons_append, List.nil_append, if_true, if_false]
  rw [rX12_writePart_23 s25 (by decide) (by omega) (by omega), h25']
  have hw2 : (wS st kd 2).2 = st.2 + 2 := rfl
  unfold ptS at hQ
  unfold ptW at hcap
  by_cases c0 : kd = 0
  · subst c0
    rw [if_pos rfl] at hQ hcap
    have hg := gm_120 (n := nn) (by omega)
    simp only [rX12_writePart_24, rX12_writePart_52, rX12_writePart_53, up2_eq, va_rf, eq_self, or_true, true_or, Option.toList_some, Option.toList_none, List.cons_append, List.nil_append, if_true, if_false]
    rw [rX12_writePart_54 hM.1]
    refine k_writeG (k := k) hM w1 (by omega) (by omega) (by omega) ?_
    intro F2 A2 f2 w2
    simp only [rX12_writePart_57, rX12_writePart_58, up2_eq, va_rf, eq_self, or_true, true_or, Option.toList_some, Option.toList_none, List.cons_append, List.nil_append, if_true, if_false]
    have hw3 : (wS (wS st 0 2) nn (gm nn)).2 = st.2 + 2 + gm nn := rfl
    refine l_wOwn (k := k + 1) (m := m) (A := A2) (F := F2) hM hm hi (fun j hj => by rw [f2.2 _ (by omega), f1.2 _ (by omega)]; exact hl j hj) (by omega) ?_ nn 0 F2 A2 (Nat.zero_add _) frW12_refl w2
    intro F3 A3 x4 f3 w3
    simp only [rX12_writePart_87, rX12_writePart_154, up2_eq, va_rf, eq_self, or_true, true_or, Option.toList_some, Option.toList_none, List.cons_append, List.nil_append, if_true, if_false]
    exact hQ _ _ (frW12_trans f1 (frW12_trans f2 f3)) w3
  · obtain ⟨hp1, hp2⟩ := hp c0
    have g0 : ¬ nI kd = nI 0 := nI_ne0 (by omega) (by omega)
    rw [if_neg c0] at hQ hcap
    by_cases c1 : kd = 1
    · subst c1
      rw [if_pos rfl] at hQ hcap
      have hn3 := h3 (Or.inl rfl)
      have hg := gm_120 (n := nn - 2) (by omega)
      simp only [rX12_writePart_24, rX12_writePart_90, rX12_writePart_91, rX12_writePart_92, rX12_writePart_95, g0, hM.1, r26, up2_eq, va_rf, eq_self, or_true, true_or, Option.toList_some, Option.toList_none, List.cons_append, List.nil_append, if_true, if_false]
      rw [rX12_writePart_96 s26 (by decide) (by omega) (by omega), h26', hp1]
      simp only [rX12_writePart_97, rX12_writePart_98, up2_eq, va_rf, eq_self, or_true, true_or, Option.toList_some, Option.toList_none, List.cons_append, List.nil_append, if_true, if_false]
      rw [rX12_writePart_99 hM.1, k_rowLongO hM hB1 hE hc]
      simp only [up2_eq, va_rf, eq_self, or_true, true_or, Option.toList_some, Option.toList_none, List.cons_append, List.nil_append, if_true, if_false]
      rw [rX12_writePart_102, k_bitsOf (by omega)]
      simp only [up2_eq, va_rf, eq_self, or_true, true_or, Option.toList_some, Option.toList_none, List.cons_append, List.nil_append, if_true, if_false]
      rw [rX12_writePart_105 hM.1]
      refine k_write12 hM w1 (by omega) (by omega) (by omega) ?_
      intro F2 A2 f2 w2
      have hw3 : (wS (wS st 1 2) p (wd s)).2 = st.2 + 2 + wd s := rfl
      simp only [rX12_writePart_108, rX12_writePart_109, rX12_writePart_110, rX12_writePart_111, pk_sub (show 2 ≤ nn by omega), up2_eq, va_rf, eq_self, or_true, true_or, Option.toList_some, Option.toList_none, List.cons_append, List.nil_append, if_true, if_false]
      rw [rX12_writePart_112 hM.1]
      refine k_writeG (k := k) hM w2 (by omega) (by omega) (by omega) ?_
      intro F3 A3 f3 w3
      simp only [rX12_writePart_115, rX12_writePart_154, up2_eq, va_rf, eq_self, or_true, true_or, Option.toList_some, Option.toList_none, List.cons_append, List.nil_append, if_true, if_false]
      exact hQ _ _ (frW12_trans f1 (frW12_trans f2 f3)) w3
    · have g1 : ¬ nI kd = nI 1 := by rw [nI_eq (by omega) (by omega)]; exact c1
      rw [if_neg c1] at hQ hcap
      by_cases c2 : kd = 2
      · subst c2
        rw [if_pos rfl] at hQ hcap
        have hn3 := h3 (Or.inr rfl)
        have hg := gm_120 (n := nn - 2) (by omega)
        simp only [rX12_writePart_24, rX12_writePart_118, rX12_writePart_119, rX12_writePart_120, rX12_writePart_123, g0, g1, hM.1, r26, up2_eq, va_rf, eq_self, or_true, true_or, Option.toList_some, Option.toList_none, List.cons_append, List.nil_append, if_true, if_false]
        rw [rX12_writePart_124 s26 (by decide) (by omega) (by omega), h26', hp1]
        simp only [rX12_writePart_125, up2_eq, va_rf, eq_self, or_true, true_or, Option.toList_some, Option.toList_none, List.cons_append, List.nil_append, if_true, if_false]
        rw [rX12_writePart_126, k_bitsOf (by omega)]
        simp only [up2_eq, va_rf, eq_self, or_true, true_or, Option.toList_some, Option.toList_none, List.cons_append, List.nil_append, if_true, if_false]
        rw [rX12_writePart_129 hM.1]
        refine k_write12 hM w1 (by omega) (by omega) (by omega) ?_
        intro F2 A2 f2 w2
        have hw3 : (wS (wS st 2 2) p (wd i)).2 = st.2 + 2 + wd i := rfl
        simp only [rX12_writePart_132, rX12_writePart_133, rX12_writePart_134, rX12_writePart_135, pk_sub (show 2 ≤ nn by omega), up2_eq, va_rf, eq_self, or_true, true_or, Option.toList_some, Option.toList_none, List.cons_append, List.nil_append, if_true, if_false]
        rw [rX12_writePart_136 hM.1]
        refine k_writeG (k := k) hM w2 (by omega) (by omega) (by omega) ?_
        intro F3 A3 f3 w3
        simp only [rX12_writePart_139, rX12_writePart_154, up2_eq, va_rf, eq_self, or_true, true_or, Option.toList_some, Option.toList_none, List.cons_append, List.nil_append, if_true, if_false]
        exact hQ _ _ (frW12_trans f1 (frW12_trans f2 f3)) w3
      · have g2 : ¬ nI kd = nI 2 := by rw [nI_eq (by omega) (by omega)]; exact c2
        rw [if_neg c2] at hQ hcap
        simp only [rX12_writePart_24, rX12_writePart_142, rX12_writePart_143, rX12_writePart_144, rX12_writePart_147, g0, g1, g2, hM.1, r26, up2_eq, va_rf, eq_self, or_true, true_or, Option.toList_some, Option.toList_none, List.cons_append, List.nil_append, if_true, if_false]
        rw [rX12_writePart_148 s26 (by decide) (by omega) (by omega), h26', hp1]
        simp only [rX12_writePart_149, rX12_writePart_150, nI_add, up2_eq, va_rf, eq_self, or_true, true_or, Option.toList_some, Option.toList_none, List.cons_append, List.nil_append, if_true, if_false]
        rw [rX12_writePart_151 hM.1]
        refine k_writeG (k := k) hM w1 (by omega) (by omega) (by omega) ?_
        intro F2 A2 f2 w2
        simp only [rX12_writePart_154, up2_eq, va_rf, eq_self, or_true, true_or, Option.toList_some, Option.toList_none, List.cons_append, List.nil_append, if_true, if_false]
        exact hQ _ _ (frW12_trans f1 f2) w2
end MWR
