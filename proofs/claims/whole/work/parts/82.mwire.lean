/-! ===== the reference: the wire's state ===== -/
section MWI
variable {k n u : Nat} {sh : hs_} {F F' : hF_} {R : hR_} {A A' : hF_} {B : hR_} {Q : Option Value → pm_H → Prop} {y : Nat} {T : TT} {b m : Nat}
theorem MS_bv {st hd go : Nat} {sn tg se : Int32} (h : MS F A y T) (h24 : T.1 2 0 ≤ 24) (hb : b < T.1 2 0) (hF : ∀ q, q ≠ 1200 → F' q y = F q y) (hA : ∀ k, 1 ≤ k → k ≤ 38 → ¬ (7 ≤ k ∧ k ≤ 12) → A' (y + k) = A (y + k)) (hA2 : ∀ k, 7 ≤ k → k ≤ 12 → ∀ j, j ≠ b → A' (y + k) j = A (y + k) j) (h2 : mBV A' y b st hd go sn tg se) : MS F' A' y (bvT T b st hd go sn tg se) := by
  obtain ⟨a1, a2, a3, a4, a5, a6⟩ := id h
  refine ⟨mTO_cong (N := T.1) a1 (hF _ (by decide)) (hF _ (by decide)) (hA _ (by decide) (by decide) (by decide)) (hA _ (by decide) (by decide) (by decide)), ?_, mPk_cong (T := T) a3 (fun q hq => hF q (by omega)) (fun k k1 k2 => hA k (by omega) (by omega) (by omega)), mSm_cong (T := T) a4 (hF _ (by decide)) (hA _ (by decide) (by decide) (by decide)) (hA _ (by decide) (by decide) (by decide)), mGa_cong (T := T) a5 (fun q _ _ => hF q (by omega)) (hA _ (by decide) (by decide) (by decide)), mWi_cong (T := T) a6 (fun q hq => hF q (by omega)) (fun k k1 k2 => hA k (by omega) (by omega) (by omega))⟩
  obtain ⟨b1, b2, b3, b4, b5⟩ := a2
  have e4 := hA 4 (by decide) (by decide) (by decide)
  have e5 := hA 5 (by decide) (by decide) (by decide)
  have e6 := hA 6 (by decide) (by decide) (by decide)
  refine ⟨by rw [hF _ (by decide)]; exact b1, mB1_cong b2 (by rw [e4]) (fun q _ => by rw [e5]) (fun q _ => by rw [e6]), fun b' hb' => ?_, fun b' g1 g2 => ?_, ?_⟩
  · have hb'' : b' < T.1 2 0 := hb'
    obtain ⟨c1, c2, c3⟩ := b3 b' hb''
    refine ⟨by rw [hA 3 (by decide) (by decide) (by decide)]; exact c1, mB1_cong c2 (by rw [e4]) (fun q _ => by rw [e5]) (fun q _ => by rw [e6]), ?_⟩
    unfold bvT
    dsimp only
    by_cases e : b' = b
    · subst e
      rw [up2_k (by decide), up2_k (by decide), up2_eq, up2_k (by decide), up2_eq, up2_eq, up2_k (by decide), up2_k (by decide), up2_eq, up2_k (by decide), up2_eq, up2_eq]
      exact h2
    · rw [up2_o (by omega), up2_o (by omega), up2_o (by omega), up2_o (by omega), up2_o (by omega), up2_o (by omega), up2_o (by omega), up2_o (by omega), up2_o (by omega), up2_o (by omega), up2_o (by omega), up2_o (by omega), up2_o (by omega), up2_o (by omega), up2_o (by omega), up2_o (by omega), up2_o (by omega), up2_o (by omega)]
      exact mBV_cong c3 (fun k k1 k2 => hA2 k k1 k2 b' e)
  · have g1' : T.1 2 0 ≤ b' := g1
    exact mBV_cong (b4 b' g1' g2) (fun k k1 k2 => hA2 k k1 k2 b' (by omega))
  · rw [hA2 11 (by decide) (by decide) 24 (by omega), b5]
    unfold bvT
    dsimp only
    rw [up2_o (by omega), up2_o (by omega), up2_o (by omega)]
theorem MS_b25 {st hd go : Nat} {sn tg se : Int32} (h : MS F A y T) (h24 : T.1 2 0 ≤ 24) (hF : ∀ q, q ≠ 1200 → F' q y = F q y) (hA : ∀ k, 1 ≤ k → k ≤ 38 → k ≠ 11 → A' (y + k) = A (y + k)) (hA2 : ∀ j, j ≠ 24 → A' (y + 11) j = A (y + 11) j) (h2 : A' (y + 11) 24 = sn) : MS F' A' y (bvT T 25 st hd go sn tg se) := by
  obtain ⟨a1, a2, a3, a4, a5, a6⟩ := id h
  refine ⟨mTO_cong (N := T.1) a1 (hF _ (by decide)) (hF _ (by decide)) (hA _ (by decide) (by decide) (by decide)) (hA _ (by decide) (by decide) (by decide)), ?_, mPk_cong (T := T) a3 (fun q hq => hF q (by omega)) (fun k k1 k2 => hA k (by omega) (by omega) (by omega)), mSm_cong (T := T) a4 (hF _ (by decide)) (hA _ (by decide) (by decide) (by decide)) (hA _ (by decide) (by decide) (by decide)), mGa_cong (T := T) a5 (fun q _ _ => hF q (by omega)) (hA _ (by decide) (by decide) (by decide)), mWi_cong (T := T) a6 (fun q hq => hF q (by omega)) (fun k k1 k2 => hA k (by omega) (by omega) (by omega))⟩
  obtain ⟨b1, b2, b3, b4, b5⟩ := a2
  have e4 := hA 4 (by decide) (by decide) (by decide)
  have e5 := hA 5 (by decide) (by decide) (by decide)
  have e6 := hA 6 (by decide) (by decide) (by decide)
  have hk : ∀ b', b' < 24 → ∀ k, 7 ≤ k → k ≤ 12 → A' (y + k) b' = A (y + k) b' := fun b' hb' k k1 k2 => by
    by_cases e : k = 11
    · subst e; exact hA2 b' (by omega)
    · rw [hA k (by omega) (by omega) e]
  refine ⟨by rw [hF _ (by decide)]; exact b1, mB1_cong b2 (by rw [e4]) (fun q _ => by rw [e5]) (fun q _ => by rw [e6]), fun b' hb' => ?_, fun b' g1 g2 => mBV_cong (b4 b' g1 g2) (hk b' g2), ?_⟩
  · have hb'' : b' < T.1 2 0 := hb'
    obtain ⟨c1, c2, c3⟩ := b3 b' hb''
    refine ⟨by rw [hA 3 (by decide) (by decide) (by decide)]; exact c1, mB1_cong c2 (by rw [e4]) (fun q _ => by rw [e5]) (fun q _ => by rw [e6]), ?_⟩
    unfold bvT
    dsimp only
    rw [up2_o (by omega), up2_o (by omega), up2_o (by omega), up2_o (by omega), up2_o (by omega), up2_o (by omega), up2_o (by omega), up2_o (by omega), up2_o (by omega), up2_o (by omega), up2_o (by omega), up2_o (by omega), up2_o (by omega), up2_o (by omega), up2_o (by omega), up2_o (by omega), up2_o (by omega), up2_o (by omega)]
    exact mBV_cong c3 (hk b' (by omega))
  · rw [h2]
    unfold bvT
    dsimp only
    rw [up2_k (by decide), up2_k (by decide), up2_eq]
theorem MS_wi {la : Nat} {cm rp mi : Int32} (h : MS F A y T) (hT : okT T) (hF : ∀ q, ¬ (1227 ≤ q ∧ q ≤ 1230) → F' q y = F q y) (h1 : F' 1227 y = if la = 0 then -1 else nI (la - 1)) (h2 : F' 1228 y = cm) (h3 : F' 1229 y = rp) (h4 : F' 1230 y = mi) : MS F' A y (wiT T la cm rp mi) := by
  obtain ⟨a1, a2, a3, a4, a5, a6⟩ := id h
  exact ⟨mTO_cong (N := T.1) a1 (hF _ (by decide)) (hF _ (by decide)) rfl rfl, ⟨by rw [hF _ (by decide)]; exact a2.1, a2.2⟩, mPk_cong (T := T) a3 (fun q hq => hF q (by omega)) (fun _ _ _ => rfl), mSm_cong (T := T) a4 (hF _ (by decide)) rfl rfl, mGa_cong (T := T) a5 (fun q _ _ => hF q (by omega)) rfl, by rw [hF _ (by decide)]; exact a6.1, h1, h2, h3, h4, a6.2.2.2.2.2⟩
/-- a message is put -/
theorem MS_pu {so lm : Nat} {le : Int32} {L : Nat → Nat} (h : MS F A y T) (hT : okT T) (hb : isB3 T.1 b) (hF : ∀ q, q ≠ 1200 → q ≠ 1219 → F' q y = F q y) (h19 : F' 1219 y = nI (T.1 8 0 + 1)) (hA : ∀ k, 1 ≤ k → k ≤ 38 → ¬ (15 ≤ k ∧ k ≤ 21) → A' (y + k) = A (y + k)) (hA2 : ∀ k, 15 ≤ k → k ≤ 20 → ∀ j, j ≠ T.1 8 0 → A' (y + k) j = A (y + k) j) (hA3 : ∀ j, j < 120 * T.1 8 0 → A' (y + 21) j = A (y + 21) j) (h2 : mM1 A' y (T.1 8 0) so (nm3 b) 1 le (if so = 3 then nI 0 else -1)) (h3 : so = 3 → A' (y + 20) (T.1 8 0) = nI lm ∧ ∀ j, j < lm → A' (y + 21) (120 * T.1 8 0 + j) = nI (L j)) : MS F' A' y (puT T so (b5 b) le lm L) := by
  obtain ⟨a1, a2, a3, a4, a5, a6⟩ := id h
  obtain ⟨d1, d2, d3, d4⟩ := hT.2.2.1
  have dsum := okE_sum _ d2 (fun q hq => (d3 q hq).2) (T.1 4 24) (Nat.le_refl _)
  rw [d2.2] at dsum
  have h24 := hT.2.2.2.1.1
  have hb2 : b < 24 ∨ b = 25 := by rcases hb with hb | hb <;> omega
  refine ⟨mTO_cong (N := T.1) a1 (hF _ (by decide) (by decide)) (hF _ (by decide) (by decide)) (hA _ (by decide) (by decide) (by decide)) (hA _ (by decide) (by decide) (by decide)), mBk_cong (T := T) a2 h24 d1 (by omega) (fun b hb => ⟨(hT.2.2.2.1.2.1 b (Or.inl hb)).1.2.1, (hT.2.2.2.1.2.1 b (Or.inl hb)).1.2.2.1⟩) (hF _ (by decide) (by decide)) (fun j _ => by rw [hA 3 (by decide) (by decide) (by decide)]) (fun j _ => by rw [hA 4 (by decide) (by decide) (by decide)]) (fun j _ => by rw [hA 5 (by decide) (by decide) (by decide)]) (fun j _ => by rw [hA 6 (by decide) (by decide) (by decide)]) (fun k k1 k2 => hA k (by omega) (by omega) (by omega)), mPk_cong (T := T) a3 (fun q hq => hF q (by omega) (by omega)) (fun k k1 k2 => hA k (by omega) (by omega) (by omega)), mSm_cong (T := T) a4 (hF _ (by decide) (by decide)) (hA _ (by decide) (by decide) (by decide)) (hA _ (by decide) (by decide) (by decide)), mGa_cong (T := T) a5 (fun q _ _ => hF q (by omega) (by omega)) (hA _ (by decide) (by decide) (by decide)), ?_⟩
  obtain ⟨w1, w2, w3, w4, w5, w6⟩ := a6
  refine ⟨h19, by rw [hF _ (by decide) (by decide)]; exact w2, by rw [hF _ (by decide) (by decide)]; exact w3, by rw [hF _ (by decide) (by decide)]; exact w4, by rw [hF _ (by decide) (by decide)]; exact w5, fun q hq => ?_⟩
  have hq' : q < T.1 8 0 + 1 := hq
  by_cases e : q = T.1 8 0
  · subst e
    obtain ⟨e9, e10, e11, e12, e21, eJ, eI⟩ := puT_n (T := T) (so := so) (b1 := b5 b) (lm := lm) (le := le) (L := L)
    have em : mbk (puT T so (b5 b) le lm L).1 (T.1 8 0) = b := mbk_b5 hb2 e10
    simp only [e9, e11, e12, e21, eJ, eI, em]
    exact ⟨h2, h3⟩
  · obtain ⟨v1, v2⟩ := w6 q (by omega)
    have e10 := puT_o (T := T) (so := so) (b1 := b5 b) (le := le) (lm := lm) (L := L) (q := 10) (m := q) (by decide) e
    have em : mbk (puT T so (b5 b) le lm L).1 q = mbk T.1 q := by unfold mbk; rw [e10]
    have e9 := puT_o (T := T) (so := so) (b1 := b5 b) (le := le) (lm := lm) (L := L) (q := 9) (m := q) (by decide) e
    have e11 := puT_o (T := T) (so := so) (b1 := b5 b) (le := le) (lm := lm) (L := L) (q := 11) (m := q) (by decide) e
    have e12 := puT_o (T := T) (so := so) (b1 := b5 b) (le := le) (lm := lm) (L := L) (q := 12) (m := q) (by decide) e
    have e21 := puT_o (T := T) (so := so) (b1 := b5 b) (le := le) (lm := lm) (L := L) (q := 21) (m := q) (by decide) e
    have eJ : (puT T so (b5 b) le lm L).2.1 2 q = T.2.1 2 q := by unfold puT; dsimp only; rw [up2_a e]
    have eI : (puT T so (b5 b) le lm L).2.2 5 q = T.2.2 5 q := by unfold puT; dsimp only; rw [up2_a e]
    simp only [e9, e11, e12, e21, eJ, eI, em]
    refine ⟨mM1_cong v1 (fun k k1 k2 => hA2 k k1 (by omega) q e), fun g => ?_⟩
    obtain ⟨x1, x2⟩ := v2 g
    have hl := ((hT.2.2.2.2.2.2.1.2.1 q (by omega)).2.2.2.2.2.2 g).1
    refine ⟨by rw [hA2 20 (by decide) (by decide) q e]; exact x1, fun j hj => ?_⟩
    rw [hA3 _ (by omega)]
    exact x2 j hj
theorem k_sendMessage {so : Nat} {bk le : Int32} {nm : Nat} (hM : isM sh R y) (h19 : F 1219 y = nI nm) (hn : nm < 200) (hso : so ≤ 4)
    (hQ : ∀ A', (∀ a, ¬ (y + 15 ≤ a ∧ a ≤ y + 19) → A' a = A a) → (∀ k, 15 ≤ k → k ≤ 19 → ∀ j, j ≠ nm → A' (y + k) j = A (y + k) j) → mM1 A' y nm so bk 1 le (if so = 3 then nI 0 else -1) → Q none (mkh n u sh (up2 F 1219 y (nI (nm + 1))) R A' B)) :
    rc_ k mX12_sendMessage [.ref y, .int (nI so), .int bk, .int le] (mkh n u sh F R A B) Q := by
  have r15 := hM.r 1220 15 0 200 (by decide)
  have s15 := hM.s 1220 15 0 200 (by decide)
  have r16 := hM.r 1221 16 0 200 (by decide)
  have s16 := hM.s 1221 16 0 200 (by decide)
  have r17 := hM.r 1222 17 0 200 (by decide)
  have s17 := hM.s 1222 17 0 200 (by decide)
  have r18 := hM.r 1223 18 0 200 (by decide)
  have s18 := hM.s 1223 18 0 200 (by decide)
  have r19 := hM.r 1224 19 0 200 (by decide)
  have s19 := hM.s 1224 19 0 200 (by decide)
  have s0 := hM.1
  rw [eX12_sendMessage]
  simp only [rX12_sendMessage_0, rX12_sendMessage_1, rX12_sendMessage_4, rX12_sendMessage_5, rX12_sendMessage_8, s0, r15, h19, up2_eq, va_rf, eq_self, or_true, true_or, Option.toList_some, Option.toList_none, List.cons_append, List.nil_append, if_true, if_false]
  rw [rX12_sendMessage_9 s15 hn (by omega)]
  simp only [rX12_sendMessage_10, rX12_sendMessage_11, rX12_sendMessage_14, rX12_sendMessage_15, rX12_sendMessage_18, s0, r16, h19, up2_eq, va_rf, eq_self, or_true, true_or, Option.toList_some, Option.toList_none, List.cons_append, List.nil_append, if_true, if_false]
  rw [rX12_sendMessage_19 s16 hn (by omega)]
  simp only [rX12_sendMessage_20, rX12_sendMessage_21, rX12_sendMessage_24, rX12_sendMessage_25, rX12_sendMessage_28, s0, r17, h19, up2_eq, va_rf, eq_self, or_true, true_or, Option.toList_some, Option.toList_none, List.cons_append, List.nil_append, if_true, if_false]
  rw [rX12_sendMessage_29 s17 hn (by omega)]
  simp only [rX12_sendMessage_30, rX12_sendMessage_31, rX12_sendMessage_34, rX12_sendMessage_35, rX12_sendMessage_38, s0, r18, h19, up2_eq, va_rf, eq_self, or_true, true_or, Option.toList_some, Option.toList_none, List.cons_append, List.nil_append, if_true, if_false]
  rw [rX12_sendMessage_39 s18 hn (by omega)]
  simp only [rX12_sendMessage_40, rX12_sendMessage_41, rX12_sendMessage_44, rX12_sendMessage_45, rX12_sendMessage_48, rX12_sendMessage_49, rX12_sendMessage_50, s0, r19, h19, up2_eq, va_rf, eq_self, or_true, true_or, Option.toList_some, Option.toList_none, List.cons_append, List.nil_append, if_true, if_false]
  have fin : ∀ v : Int32, v = (if so = 3 then nI 0 else -1) → rw_ k mX12_sendMessage 58 [.ref y, .int (nI so), .int bk, .int le] [.int v, .int (nI nm), .ref (y + 19)] (mkh n u sh F R (up2 (up2 (up2 (up2 A (y + 15) nm (nI so)) (y + 16) nm bk) (y + 17) nm (nI 1)) (y + 18) nm le) B) Q := by
    intro v hv
    rw [rX12_sendMessage_58 s19 hn (by omega)]
    simp only [rX12_sendMessage_59, rX12_sendMessage_60, rX12_sendMessage_61, rX12_sendMessage_64, rX12_sendMessage_65, rX12_sendMessage_66, rX12_sendMessage_69, s0, h19, nI_add, up2_eq, va_rf, eq_self, or_true, true_or, Option.toList_some, Option.toList_none, List.cons_append, List.nil_append, if_true, if_false]
    refine hQ _ (fun a ha => ?_) (fun k k1 k2 j hj => ?_) ⟨?_, ?_, ?_, ?_, ?_⟩
    · rw [up2_row (by omega), up2_row (by omega), up2_row (by omega), up2_row (by omega), up2_row (by omega)]
    · rw [up2_a hj, up2_a hj, up2_a hj, up2_a hj, up2_a hj]
    · rw [up2_k (by omega), up2_k (by omega), up2_k (by omega), up2_k (by omega), up2_eq]
    · rw [up2_k (by omega), up2_k (by omega), up2_k (by omega), up2_eq]
    · rw [up2_k (by omega), up2_k (by omega), up2_eq]
    · rw [up2_k (by omega), up2_eq]
    · rw [up2_eq]; exact hv
  by_cases c : so = 3
  · have g : nI so = nI 3 := by rw [c]
    rw [if_pos g]
    simp only [rX12_sendMessage_53, rX12_sendMessage_54, up2_eq, va_rf, eq_self, or_true, true_or, Option.toList_some, Option.toList_none, List.cons_append, List.nil_append, if_true, if_false]
    have := fin (nI 0) (by rw [if_pos c])
    exact this
  · have g : ¬ nI so = nI 3 := by rw [nI_eq (by omega) (by omega)]; exact c
    rw [if_neg g]
    simp only [rX12_sendMessage_57, up2_eq, va_rf, eq_self, or_true, true_or, Option.toList_some, Option.toList_none, List.cons_append, List.nil_append, if_true, if_false]
    exact fin (-1) (by rw [if_neg c])
theorem k_answer {so : Nat} {bk le : Int32} {nm : Nat} (hM : isM sh R y) (h19 : F 1219 y = nI nm) (hn : nm ≤ 200) (hso : so ≤ 4)
    (hQ0 : nm = 200 → Q (some (.int (nI 1))) (mkh n u sh F R A B))
    (hQ : nm < 200 → ∀ A', (∀ a, ¬ (y + 15 ≤ a ∧ a ≤ y + 19) → A' a = A a) → (∀ k, 15 ≤ k → k ≤ 19 → ∀ j, j ≠ nm → A' (y + k) j = A (y + k) j) → mM1 A' y nm so bk 1 le (if so = 3 then nI 0 else -1) → Q (some (.int (nI 0))) (mkh n u sh (up2 F 1219 y (nI (nm + 1))) R A' B)) :
    rc_ (k + 1) mX12_answer [.ref y, .int (nI so), .int bk, .int le] (mkh n u sh F R A B) Q := by
  rw [eX12_answer]
  by_cases c : nm = 200
  · have g : nI nm = nI 200 := by rw [c]
    simp only [rX12_answer_0, rX12_answer_1, rX12_answer_4, rX12_answer_7, rX12_answer_10, rX12_answer_11, hM.1, h19, g, up2_eq, va_rf, eq_self, or_true, true_or, Option.toList_some, Option.toList_none, List.cons_append, List.nil_append, if_true, if_false]
    exact hQ0 c
  · have g : ¬ nI nm = nI 200 := by rw [nI_eq (by omega) (by omega)]; exact c
    simp only [rX12_answer_0, rX12_answer_1, rX12_answer_4, rX12_answer_7, rX12_answer_12, rX12_answer_13, rX12_answer_14, rX12_answer_15, hM.1, h19, g, up2_eq, va_rf, eq_self, or_true, true_or, Option.toList_some, Option.toList_none, List.cons_append, List.nil_append, if_true, if_false]
    rw [rX12_answer_16 hM.1]
    refine k_sendMessage hM h19 (by omega) hso (fun A' f1 f2 f3 => ?_)
    simp only [rX12_answer_19, rX12_answer_20, up2_eq, va_rf, eq_self, or_true, true_or, Option.toList_some, Option.toList_none, List.cons_append, List.nil_append, if_true, if_false]
    exact hQ (by omega) A' f1 f2 f3
end MWI
