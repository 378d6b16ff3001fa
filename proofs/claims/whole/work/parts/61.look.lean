/-! ===== the class: greedy, price, messages, counts ===== -/
def hcT (N : tN) : Nat → Nat
  | 0 => 0
  | j + 1 => hcT N j + (if N 19 j = 0 then 0 else 1)
def ucT (N : tN) : Nat → Nat
  | 0 => 0
  | j + 1 => ucT N j + (if N 11 j = 0 then 0 else 1)
theorem ucT_le {N : tN} : ∀ j, ucT N j ≤ j
  | 0 => Nat.le_refl _
  | j + 1 => by
    have := ucT_le (N := N) j
    unfold ucT
    split <;> omega
section LOK
variable {k n u : Nat} {sh : hs_} {F F' : hF_} {R R' : hR_} {A A' : hF_} {B : hR_} {Q : Option Value → pm_H → Prop} {x : Nat} {ba ma : Nat → Nat} {T T' : TT}
theorem hct_T (h : xBk n sh F R A B x ba T) (hT : okT T) : ∀ j, j ≤ T.1 2 0 → hct F ba j = hcT T.1 j
  | 0, _ => rfl
  | j + 1, hj => by
    have e1 := (h.2.2.2.2 j (Or.inl (by omega))).2.2.2.2.2.1
    have e2 := (hT.2.2.2.1.2.1 j (Or.inl (by omega))).2.2.1
    unfold hct hcT
    rw [hct_T h hT j (by omega), e1]
    by_cases c : T.1 19 j = 0
    · rw [if_pos c, if_pos (by rw [c])]
    · have g : ¬ nI (T.1 19 j) = nI 0 := nI_ne0 (by omega) (by omega)
      rw [if_neg c, if_neg g]
theorem k_Wfind {i : Int32} (hX : isX sh R B x) (hW : xWi n sh F R A B x ba ma T) (h200 : T.1 8 0 ≤ 200) : rc_ k mX9_find [.ref (x + 72), .int i] (mkh n u sh F R A B) Q ↔ Q (some (va_rf ((ix i (T.1 8 0)).map ma))) (mkh n u sh F R A B) := by
  have h1 := hX.s 72 0 9 0 (by decide)
  have h2 := hX.r 901 72 73 (by decide)
  have h3 := hX.s 73 2 3 200 (by decide)
  have h4 := hW.1
  rw [eX9_find]
  unfold ix
  by_cases h0 : i < nI 0
  · simp only [rX9_find_0, rX9_find_1, rX9_find_4, rX9_find_5, rX9_find_6, rX9_find_9, rX9_find_12, rX9_find_13, rX9_find_16, rX9_find_17, rX9_find_18, rX9_find_21, rX9_find_22, rX9_find_22_n, h0, Option.map_none, up2_eq, va_rf, eq_self, or_true, true_or, Option.toList_some, Option.toList_none, List.cons_append, List.nil_append, if_true, if_false]
  · simp only [rX9_find_0, rX9_find_1, rX9_find_4, rX9_find_5, rX9_find_6, rX9_find_9, h0, h1, h4, up2_eq, va_rf, eq_self, or_true, true_or, Option.toList_some, Option.toList_none, List.cons_append, List.nil_append, if_true, if_false]
    by_cases hq : nI (T.1 8 0) ≤ i
    · simp only [rX9_find_0, rX9_find_1, rX9_find_4, rX9_find_5, rX9_find_6, rX9_find_9, rX9_find_12, rX9_find_13, rX9_find_16, rX9_find_17, rX9_find_18, rX9_find_21, rX9_find_22, rX9_find_22_n, hq, Option.map_none, up2_eq, va_rf, eq_self, or_true, true_or, Option.toList_some, Option.toList_none, List.cons_append, List.nil_append, if_true, if_false]
    · obtain ⟨j, hj, rfl⟩ := nI_of h0
      have hlt : j < T.1 8 0 := Nat.not_le.mp fun q => hq (nI_le q hj)
      simp only [rX9_find_12, rX9_find_13, rX9_find_16, hq, h1, h2, up2_eq, va_rf, eq_self, or_true, true_or, Option.toList_some, Option.toList_none, List.cons_append, List.nil_append, if_true, if_false]
      rw [rX9_find_17 h3 (by omega) (by omega), (hW.2.2.2.2.2.1 j hlt).1, nI_clamp hj]
      simp only [rX9_find_0, rX9_find_1, rX9_find_4, rX9_find_5, rX9_find_6, rX9_find_9, rX9_find_12, rX9_find_13, rX9_find_16, rX9_find_17, rX9_find_18, rX9_find_21, rX9_find_22, rX9_find_22_n, Option.map_some, up2_eq, va_rf, eq_self, or_true, true_or, Option.toList_some, Option.toList_none, List.cons_append, List.nil_append, if_true, if_false]
theorem l_uw (hX : isX sh R B x) (hW : xWi n sh F R A B x ba ma T) (h200 : T.1 8 0 ≤ 200) (h3 : ∀ m, m < T.1 8 0 → T.1 11 m ≤ 3) : ∀ d i, i + d = T.1 8 0 → (rw_ k mX9_messagesUnderWay 4 [.ref (x + 72), .int (nI (ucT T.1 i)), .int (nI i)] [] (mkh n u sh F R A B) Q ↔ Q (some (.int (nI (ucT T.1 (T.1 8 0))))) (mkh n u sh F R A B)) := by
  have g1 := hX.s 72 0 9 0 (by decide)
  have g2 := hX.r 901 72 73 (by decide)
  have g3 := hX.s 73 2 3 200 (by decide)
  have g4 := hW.1
  intro d
  induction d with
  | zero =>
    intro i hi
    have e : i = T.1 8 0 := by omega
    subst e
    have q1 : nI (T.1 8 0) ≤ nI (T.1 8 0) := nI_le (Nat.le_refl _) (by omega)
    simp only [rX9_messagesUnderWay_4, rX9_messagesUnderWay_5, rX9_messagesUnderWay_6, rX9_messagesUnderWay_9, rX9_messagesUnderWay_33, rX9_messagesUnderWay_34, g1, g4, q1, up2_eq, va_rf, eq_self, or_true, true_or, Option.toList_some, Option.toList_none, List.cons_append, List.nil_append, if_true, if_false]
  | succ d ih =>
    intro i hi
    have q1 : ¬ nI (T.1 8 0) ≤ nI i := nI_ge (by omega) (by omega)
    obtain ⟨b1, b2, b3, b4, b5, -⟩ := hW.2.2.2.2.2.1 i (by omega)
    have h11 := h3 i (by omega)
    simp only [rX9_messagesUnderWay_4, rX9_messagesUnderWay_5, rX9_messagesUnderWay_6, rX9_messagesUnderWay_9, rX9_messagesUnderWay_12, rX9_messagesUnderWay_13, rX9_messagesUnderWay_16, g1, g2, g4, q1, up2_eq, va_rf, eq_self, or_true, true_or, Option.toList_some, Option.toList_none, List.cons_append, List.nil_append, if_true, if_false]
    rw [rX9_messagesUnderWay_17 g3 (by omega) (by omega), b1]
    simp only [rX9_messagesUnderWay_18, rX9_messagesUnderWay_21, b4, b5.2.2.2.1, up2_eq, va_rf, eq_self, or_true, true_or, Option.toList_some, Option.toList_none, List.cons_append, List.nil_append, if_true, if_false]
    by_cases c : T.1 11 i = 0
    · have e1 : ucT T.1 i = ucT T.1 (i + 1) := by
        show _ = ucT T.1 i + (if T.1 11 i = 0 then 0 else 1)
        rw [if_pos c]
        rfl
      have q2 : nI (T.1 11 i) ≤ nI 0 := nI_le (by omega) (by omega)
      simp only [rX9_messagesUnderWay_27, rX9_messagesUnderWay_30, q2, nI_add, up2_eq, va_rf, eq_self, or_true, true_or, Option.toList_some, Option.toList_none, List.cons_append, List.nil_append, if_true, if_false]
      rw [e1]
      exact ih (i + 1) (by omega)
    · have e1 : ucT T.1 i + 1 = ucT T.1 (i + 1) := by
        show _ = ucT T.1 i + (if T.1 11 i = 0 then 0 else 1)
        rw [if_neg c]
      have q2 : ¬ nI (T.1 11 i) ≤ nI 0 := nI_ge (by omega) (by omega)
      simp only [rX9_messagesUnderWay_24, rX9_messagesUnderWay_27, rX9_messagesUnderWay_30, q2, nI_add, up2_eq, va_rf, eq_self, or_true, true_or, Option.toList_some, Option.toList_none, List.cons_append, List.nil_append, if_true, if_false]
      rw [e1]
      exact ih (i + 1) (by omega)
def s_count (T : TT) (w : Int32) : Int32 := if w = nI 0 then nI (T.1 2 0) else if w = nI 1 then nI (T.1 6 0) else if w = nI 2 then nI (T.1 4 24) else if w = nI 3 then nI (T.1 0 0) else if w = nI 4 then nI (T.1 1 0) else if w = nI 5 then nI (T.1 8 0) else if w = nI 6 then nI (ucT T.1 (T.1 8 0)) else if w = nI 7 then nI (hcT T.1 (T.1 2 0)) else if w = nI 8 then T.2.2 6 0 else if w = nI 9 then T.2.2 7 0 else if w = nI 10 then T.2.2 8 0 else -3
theorem c_count {w : Int32} (h : XS n sh F R A B x ba ma T) (hT : okT T) (hQ : xPost n u sh F R A x (s_count T w, T) Q) : rc_ (k + 8) mX11_count [.ref x, .int w] (mkh n u sh F R A B) Q := by
  obtain ⟨hx, hX, hTO, hDr, hBk, hPk, hGm, hSm, hWi, hRd⟩ := id h
  have hq := xPost_same hQ h
  have s0 := hX.s0
  have hS := hX.shelf hBk hT.2.2.2.1.1
  have h24 := hT.2.2.2.1.1
  have h72 := hX.s 72 0 9 0 (by decide)
  have r72 := hX.r0 1109 72 (by decide)
  have r9 := hX.r0 1103 9 (by decide)
  rw [eX11_count]
  unfold s_count at hq
  simp only [rX11_count_0, rX11_count_1, up2_eq, va_rf, eq_self, or_true, true_or, Option.toList_some, Option.toList_none, List.cons_append, List.nil_append, if_true, if_false]
  by_cases w0 : w = nI 0
  · rw [if_pos w0] at hq ⊢
    simp only [rX11_count_60, rX11_count_61, rX11_count_64, rX11_count_67, s0, r9, hS.1, hS.2.2.2.1, up2_eq, va_rf, eq_self, or_true, true_or, Option.toList_some, Option.toList_none, List.cons_append, List.nil_append, if_true, if_false]
    exact hq
  rw [if_neg w0] at hq ⊢
  by_cases w0 : w = nI 1
  · rw [if_pos w0] at hq ⊢
    simp only [rX11_count_68, rX11_count_69, rX11_count_72, rX11_count_75, s0, hX.r0 1108 38 (by decide), hX.s 38 0 8 0 (by decide), hSm.1.1, up2_eq, va_rf, eq_self, or_true, true_or, Option.toList_some, Option.toList_none, List.cons_append, List.nil_append, if_true, if_false]
    exact hq
  rw [if_neg w0] at hq ⊢
  by_cases w0 : w = nI 2
  · rw [if_pos w0] at hq ⊢
    simp only [rX11_count_76, rX11_count_77, rX11_count_80, rX11_count_83, s0, hX.r0 1102 5 (by decide), hX.s 5 0 5 0 (by decide), hDr.1, up2_eq, va_rf, eq_self, or_true, true_or, Option.toList_some, Option.toList_none, List.cons_append, List.nil_append, if_true, if_false]
    exact hq
  rw [if_neg w0] at hq ⊢
  by_cases w0 : w = nI 3
  · rw [if_pos w0] at hq ⊢
    simp only [rX11_count_84, rX11_count_85, rX11_count_88, rX11_count_91, s0, hX.r0 1100 1 (by decide), hX.s 1 0 1 0 (by decide), hTO.1.1, up2_eq, va_rf, eq_self, or_true, true_or, Option.toList_some, Option.toList_none, List.cons_append, List.nil_append, if_true, if_false]
    exact hq
  rw [if_neg w0] at hq ⊢
  by_cases w0 : w = nI 4
  · rw [if_pos w0] at hq ⊢
    simp only [rX11_count_92, rX11_count_93, rX11_count_96, rX11_count_99, s0, hX.r0 1101 3 (by decide), hX.s 3 0 1 0 (by decide), hTO.2.1, up2_eq, va_rf, eq_self, or_true, true_or, Option.toList_some, Option.toList_none, List.cons_append, List.nil_append, if_true, if_false]
    exact hq
  rw [if_neg w0] at hq ⊢
  by_cases w0 : w = nI 5
  · rw [if_pos w0] at hq ⊢
    simp only [rX11_count_100, rX11_count_101, rX11_count_104, rX11_count_107, s0, r72, h72, hWi.1, up2_eq, va_rf, eq_self, or_true, true_or, Option.toList_some, Option.toList_none, List.cons_append, List.nil_append, if_true, if_false]
    exact hq
  rw [if_neg w0] at hq ⊢
  by_cases w0 : w = nI 6
  · rw [if_pos w0] at hq ⊢
    simp only [rX11_count_108, rX11_count_109, s0, r72, up2_eq, va_rf, eq_self, or_true, true_or, Option.toList_some, Option.toList_none, List.cons_append, List.nil_append, if_true, if_false]
    rw [rX11_count_112 h72, eX9_messagesUnderWay]
    simp only [rX9_messagesUnderWay_0, rX9_messagesUnderWay_1, rX9_messagesUnderWay_2, rX9_messagesUnderWay_3]
    rw [show (Value.int (nI 0)) = .int (nI (ucT T.1 0)) from rfl]
    refine (l_uw (T := T) hX hWi hT.2.2.2.2.2.2.1.1 (fun m hm => (hT.2.2.2.2.2.2.1.2.1 m hm).2.2.2.2.1) (T.1 8 0) 0 (by omega)).mpr ?_
    simp only [rX11_count_115, up2_eq, va_rf, eq_self, or_true, true_or, Option.toList_some, Option.toList_none, List.cons_append, List.nil_append, if_true, if_false]
    exact hq
  rw [if_neg w0] at hq ⊢
  by_cases w0 : w = nI 7
  · rw [if_pos w0] at hq ⊢
    simp only [rX11_count_116, rX11_count_117, s0, r9, up2_eq, va_rf, eq_self, or_true, true_or, Option.toList_some, Option.toList_none, List.cons_append, List.nil_append, if_true, if_false]
    rw [rX11_count_120 hS.1, k_Shelf_held hS, hct_T hBk hT _ (Nat.le_refl _)]
    simp only [rX11_count_123, up2_eq, va_rf, eq_self, or_true, true_or, Option.toList_some, Option.toList_none, List.cons_append, List.nil_append, if_true, if_false]
    exact hq
  rw [if_neg w0] at hq ⊢
  by_cases w0 : w = nI 8
  · rw [if_pos w0] at hq ⊢
    simp only [rX11_count_124, rX11_count_125, rX11_count_128, rX11_count_131, s0, r72, h72, hWi.2.1, up2_eq, va_rf, eq_self, or_true, true_or, Option.toList_some, Option.toList_none, List.cons_append, List.nil_append, if_true, if_false]
    exact hq
  rw [if_neg w0] at hq ⊢
  by_cases w0 : w = nI 9
  · rw [if_pos w0] at hq ⊢
    simp only [rX11_count_132, rX11_count_133, rX11_count_136, rX11_count_139, s0, r72, h72, hWi.2.2.1, up2_eq, va_rf, eq_self, or_true, true_or, Option.toList_some, Option.toList_none, List.cons_append, List.nil_append, if_true, if_false]
    exact hq
  rw [if_neg w0] at hq ⊢
  by_cases w0 : w = nI 10
  · rw [if_pos w0] at hq ⊢
    simp only [rX11_count_140, rX11_count_141, rX11_count_144, rX11_count_147, s0, r72, h72, hWi.2.2.2.1, up2_eq, va_rf, eq_self, or_true, true_or, Option.toList_some, Option.toList_none, List.cons_append, List.nil_append, if_true, if_false]
    exact hq
  rw [if_neg w0] at hq ⊢
  simp only [rX11_count_148, rX11_count_150, up2_eq, va_rf, eq_self, or_true, true_or, Option.toList_some, Option.toList_none, List.cons_append, List.nil_append, if_true, if_false]
  exact hq
def s_message (T : TT) (i w : Int32) : Int32 := match ix i (T.1 8 0) with
  | none => -3
  | some m => if w = nI 0 then nI (T.1 9 m) else if w = nI 1 then nm3 (mbk T.1 m) else if w = nI 2 then nI (T.1 11 m) else if w = nI 3 then T.2.2 5 m else if w = nI 4 then (if T.1 9 m = 3 then nI (T.1 21 m) else -1) else -3
theorem c_message {i w : Int32} (h : XS n sh F R A B x ba ma T) (hT : okT T) (hQ : xPost n u sh F R A x (s_message T i w, T) Q) : rc_ (k + 8) mX11_message [.ref x, .int i, .int w] (mkh n u sh F R A B) Q := by
  obtain ⟨hx, hX, hTO, hDr, hBk, hPk, hGm, hSm, hWi, hRd⟩ := id h
  have hq := xPost_same hQ h
  have s0 := hX.s0
  have h72 := hX.s 72 0 9 0 (by decide)
  have r72 := hX.r0 1109 72 (by decide)
  rw [eX11_message]
  simp only [rX11_message_0, rX11_message_1, rX11_message_4, s0, r72, up2_eq, va_rf, eq_self, or_true, true_or, Option.toList_some, Option.toList_none, List.cons_append, List.nil_append, if_true, if_false]
  rw [rX11_message_5 h72, k_Wfind hX hWi hT.2.2.2.2.2.2.1.1]
  unfold s_message at hq
  cases hi : ix i (T.1 8 0) with
  | none =>
    rw [hi] at hq
    simp only [Option.map_none, rX11_message_8, rX11_message_8_n, rX11_message_9, rX11_message_9_n, rX11_message_10, rX11_message_10_n, rX11_message_13, rX11_message_15, up2_eq, va_rf, eq_self, or_true, true_or, Option.toList_some, Option.toList_none, List.cons_append, List.nil_append, if_true, if_false]
    exact hq
  | some m =>
    rw [hi] at hq
    obtain ⟨hm, -, -⟩ := ix_some hi
    obtain ⟨b1, b2, b3, b4, ⟨v1, v2, v3, v4, v5⟩, -⟩ := hWi.2.2.2.2.2.1 m hm
    obtain ⟨o1, o2, o3, o4, o5, o6, o7⟩ := hT.2.2.2.2.2.2.1.2.1 m hm
    obtain ⟨⟨a1, -⟩, -, c1, -⟩ := hBk.2.2.2.2 _ o2
    dsimp only at hq
    simp only [Option.map_some, rX11_message_8, rX11_message_8_n, rX11_message_9, rX11_message_9_n, rX11_message_10, rX11_message_10_n, rX11_message_16, rX11_message_17, up2_eq, va_rf, eq_self, or_true, true_or, Option.toList_some, Option.toList_none, List.cons_append, List.nil_append, if_true, if_false]
    by_cases w0 : w = nI 0
    · rw [if_pos w0] at hq ⊢
      simp only [rX11_message_52, rX11_message_52_n, rX11_message_53, rX11_message_56, b4, v1, up2_eq, va_rf, eq_self, or_true, true_or, Option.toList_some, Option.toList_none, List.cons_append, List.nil_append, if_true, if_false]
      exact hq
    rw [if_neg w0] at hq ⊢
    by_cases w0 : w = nI 1
    · rw [if_pos w0] at hq ⊢
      simp only [rX11_message_57, rX11_message_57_n, rX11_message_58, rX11_message_61, rX11_message_64, b4, v2, a1, c1, up2_eq, va_rf, eq_self, or_true, true_or, Option.toList_some, Option.toList_none, List.cons_append, List.nil_append, if_true, if_false]
      exact hq
    rw [if_neg w0] at hq ⊢
    by_cases w0 : w = nI 2
    · rw [if_pos w0] at hq ⊢
      simp only [rX11_message_65, rX11_message_65_n, rX11_message_66, rX11_message_69, b4, v4, up2_eq, va_rf, eq_self, or_true, true_or, Option.toList_some, Option.toList_none, List.cons_append, List.nil_append, if_true, if_false]
      exact hq
    rw [if_neg w0] at hq ⊢
    by_cases w0 : w = nI 3
    · rw [if_pos w0] at hq ⊢
      simp only [rX11_message_70, rX11_message_70_n, rX11_message_71, rX11_message_74, b4, v3, up2_eq, va_rf, eq_self, or_true, true_or, Option.toList_some, Option.toList_none, List.cons_append, List.nil_append, if_true, if_false]
      exact hq
    rw [if_neg w0] at hq ⊢
    by_cases w0 : w = nI 4
    · rw [if_pos w0] at hq ⊢
      by_cases e : T.1 9 m = 3
      · rw [if_pos e] at hq
        rw [e] at v1
        simp only [rX11_message_75, rX11_message_75_n, rX11_message_76, rX11_message_79, rX11_message_80, rX11_message_83, rX11_message_83_n, rX11_message_84, rX11_message_87, rX11_message_91, b4, v1, v5, up2_eq, va_rf, eq_self, or_true, true_or, Option.toList_some, Option.toList_none, List.cons_append, List.nil_append, if_true, if_false]
        exact hq
      · rw [if_neg e] at hq
        have g : ¬ nI (T.1 9 m) = nI 3 := by rw [nI_eq (by omega) (by omega)]; exact e
        simp only [rX11_message_75, rX11_message_75_n, rX11_message_76, rX11_message_79, rX11_message_80, rX11_message_90, rX11_message_91, b4, v1, g, up2_eq, va_rf, eq_self, or_true, true_or, Option.toList_some, Option.toList_none, List.cons_append, List.nil_append, if_true, if_false]
        exact hq
    rw [if_neg w0] at hq ⊢
    simp only [rX11_message_92, rX11_message_94, up2_eq, va_rf, eq_self, or_true, true_or, Option.toList_some, Option.toList_none, List.cons_append, List.nil_append, if_true, if_false]
    exact hq
def s_greedy (T : TT) (i : Int32) : Int32 × TT := match bx i (T.1 2 0) with
  | none => (-3, clrT T)
  | some b => if 120 < T.1 0 0 then (-3, clrT T) else (nI (grN (fI (T.1 30)) (fI (T.2.1 0 b)) (T.1 0 0) (T.1 5 b) (T.1 4 b) (T.2.1 3 b) (decide (T.1 3 b = 2)) (T.1 0 0) 0), clrT T)
theorem c_greedy {i : Int32} (h : XS n sh F R A B x ba ma T) (hT : okT T) (hQ : xPost n u sh F R A x (s_greedy T i) Q) : rc_ (k + 8) mX11_greedy [.ref x, .int i] (mkh n u sh F R A B) Q := by
  obtain ⟨hx, hX, hTO, hDr, hBk, hPk, hGm, hSm, hWi, hRd⟩ := id h
  have r9 := hX.r0 1103 9 (by decide)
  have r1 := hX.r0 1100 1 (by decide)
  have r25 := hX.r0 1105 25 (by decide)
  have s0 := hX.s0
  have s9 := hX.s 9 0 7 0 (by decide)
  have t1 := hX.s 1 0 1 0 (by decide)
  have hS := hX.shelf hBk hT.2.2.2.1.1
  have t0 := hT.1.1
  obtain ⟨w1, w2⟩ := XS_clr h
  rw [eX11_greedy]
  simp only [rX11_greedy_0, rX11_greedy_1, rX11_greedy_4, s0, r9, up2_eq, va_rf, eq_self, or_true, true_or, Option.toList_some, Option.toList_none, List.cons_append, List.nil_append, if_true, if_false]
  rw [rX11_greedy_5 s9, k_Shelf_findOr hS, bx_map hBk.2.1]
  unfold s_greedy clrT at hQ
  cases hi : bx i (T.1 2 0) with
  | none =>
    rw [hi] at hQ
    simp only [Option.map_none, rX11_greedy_8, rX11_greedy_8_n, rX11_greedy_9, rX11_greedy_11, rX11_greedy_12, rX11_greedy_12_n, rX11_greedy_13, rX11_greedy_13_n, rX11_greedy_48, rX11_greedy_49, s0, r1, up2_eq, va_rf, eq_self, or_true, true_or, Option.toList_some, Option.toList_none, List.cons_append, List.nil_append, if_true, if_false]
    rw [rX11_greedy_52 t1, k_Bytes_clear t1]
    simp only [rX11_greedy_55, rX11_greedy_56, up2_eq, va_rf, eq_self, or_true, true_or, Option.toList_some, Option.toList_none, List.cons_append, List.nil_append, if_true, if_false]
    exact hQ n u _ _ _ _ _ _ _ w1 w2 (by omega) (by omega)
  | some b =>
    rw [hi] at hQ
    have hb := bx_some hi
    dsimp only at hQ
    obtain ⟨hbS, hbD, -⟩ := hBk.2.2.2.2 b hb
    obtain ⟨a1, a2, a3, a4, a5, a6, a7, a8, a9⟩ := id hbS
    obtain ⟨k1, k2, k3, k4, k5, k6, k7⟩ := (hT.2.2.2.1.2.1 b hb).1
    have hP := bkP hbS hbD k2 k3
    obtain ⟨h117, -⟩ := xBk_at hBk hx hb
    by_cases c1 : 120 < T.1 0 0
    · rw [if_pos c1] at hQ
      have g1 : nI 120 < nI (T.1 0 0) := nI_lt c1 (by omega)
      simp only [Option.map_some, rX11_greedy_8, rX11_greedy_8_n, rX11_greedy_9, rX11_greedy_11, rX11_greedy_12, rX11_greedy_12_n, rX11_greedy_13, rX11_greedy_13_n, rX11_greedy_16, rX11_greedy_17, rX11_greedy_20, rX11_greedy_23, rX11_greedy_25, rX11_greedy_48, rX11_greedy_49, s0, r1, t1, hTO.1.1, g1, up2_eq, va_rf, eq_self, or_true, true_or, Option.toList_some, Option.toList_none, List.cons_append, List.nil_append, if_true, if_false]
      rw [rX11_greedy_52 t1, k_Bytes_clear t1]
      simp only [rX11_greedy_55, rX11_greedy_56, up2_eq, va_rf, eq_self, or_true, true_or, Option.toList_some, Option.toList_none, List.cons_append, List.nil_append, if_true, if_false]
      exact hQ n u _ _ _ _ _ _ _ w1 w2 (by omega) (by omega)
    · rw [if_neg c1] at hQ
      have g1 : ¬ nI 120 < nI (T.1 0 0) := nI_nlt (by omega) (by omega)
      simp only [Option.map_some, rX11_greedy_8, rX11_greedy_8_n, rX11_greedy_9, rX11_greedy_11, rX11_greedy_12, rX11_greedy_12_n, rX11_greedy_13, rX11_greedy_13_n, rX11_greedy_16, rX11_greedy_17, rX11_greedy_20, rX11_greedy_23, rX11_greedy_25, rX11_greedy_28, rX11_greedy_29, rX11_greedy_32, rX11_greedy_33, rX11_greedy_36, rX11_greedy_36_n, rX11_greedy_37, rX11_greedy_40, rX11_greedy_40_n, s0, r1, t1, r25, a1, a2, hTO.1.1, g1, up2_eq, va_rf, eq_self, or_true, true_or, Option.toList_some, Option.toList_none, List.cons_append, List.nil_append, if_true, if_false]
      rw [rX11_greedy_41 a1, k_Book_isRanked a1, hbD.1, nI_rk k4]
      simp only [up2_eq, va_rf, eq_self, or_true, true_or, Option.toList_some, Option.toList_none, List.cons_append, List.nil_append, if_true, if_false]
      rw [rX11_greedy_44 hX.K2.1, k_greedyTotal hX.K2 hP k1 (hX.tape hTO t0) (by omega) k3 k2 (by omega) (by omega) (by omega)]
      have e1 := grnA_grN (A := begA A (x + 25) (T.1 0 0)) (pk := x + 25) (lf := A (x + 2)) (f := A (ba b + 3)) (rk := decide (T.1 3 b = 2)) k1 (show T.1 0 0 ≤ 120 by omega) k3 k2 (fun n g1 g2 => by rw [begA_out (by omega)]; exact (hGm n g1 g2).2) begA_m.1 (T.1 0 0) (Nat.le_refl _) 0 (by omega) (Nat.zero_le _)
      rw [e1, grN_cg (lf' := fI (T.1 30)) (f' := fI (T.2.1 0 b)) hTO.1.2 hbD.2.2.2.2 k1]
      simp only [rX11_greedy_47, rX11_greedy_48, rX11_greedy_49, s0, r1, up2_eq, va_rf, eq_self, or_true, true_or, Option.toList_some, Option.toList_none, List.cons_append, List.nil_append, if_true, if_false]
      have r1' : begR R (x + 25) (x + 1) (ba b + 1) 1100 x = some (x + 1) := by
        unfold begR
        rw [up2_k (by decide), up2_k (by decide)]
        exact r1
      simp only [r1', up2_eq, va_rf, eq_self, or_true, true_or, Option.toList_some, Option.toList_none, List.cons_append, List.nil_append, if_true, if_false]
      rw [rX11_greedy_52 t1, k_Bytes_clear t1]
      simp only [rX11_greedy_55, rX11_greedy_56, up2_eq, va_rf, eq_self, or_true, true_or, Option.toList_some, Option.toList_none, List.cons_append, List.nil_append, if_true, if_false]
      obtain ⟨q1, q2⟩ := XS_TO (F' := up2 (begF F (x + 25) (T.1 0 0) (T.1 5 b)) 101 (x + 1) (nI 0)) (R' := begR R (x + 25) (x + 1) (ba b + 1)) (A' := grnA (begA A (x + 25) (T.1 0 0)) (A (ba b + 3)) (A (x + 2)) (x + 25) (T.1 0 0) (T.1 5 b) (T.1 4 b) (T.2.1 3 b) (decide (T.1 3 b = 2)) (T.1 0 0)) (t := 0) (o := T.1 1 0) (f := T.1 30) (g := T.1 31) h (fun q a hq => by unfold begF; rw [up2_o (by omega), up2_o (by omega), up2_o (by omega)]) (fun q a hq => by unfold begR; rw [up2_o (by omega), up2_o (by omega)]) (fun a ha => by rw [grnA_out (by omega), begA_out (by omega)]) up2_eq (fun j hj => absurd hj (Nat.not_lt_zero _)) (by unfold begF; rw [up2_o (by omega), up2_o (by omega), up2_o (by omega)]; exact hTO.2.1) (fun j hj => by rw [grnA_out (by omega), begA_out (by omega)]; exact hTO.2.2 j hj) (xRd_cong hRd (fun a ha => by unfold begF; rw [up2_o (by omega), up2_o (by omega), up2_o (by omega)]))
      exact hQ n u _ _ _ _ _ _ _ q1 q2 (by omega) (by omega)
/-- the samples, as ints -/
def sbT (J : tJ) : Nat → Nat → Int32 := fun i => fI (J 1 i)
def s_price (T : TT) (i : Int32) : Int32 := match bx i (T.1 2 0) with
  | none => -3
  | some b => nI (sumP (sbT T.2.1) (T.1 7) (fI (T.2.1 0 b)) (T.1 5 b) (T.1 4 b) (T.2.1 3 b) (decide (T.1 3 b = 2)) (T.1 6 0))
theorem c_price {i : Int32} (h : XS n sh F R A B x ba ma T) (hT : okT T) (hQ : xPost n u sh F R A x (s_price T i, T) Q) : rc_ (k + 8) mX11_price [.ref x, .int i] (mkh n u sh F R A B) Q := by
  obtain ⟨hx, hX, hTO, hDr, hBk, hPk, hGm, hSm, hWi, hRd⟩ := id h
  have r9 := hX.r0 1103 9 (by decide)
  have r38 := hX.r0 1108 38 (by decide)
  have s0 := hX.s0
  have s9 := hX.s 9 0 7 0 (by decide)
  have s38 := hX.s 38 0 8 0 (by decide)
  have hS := hX.shelf hBk hT.2.2.2.1.1
  rw [eX11_price]
  simp only [rX11_price_0, rX11_price_1, rX11_price_4, s0, r9, up2_eq, va_rf, eq_self, or_true, true_or, Option.toList_some, Option.toList_none, List.cons_append, List.nil_append, if_true, if_false]
  rw [rX11_price_5 s9, k_Shelf_findOr hS, bx_map hBk.2.1]
  unfold s_price at hQ
  cases hi : bx i (T.1 2 0) with
  | none =>
    rw [hi] at hQ
    simp only [Option.map_none, rX11_price_8, rX11_price_8_n, rX11_price_9, rX11_price_9_n, rX11_price_10, rX11_price_10_n, rX11_price_13, rX11_price_15, up2_eq, va_rf, eq_self, or_true, true_or, Option.toList_some, Option.toList_none, List.cons_append, List.nil_append, if_true, if_false]
    exact xPost_same hQ h
  | some b =>
    rw [hi] at hQ
    have hb := bx_some hi
    dsimp only at hQ
    obtain ⟨hbS, hbD, -⟩ := hBk.2.2.2.2 b hb
    obtain ⟨a1, a2, a3, a4, a5, a6, a7, a8, a9⟩ := id hbS
    obtain ⟨k1, k2, k3, k4, k5, k6, k7⟩ := (hT.2.2.2.1.2.1 b hb).1
    have hP := bkP hbS hbD k2 k3
    obtain ⟨h117, -⟩ := xBk_at hBk hx hb
    simp only [Option.map_some, rX11_price_8, rX11_price_8_n, rX11_price_9, rX11_price_9_n, rX11_price_10, rX11_price_10_n, rX11_price_16, rX11_price_17, rX11_price_20, rX11_price_20_n, rX11_price_21, rX11_price_24, rX11_price_24_n, s0, r38, a1, a2, up2_eq, va_rf, eq_self, or_true, true_or, Option.toList_some, Option.toList_none, List.cons_append, List.nil_append, if_true, if_false]
    rw [rX11_price_25 a1, k_Book_isRanked a1, hbD.1, nI_rk k4]
    simp only [up2_eq, va_rf, eq_self, or_true, true_or, Option.toList_some, Option.toList_none, List.cons_append, List.nil_append, if_true, if_false]
    rw [rX11_price_28 s38]
    refine k_Tleast (pk := x + 25) (ns := T.1 6 0) (sl := T.1 7) hX.T hSm.1 hX.K2 (fun n g1 g2 => (hGm n g1 g2).2) hP k1 k3 k2 (by omega) (by omega) (by omega) (fun e => k5 (by have := of_decide_eq_true e; omega)) ?_
    intro F' R' A' hfr
    rw [sumP_cg (sb := sbA A (x + 38)) (sb' := sbT T.2.1) (f' := fI (T.2.1 0 b)) hbD.2.2.2.2 k1 (T.1 6 0) (fun i hi j hj => by
      show A (x + 38 + 10 + 2 * i) j = nI (T.2.1 1 i j)
      rw [show x + 38 + 10 + 2 * i = x + 48 + 2 * i by omega]
      exact hSm.2.1 i hi j hj)]
    simp only [rX11_price_31, up2_eq, va_rf, eq_self, or_true, true_or, Option.toList_some, Option.toList_none, List.cons_append, List.nil_append, if_true, if_false]
    obtain ⟨f1, f2, f3⟩ := hfr
    have q := XS_TO (F' := F') (R' := R') (A' := A') (t := T.1 0 0) (o := T.1 1 0) (f := T.1 30) (g := T.1 31) h (fun q a hq => f1 q a (by omega) (by omega)) (fun q a hq => f2 q a (by omega) (by omega)) (fun a ha => f3 a (by omega)) (by rw [f1 _ _ (by omega) (by omega)]; exact hTO.1.1) (by rw [f3 _ (by omega)]; exact hTO.1.2) (by rw [f1 _ _ (by omega) (by omega)]; exact hTO.2.1) (by rw [f3 _ (by omega)]; exact hTO.2.2) (xRd_cong hRd (fun a ha => f1 _ _ (by omega) (by omega)))
    rw [sTO_id] at q
    exact hQ n u _ _ _ _ _ _ _ q.1 q.2 (by omega) (by omega)
end LOK
