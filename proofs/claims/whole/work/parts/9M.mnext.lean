/-! ===== the reference: the next piece ===== -/
/-- while the pieces are tried: c pieces of s bytes stay -/
def frN12 (y c s : Nat) (F : hF_) (A : hF_) (F' : hF_) (A' : hF_) : Prop := (∀ q a, ¬ ((q = 1232 ∨ q = 1263) ∧ a = y) → F' q a = F q a) ∧ (∀ a, ¬ (y + 4 ≤ a ∧ a ≤ y + 6) → ¬ (y + 22 ≤ a ∧ a ≤ y + 27) → A' a = A a) ∧ (∀ j, A' (y + 4) j = A (y + 4) j) ∧ (∀ j, j ≠ 525 + c → A' (y + 5) j = A (y + 5) j) ∧ ∀ j, j < 100000 + s → A' (y + 6) j = A (y + 6) j
theorem frN12_refl {y c s : Nat} {F : hF_} {A : hF_} : frN12 y c s F A F A := ⟨fun _ _ _ => rfl, fun _ _ _ => rfl, fun _ => rfl, fun _ _ => rfl, fun _ _ => rfl⟩
theorem frN12_trans {y c s : Nat} {F F1 F2 : hF_} {A A1 A2 : hF_} (h : frN12 y c s F A F1 A1) (h' : frN12 y c s F1 A1 F2 A2) : frN12 y c s F A F2 A2 := ⟨fun q a g => by rw [h'.1 q a g, h.1 q a g], fun a g1 g2 => by rw [h'.2.1 a g1 g2, h.2.1 a g1 g2], fun j => by rw [h'.2.2.1 j, h.2.2.1 j], fun j g => by rw [h'.2.2.2.1 j g, h.2.2.2.1 j g], fun j g => by rw [h'.2.2.2.2 j g, h.2.2.2.2 j g]⟩
theorem mB1_N {y c s : Nat} {F F' A A' : hF_} {E f : Nat → Nat} (h : mB1 A y 25 c s E f) (h' : frN12 y c s F A F' A') : mB1 A' y 25 c s E f := mB1_cong h (h'.2.2.1 _) (fun q hq => h'.2.2.2.1 _ (by omega)) (fun j hj => h'.2.2.2.2 _ (by omega))
theorem mSb_N {y c s ns : Nat} {F F' A A' : hF_} {J1 : Nat → Nat → Nat} {sl : Nat → Nat} (h : mSb F A y J1 sl ns) (h' : frN12 y c s F A F' A') : mSb F' A' y J1 sl ns := ⟨by rw [h'.1 _ _ (by omega)]; exact h.1, h.2.1, fun i hi => by rw [h'.2.1 _ (by omega) (by omega)]; exact h.2.2.1 i hi, fun i hi j hj => by rw [h'.2.1 _ (by omega) (by omega)]; exact h.2.2.2.1 i hi j hj, h.2.2.2.2⟩
theorem mCs_N {y c s : Nat} {F F' A A' : hF_} {S : cS} (h : mCs F A y S) (h' : frN12 y c s F A F' A') : mCs F' A' y S := ⟨by rw [h'.1 _ _ (by omega)]; exact h.1, fun i hi => by rw [h'.2.1 (y + 34) (by omega) (by omega), h'.2.1 (y + 35) (by omega) (by omega), h'.2.1 (y + 36) (by omega) (by omega)]; exact h.2 i hi⟩
theorem mSm_N {y c s : Nat} {F F' A A' : hF_} {T : TT} (h : mSm F A y T) (h' : frN12 y c s F A F' A') : mSm F' A' y T := mSm_cong h (h'.1 _ _ (by omega)) (h'.2.1 _ (by omega) (by omega)) (h'.2.1 _ (by omega) (by omega))
theorem apG_fI {f g : Nat → Nat} {s : Nat} : fI (fun j => if j < s then f j else g (j - s)) = apG (fI f) s (fun j => nI (g j)) := by
  funext j
  unfold fI apG
  dsimp only
  by_cases c : j < s
  · rw [if_pos c, if_pos c]
  · rw [if_neg c, if_neg c]
section MNX
variable {k n u : Nat} {sh : hs_} {F F' : hF_} {R : hR_} {A A' : hF_} {B : hR_} {Q : Option Value → pm_H → Prop} {y : Nat} {T : TT} {S : cS} {c s kd : Nat} {E f : Nat → Nat} {rk : Bool} {pr : Int32}
theorem l_np147 {i l : Nat} {gain bg : Int32} {ob : Option Nat} {x4 x5 x7 : Value} (hM : isM sh R y) (h63 : F 1263 y = bg) (hl : l = 0 ∨ l = 1)
    (hQ1 : (bg < gain ∨ l = 1) → ∀ x4 x5 x6 x7, rw_ k mX12_nextPiece 9 [.ref y, .int pr, .int (nI i), .int (nI (i + 1)), x4, x5, x6, x7] [] (mkh n u sh (up2 F 1263 y gain) R A B) Q)
    (hQ0 : ¬ (bg < gain ∨ l = 1) → ∀ x4 x5 x6 x7, rw_ k mX12_nextPiece 9 [.ref y, .int pr, .int (bst ob), .int (nI (i + 1)), x4, x5, x6, x7] [] (mkh n u sh F R A B) Q) :
    rw_ k mX12_nextPiece 147 [.ref y, .int pr, .int (bst ob), .int (nI i), x4, x5, .int gain, x7] [.int (nI l)] (mkh n u sh F R A B) Q := by
  have g : ¬ nI 1 = nI 0 := by decide
  by_cases c1 : bg < gain
  · simp only [rX12_nextPiece_147, rX12_nextPiece_149, rX12_nextPiece_151, rX12_nextPiece_152, rX12_nextPiece_155, rX12_nextPiece_163, rX12_nextPiece_164, rX12_nextPiece_165, rX12_nextPiece_166, rX12_nextPiece_168, rX12_nextPiece_171, rX12_nextPiece_174, hM.1, h63, c1, nI_add, up2_eq, va_rf, eq_self, or_true, true_or, Option.toList_some, Option.toList_none, List.cons_append, List.nil_append, if_true, if_false]
    exact hQ1 (Or.inl c1) _ _ _ _
  · rcases hl with rfl | rfl
    · simp only [rX12_nextPiece_147, rX12_nextPiece_149, rX12_nextPiece_151, rX12_nextPiece_152, rX12_nextPiece_155, rX12_nextPiece_158, rX12_nextPiece_160, rX12_nextPiece_171, rX12_nextPiece_174, hM.1, h63, c1, nI_add, up2_eq, va_rf, eq_self, or_true, true_or, Option.toList_some, Option.toList_none, List.cons_append, List.nil_append, if_true, if_false]
      exact hQ0 (fun x => x.elim c1 (by decide)) _ _ _ _
    · simp only [rX12_nextPiece_147, rX12_nextPiece_149, rX12_nextPiece_151, rX12_nextPiece_152, rX12_nextPiece_155, rX12_nextPiece_158, rX12_nextPiece_160, rX12_nextPiece_163, rX12_nextPiece_164, rX12_nextPiece_165, rX12_nextPiece_166, rX12_nextPiece_168, rX12_nextPiece_171, rX12_nextPiece_174, hM.1, h63, c1, g, nI_add, up2_eq, va_rf, eq_self, or_true, true_or, Option.toList_some, Option.toList_none, List.cons_append, List.nil_append, if_true, if_false]
      exact hQ1 (Or.inr rfl) _ _ _ _
theorem l_np (hM : isM sh R y) (hSm : mSm F A y T) (hS : mSb F A y (T.2.1 1) (T.1 7) (T.1 6 0)) (hC : mCs F A y S) (hok : okCS (T.1 6 0) (T.1 7) S) (hB : mB1 A y 25 c s E f) (hE : okE E c s) (hc : c < 6) (hs : s ≤ 12 * c) (hne : ∀ q, q < c → 0 < E q - pst E q) (hk : A (y + 3) 25 = nI kd) (hkd : kd ≤ 2) (hrk : rk = decide (kd = 2))
    (hQ : ∀ F' A', frN12 y c s F A F' A' → F' 1263 y = (tkS (fun i => gnO (sbT T.2.1) (T.1 7) (T.1 6 0) (fI f) s c E rk pr (S.1 i)) (fun i b => ordV (sbT T.2.1) (S.1 i) (S.1 b)) S.2).2 → Q (some (.int (bst (tkS (fun i => gnO (sbT T.2.1) (T.1 7) (T.1 6 0) (fI f) s c E rk pr (S.1 i)) (fun i b => ordV (sbT T.2.1) (S.1 i) (S.1 b)) S.2).1))) (mkh n u sh F' R A' B)) :
    ∀ d i F1 A1 x4 x5 x6 x7, i + d = S.2 → frN12 y c s F A F1 A1 → F1 1263 y = (tkS (fun i => gnO (sbT T.2.1) (T.1 7) (T.1 6 0) (fI f) s c E rk pr (S.1 i)) (fun i b => ordV (sbT T.2.1) (S.1 i) (S.1 b)) i).2 →
    rw_ (k + 5) mX12_nextPiece 9 [.ref y, .int pr, .int (bst (tkS (fun i => gnO (sbT T.2.1) (T.1 7) (T.1 6 0) (fI f) s c E rk pr (S.1 i)) (fun i b => ordV (sbT T.2.1) (S.1 i) (S.1 b)) i).1), .int (nI i), x4, x5, x6, x7] [] (mkh n u sh F1 R A1 B) Q := by
  have r4 := hM.r 1207 4 0 26 (by decide)
  have s4 := hM.s 1207 4 0 26 (by decide)
  have r14 := hM.r 1218 14 0 320 (by decide)
  have s14 := hM.s 1218 14 0 320 (by decide)
  have r34 := hM.r 1255 34 0 9 (by decide)
  have s34 := hM.s 1255 34 0 9 (by decide)
  have r35 := hM.r 1256 35 0 9 (by decide)
  have s35 := hM.s 1256 35 0 9 (by decide)
  have h8 := hok.1
  have hb := hS.2.2.2.2
  intro d
  induction d with
  | zero =>
    intro i F1 A1 x4 x5 x6 x7 hi f1 f2
    have e : i = S.2 := by omega
    subst e
    have e54 := (mCs_N hC f1).1
    have g1 : nI S.2 ≤ nI S.2 := nI_le (Nat.le_refl _) (by omega)
    simp only [rX12_nextPiece_9, rX12_nextPiece_10, rX12_nextPiece_11, rX12_nextPiece_14, rX12_nextPiece_177, rX12_nextPiece_178, hM.1, e54, g1, up2_eq, va_rf, eq_self, or_true, true_or, Option.toList_some, Option.toList_none, List.cons_append, List.nil_append, if_true, if_false]
    exact hQ F1 A1 f1 f2
  | succ d ih =>
    intro i F1 A1 x4 x5 x6 x7 hi f1 f2
    have hC1 := mCs_N hC f1
    have hS1 := mSb_N hS f1
    have hB1 := mB1_N hB f1
    have hm1 := mSm_N hSm f1
    have e54 := hC1.1
    obtain ⟨e34, e35, e36⟩ := hC1.2 i (by omega)
    have hx := hok.2 i (by omega)
    obtain ⟨px1, px2⟩ := mSb_c hS1 hx
    obtain ⟨x1, x2, x3, xx4, xx5⟩ := id hx
    have g1 : ¬ nI S.2 ≤ nI i := nI_ge (by omega) (by omega)
    have ih' := ih (i + 1)
    have htl := tkS_lt (gn := fun i => gnO (sbT T.2.1) (T.1 7) (T.1 6 0) (fI f) s c E rk pr (S.1 i)) (od := fun i b => ordV (sbT T.2.1) (S.1 i) (S.1 b)) i
    rw [show tkS (fun i => gnO (sbT T.2.1) (T.1 7) (T.1 6 0) (fI f) s c E rk pr (S.1 i)) (fun i b => ordV (sbT T.2.1) (S.1 i) (S.1 b)) (i + 1) = if (tkS (fun i => gnO (sbT T.2.1) (T.1 7) (T.1 6 0) (fI f) s c E rk pr (S.1 i)) (fun i b => ordV (sbT T.2.1) (S.1 i) (S.1 b)) i).2 < gnO (sbT T.2.1) (T.1 7) (T.1 6 0) (fI f) s c E rk pr (S.1 i) ∨ (∃ b, (tkS (fun i => gnO (sbT T.2.1) (T.1 7) (T.1 6 0) (fI f) s c E rk pr (S.1 i)) (fun i b => ordV (sbT T.2.1) (S.1 i) (S.1 b)) i).1 = some b ∧ gnO (sbT T.2.1) (T.1 7) (T.1 6 0) (fI f) s c E rk pr (S.1 i) = (tkS (fun i => gnO (sbT T.2.1) (T.1 7) (T.1 6 0) (fI f) s c E rk pr (S.1 i)) (fun i b => ordV (sbT T.2.1) (S.1 i) (S.1 b)) i).2 ∧ ordV (sbT T.2.1) (S.1 i) (S.1 b) < nI 0) then (some i, gnO (sbT T.2.1) (T.1 7) (T.1 6 0) (fI f) s c E rk pr (S.1 i)) else tkS (fun i => gnO (sbT T.2.1) (T.1 7) (T.1 6 0) (fI f) s c E rk pr (S.1 i)) (fun i b => ordV (sbT T.2.1) (S.1 i) (S.1 b)) i from rfl] at ih'
    generalize tkS (fun i => gnO (sbT T.2.1) (T.1 7) (T.1 6 0) (fI f) s c E rk pr (S.1 i)) (fun i b => ordV (sbT T.2.1) (S.1 i) (S.1 b)) i = K at f2 ih' htl ⊢
    have hgn : gnO (sbT T.2.1) (T.1 7) (T.1 6 0) (fI f) s c E rk pr (S.1 i) = pr - nI (sumP (sbT T.2.1) (T.1 7) (fI (fun j => if j < s then f j else cbn (T.2.1 1) (S.1 i) (j - s))) (s + (S.1 i).2.2.1) (c + 1) (apE E c (s + (S.1 i).2.2.1)) rk (T.1 6 0)) - nI (2 + gm (S.1 i).2.2.1 + 8 * (S.1 i).2.2.1) := by
      rw [apG_fI]
      rfl
    rw [hgn] at ih'
    simp only [rX12_nextPiece_9, rX12_nextPiece_10, rX12_nextPiece_11, rX12_nextPiece_14, rX12_nextPiece_17, rX12_nextPiece_18, rX12_nextPiece_21, hM.1, e54, g1, r35, up2_eq, va_rf, eq_self, or_true, true_or, Option.toList_some, Option.toList_none, List.cons_append, List.nil_append, if_true, if_false]
    rw [rX12_nextPiece_22 s35 (by decide) (by omega) (by omega), e35]
    simp only [rX12_nextPiece_23, rX12_nextPiece_25, rX12_nextPiece_26, rX12_nextPiece_29, hM.1, r4, up2_eq, va_rf, eq_self, or_true, true_or, Option.toList_some, Option.toList_none, List.cons_append, List.nil_append, if_true, if_false]
    rw [rX12_nextPiece_31 s4 (by decide) (by omega) (by omega), hB1.1]
    simp only [rX12_nextPiece_32, rX12_nextPiece_34, rX12_nextPiece_35, rX12_nextPiece_37, rX12_nextPiece_38, rX12_nextPiece_41, rX12_nextPiece_42, rX12_nextPiece_45, hM.1, r14, r34, up2_eq, va_rf, eq_self, or_true, true_or, Option.toList_some, Option.toList_none, List.cons_append, List.nil_append, if_true, if_false]
    rw [rX12_nextPiece_46 s34 (by decide) (by omega) (by omega), e34]
    simp only [rX12_nextPiece_47, up2_eq, va_rf, eq_self, or_true, true_or, Option.toList_some, Option.toList_none, List.cons_append, List.nil_append, if_true, if_false]
    rw [rX12_nextPiece_49 hM.1]
    refine k_addPiece (k := k + 3) (b := 25) (z := 320) hM (by omega) hB1 hE (by omega) (by omega) s14 px1 (by omega) (by omega) (by omega) ?_
    intro A2 p1 p2 p3 p4 p5 p6 p7
    have hB2 := mB1_add (g := cbn (T.2.1 1) (S.1 i)) hB1 hE p2 (fun j hj => by rw [p3 j hj]; exact (px2 j hj).1) p4 p5 p7
    have hm2 : mSm F1 A2 y T := mSm_cong hm1 rfl (p1 _ (by omega) (by omega) (by omega)) (p1 _ (by omega) (by omega) (by omega))
    have hk2 : A2 (y + 3) 25 = nI kd := by rw [p1 _ (by omega) (by omega) (by omega), f1.2.1 _ (by omega) (by omega)]; exact hk
    have hne2 : rk = true → ∀ q, q < c + 1 → 0 < apE E c (s + (S.1 i).2.2.1) q - pst (apE E c (s + (S.1 i).2.2.1)) q := fun _ q hq => by
      rw [apE_pst q (by omega)]
      unfold apE
      by_cases z : q = c
      · rw [if_pos z, z, hE.2]; omega
      · rw [if_neg z]; exact hne q (by omega)
    simp only [rX12_nextPiece_52, rX12_nextPiece_53, rX12_nextPiece_54, up2_eq, va_rf, eq_self, or_true, true_or, Option.toList_some, Option.toList_none, List.cons_append, List.nil_append, if_true, if_false]
    rw [rX12_nextPiece_56 hM.1]
    refine k_priceOfAll (k := k) (bi := nI 25) hM hm2 hS1.2.1 (fun i hi => (hS1.2.2.1 i hi).2) (Or.inr ⟨25, kd, by omega, rfl, hB2, hk2, hkd, hrk⟩) (apE_ok hE) (by omega) (by omega) hne2 ?_
    intro F3 A3 q1
    simp only [rX12_nextPiece_59, rX12_nextPiece_60, rX12_nextPiece_61, up2_eq, va_rf, eq_self, or_true, true_or, Option.toList_some, Option.toList_none, List.cons_append, List.nil_append, if_true, if_false]
    rw [rX12_nextPiece_63, k_g (by omega) (by omega)]
    simp only [rX12_nextPiece_66, rX12_nextPiece_67, rX12_nextPiece_69, rX12_nextPiece_71, rX12_nextPiece_72, rX12_nextPiece_73, rX12_nextPiece_74, rX12_nextPiece_76, rX12_nextPiece_77, rX12_nextPiece_80, rX12_nextPiece_82, hM.1, r4, nI_add, pk_mul, up2_eq, va_rf, eq_self, or_true, true_or, Option.toList_some, Option.toList_none, List.cons_append, List.nil_append, if_true, if_false]
    rw [rX12_nextPiece_84 s4 (by omega) (by omega)]
    generalize pr - nI (sumP (sbT T.2.1) (T.1 7) (fI (fun j => if j < s then f j else cbn (T.2.1 1) (S.1 i) (j - s))) (s + (S.1 i).2.2.1) (c + 1) (apE E c (s + (S.1 i).2.2.1)) rk (T.1 6 0)) - nI (2 + gm (S.1 i).2.2.1 + 8 * (S.1 i).2.2.1) = gain at ih' ⊢
    have f4 : frN12 y c s F A F3 (up2 A3 (y + 4) 25 (nI c)) := by
      refine ⟨fun q a g => by rw [q1.1 q a (by omega)]; exact f1.1 q a g, fun a g1 g2 => by rw [up2_row (by omega), q1.2 a (by omega), p1 a (by omega) (by omega) (by omega)]; exact f1.2.1 a g1 g2, fun j => ?_, fun j hj => ?_, fun j hj => ?_⟩
      · by_cases z : j = 25
        · subst z; rw [up2_eq]; exact hB.1.symm
        · rw [up2_a z, q1.2 _ (by omega), p6 j z]; exact f1.2.2.1 j
      · rw [up2_row (by omega), q1.2 _ (by omega), p4 j (by omega)]; exact f1.2.2.2.1 j hj
      · rw [up2_row (by omega), q1.2 _ (by omega), p2 j (by omega)]; exact f1.2.2.2.2 j hj
    have e63 : F3 1263 y = K.2 := by rw [q1.1 _ _ (by omega)]; exact f2
    have hC4 := mCs_N hC f4
    have hS4 := mSb_N hS f4
    generalize up2 A3 (y + 4) 25 (nI c) = A4 at f4 hC4 hS4 ⊢
    obtain ⟨w34, w35, w36⟩ := hC4.2 i (by omega)
    have up : (K.2 < gain ∨ (∃ b, K.1 = some b ∧ gain = K.2 ∧ ordV (sbT T.2.1) (S.1 i) (S.1 b) < nI 0)) → ∀ x4 x5 x6 x7, rw_ (k + 5) mX12_nextPiece 9 [.ref y, .int pr, .int (nI i), .int (nI (i + 1)), x4, x5, x6, x7] [] (mkh n u sh (up2 F3 1263 y gain) R A4 B) Q := by
      intro hc x4 x5 x6 x7
      rw [if_pos hc] at ih'
      exact ih' (up2 F3 1263 y gain) A4 x4 x5 x6 x7 (by omega) (frN12_trans f4 ⟨fun q a g => up2_o (by omega), fun _ _ _ => rfl, fun _ => rfl, fun _ _ => rfl, fun _ _ => rfl⟩) up2_eq
    have no : ¬ (K.2 < gain ∨ (∃ b, K.1 = some b ∧ gain = K.2 ∧ ordV (sbT T.2.1) (S.1 i) (S.1 b) < nI 0)) → ∀ x4 x5 x6 x7, rw_ (k + 5) mX12_nextPiece 9 [.ref y, .int pr, .int (bst K.1), .int (nI (i + 1)), x4, x5, x6, x7] [] (mkh n u sh F3 R A4 B) Q := by
      intro hc x4 x5 x6 x7
      rw [if_neg hc] at ih'
      exact ih' F3 A4 x4 x5 x6 x7 (by omega) f4 e63
    have go : ∀ l, (l = 0 ∨ l = 1) → (l = 1 ↔ ∃ b, K.1 = some b ∧ gain = K.2 ∧ ordV (sbT T.2.1) (S.1 i) (S.1 b) < nI 0) → ∀ x4 x5 x7, rw_ (k + 5) mX12_nextPiece 147 [.ref y, .int pr, .int (bst K.1), .int (nI i), x4, x5, .int gain, x7] [.int (nI l)] (mkh n u sh F3 R A4 B) Q := by
      intro l hl hiff x4 x5 x7
      refine l_np147 (ob := K.1) hM e63 hl (fun h => up (h.imp id hiff.mp)) (fun h => no (fun z => h (z.imp id hiff.mpr)))
    cases hK : K.1 with
    | none =>
      have hbs : bst K.1 = -1 := by rw [hK]; rfl
      have := go 0 (Or.inl rfl) ⟨fun z => absurd z (by decide), fun ⟨b, z, _⟩ => by rw [hK] at z; cases z⟩
      rw [hK] at this
      have hb1 : bst none = -1 := rfl
      rw [hb1] at this ⊢
      simp only [rX12_nextPiece_85, rX12_nextPiece_86, rX12_nextPiece_87, rX12_nextPiece_146, up2_eq, va_rf, eq_self, or_true, true_or, Option.toList_some, Option.toList_none, List.cons_append, List.nil_append, if_true, if_false]
      exact this _ _ _
    | some b =>
      have hbl := htl b hK
      have hbs : bst (some b) = nI b := rfl
      rw [hK, hbs] at go
      rw [hbs]
      have gb := nI_neg1 (b := b) (by omega)
      obtain ⟨v34, v35, v36⟩ := hC4.2 b (by omega)
      have hxb := hok.2 b (by omega)
      obtain ⟨pb1, pb2⟩ := mSb_c hS4 hxb
      obtain ⟨pi1, pi2⟩ := mSb_c hS4 hx
      obtain ⟨b1, b2, b3, b4, b5⟩ := id hxb
      have hov := ordV_lt (J := T.2.1) hb hx hxb
      by_cases c1 : gain = K.2
      · simp only [rX12_nextPiece_85, rX12_nextPiece_86, rX12_nextPiece_87, rX12_nextPiece_90, rX12_nextPiece_92, rX12_nextPiece_93, rX12_nextPiece_96, rX12_nextPiece_99, rX12_nextPiece_101, rX12_nextPiece_102, rX12_nextPiece_105, hM.1, gb, e63, c1, r35, up2_eq, va_rf, eq_self, or_true, true_or, Option.toList_some, Option.toList_none, List.cons_append, List.nil_append, if_true, if_false]
        rw [rX12_nextPiece_106 s35 (by decide) (by omega) (by omega), v35]
        have yes : vLt (T.2.1 1) (S.1 i) (S.1 b) → ∀ x4 x5 x7, rw_ (k + 5) mX12_nextPiece 147 [.ref y, .int pr, .int (nI b), .int (nI i), x4, x5, .int K.2, x7] [.int (nI 1)] (mkh n u sh F3 R A4 B) Q := by
          intro hv
          have := go 1 (Or.inr rfl) ⟨fun _ => ⟨b, rfl, c1, hov.mpr hv⟩, fun _ => rfl⟩
          rw [c1] at this
          exact this
        have nay : ¬ vLt (T.2.1 1) (S.1 i) (S.1 b) → ∀ x4 x5 x7, rw_ (k + 5) mX12_nextPiece 147 [.ref y, .int pr, .int (nI b), .int (nI i), x4, x5, .int K.2, x7] [.int (nI 0)] (mkh n u sh F3 R A4 B) Q := by
          intro hv
          have := go 0 (Or.inl rfl) ⟨fun z => absurd z (by decide), fun ⟨b', z1, z2, z3⟩ => by cases z1; exact absurd (hov.mp z3) hv⟩
          rw [c1] at this
          exact this
        by_cases c2 : (S.1 b).2.2.1 < (S.1 i).2.2.1
        · have g2 : nI (S.1 b).2.2.1 < nI (S.1 i).2.2.1 := nI_lt c2 (by omega)
          simp only [rX12_nextPiece_107, rX12_nextPiece_142, rX12_nextPiece_143, g2, up2_eq, va_rf, eq_self, or_true, true_or, Option.toList_some, Option.toList_none, List.cons_append, List.nil_append, if_true, if_false]
          exact yes (Or.inl c2) _ _ _
        · have g2 : ¬ nI (S.1 b).2.2.1 < nI (S.1 i).2.2.1 := nI_nlt (by omega) (by omega)
          simp only [rX12_nextPiece_107, rX12_nextPiece_110, rX12_nextPiece_112, rX12_nextPiece_113, rX12_nextPiece_116, hM.1, g2, r35, up2_eq, va_rf, eq_self, or_true, true_or, Option.toList_some, Option.toList_none, List.cons_append, List.nil_append, if_true, if_false]
          rw [rX12_nextPiece_117 s35 (by decide) (by omega) (by omega), v35]
          by_cases c3 : (S.1 i).2.2.1 = (S.1 b).2.2.1
          · have g3 : nI (S.1 i).2.2.1 = nI (S.1 b).2.2.1 := by rw [c3]
            simp only [rX12_nextPiece_118, rX12_nextPiece_121, rX12_nextPiece_122, rX12_nextPiece_123, rX12_nextPiece_126, hM.1, g3, r34, up2_eq, va_rf, eq_self, or_true, true_or, Option.toList_some, Option.toList_none, List.cons_append, List.nil_append, if_true, if_false]
            rw [rX12_nextPiece_127 s34 (by decide) (by omega) (by omega), w34]
            simp only [rX12_nextPiece_128, rX12_nextPiece_129, rX12_nextPiece_132, hM.1, r34, up2_eq, va_rf, eq_self, or_true, true_or, Option.toList_some, Option.toList_none, List.cons_append, List.nil_append, if_true, if_false]
            rw [rX12_nextPiece_133 s34 (by decide) (by omega) (by omega), v34]
            simp only [rX12_nextPiece_134, up2_eq, va_rf, eq_self, or_true, true_or, Option.toList_some, Option.toList_none, List.cons_append, List.nil_append, if_true, if_false]
            rw [rX12_nextPiece_136 hM.1]
            refine k_isFirst (fa := cbn (T.2.1 1) (S.1 i)) (fb := cbn (T.2.1 1) (S.1 b)) hM (by omega) pb1 (fun j hj => pi2 j (by omega)) pb2 (fun hy => ?_) (fun hy => ?_)
            · have g4 : ¬ nI 1 = nI 0 := by decide
              simp only [rX12_nextPiece_139, rX12_nextPiece_142, rX12_nextPiece_143, g4, up2_eq, va_rf, eq_self, or_true, true_or, Option.toList_some, Option.toList_none, List.cons_append, List.nil_append, if_true, if_false]
              exact yes (Or.inr ⟨c3, by rw [c3]; exact hy⟩) _ _ _
            · simp only [rX12_nextPiece_139, rX12_nextPiece_146, up2_eq, va_rf, eq_self, or_true, true_or, Option.toList_some, Option.toList_none, List.cons_append, List.nil_append, if_true, if_false]
              refine nay (fun z => ?_) _ _ _
              rcases z with z | ⟨z1, z2⟩
              · omega
              · rw [c3] at z2; exact hy z2
          · have g3 : ¬ nI (S.1 i).2.2.1 = nI (S.1 b).2.2.1 := by rw [nI_eq (by omega) (by omega)]; exact c3
            simp only [rX12_nextPiece_118, rX12_nextPiece_146, g3, up2_eq, va_rf, eq_self, or_true, true_or, Option.toList_some, Option.toList_none, List.cons_append, List.nil_append, if_true, if_false]
            refine nay (fun z => ?_) _ _ _
            rcases z with z | ⟨z1, z2⟩ <;> omega
      · have := go 0 (Or.inl rfl) ⟨fun z => absurd z (by decide), fun ⟨b', z1, z2, z3⟩ => absurd z2 c1⟩
        simp only [rX12_nextPiece_85, rX12_nextPiece_86, rX12_nextPiece_87, rX12_nextPiece_90, rX12_nextPiece_92, rX12_nextPiece_93, rX12_nextPiece_96, rX12_nextPiece_146, hM.1, gb, e63, c1, up2_eq, va_rf, eq_self, or_true, true_or, Option.toList_some, Option.toList_none, List.cons_append, List.nil_append, if_true, if_false]
        exact this _ _ _
theorem k_nextPiece (hM : isM sh R y) (hSm : mSm F A y T) (hS : mSb F A y (T.2.1 1) (T.1 7) (T.1 6 0)) (hC : mCs F A y S) (hok : okCS (T.1 6 0) (T.1 7) S) (hB : mB1 A y 25 c s E f) (hE : okE E c s) (hc : c < 6) (hs : s ≤ 12 * c) (hne : ∀ q, q < c → 0 < E q - pst E q) (hk : A (y + 3) 25 = nI kd) (hkd : kd ≤ 2) (hrk : rk = decide (kd = 2))
    (hQ : ∀ F' A', frN12 y c s F A F' A' → F' 1263 y = (nxt (sbT T.2.1) (T.1 7) (T.1 6 0) S (fI f) s c E rk).2 → Q (some (.int (bst (nxt (sbT T.2.1) (T.1 7) (T.1 6 0) S (fI f) s c E rk).1))) (mkh n u sh F' R A' B)) :
    rc_ (k + 5) mX12_nextPiece [.ref y, .int (nI (sumP (sbT T.2.1) (T.1 7) (fI f) s c E rk (T.1 6 0)))] (mkh n u sh F R A B) Q := by
  rw [eX12_nextPiece]
  simp only [rX12_nextPiece_0, rX12_nextPiece_1, rX12_nextPiece_2, rX12_nextPiece_3, rX12_nextPiece_4, rX12_nextPiece_7, rX12_nextPiece_8, hM.1, up2_eq, va_rf, eq_self, or_true, true_or, Option.toList_some, Option.toList_none, List.cons_append, List.nil_append, if_true, if_false]
  exact l_np (pr := nI (sumP (sbT T.2.1) (T.1 7) (fI f) s c E rk (T.1 6 0))) hM hSm hS hC hok hB hE hc hs hne hk hkd hrk hQ S.2 0 _ A _ _ _ _ (Nat.zero_add _) ⟨fun q a g => up2_o (by omega), fun _ _ _ => rfl, fun _ => rfl, fun _ _ => rfl, fun _ _ => rfl⟩ up2_eq
end MNX
