/-! ===== the reference: train ===== -/
/-- what training leaves, while it goes on -/
def frT12 (y : Nat) (F : hF_) (A : hF_) (F' : hF_) (A' : hF_) : Prop := (∀ q a, ¬ ((q = 1232 ∨ q = 1263) ∧ a = y) → F' q a = F q a) ∧ (∀ a, ¬ (y + 4 ≤ a ∧ a ≤ y + 6) → ¬ (y + 22 ≤ a ∧ a ≤ y + 27) → a ≠ y + 38 → A' a = A a) ∧ (∀ j, j ≠ 25 → A' (y + 4) j = A (y + 4) j) ∧ (∀ j, j < 525 → A' (y + 5) j = A (y + 5) j) ∧ ∀ j, j < 100000 → A' (y + 6) j = A (y + 6) j
theorem frT12_refl {y : Nat} {F : hF_} {A : hF_} : frT12 y F A F A := ⟨fun _ _ _ => rfl, fun _ _ _ _ => rfl, fun _ _ => rfl, fun _ _ => rfl, fun _ _ => rfl⟩
theorem frT12_trans {y : Nat} {F F1 F2 : hF_} {A A1 A2 : hF_} (h : frT12 y F A F1 A1) (h' : frT12 y F1 A1 F2 A2) : frT12 y F A F2 A2 := ⟨fun q a g => by rw [h'.1 q a g, h.1 q a g], fun a g1 g2 g3 => by rw [h'.2.1 a g1 g2 g3, h.2.1 a g1 g2 g3], fun j g => by rw [h'.2.2.1 j g, h.2.2.1 j g], fun j g => by rw [h'.2.2.2.1 j g, h.2.2.2.1 j g], fun j g => by rw [h'.2.2.2.2 j g, h.2.2.2.2 j g]⟩
theorem frN_T {y c s : Nat} {F F' : hF_} {A A' : hF_} (h : frN12 y c s F A F' A') : frT12 y F A F' A' := ⟨h.1, fun a g1 g2 _ => h.2.1 a g1 g2, fun j _ => h.2.2.1 j, fun j hj => h.2.2.2.1 j (by omega), fun j hj => h.2.2.2.2 j (by omega)⟩
theorem mSb_T {y ns : Nat} {F F' A A' : hF_} {J1 : Nat → Nat → Nat} {sl : Nat → Nat} (h : mSb F A y J1 sl ns) (h' : frT12 y F A F' A') : mSb F' A' y J1 sl ns := ⟨by rw [h'.1 _ _ (by omega)]; exact h.1, h.2.1, fun i hi => by rw [h'.2.1 _ (by omega) (by omega) (by omega)]; exact h.2.2.1 i hi, fun i hi j hj => by rw [h'.2.1 _ (by omega) (by omega) (by omega)]; exact h.2.2.2.1 i hi j hj, h.2.2.2.2⟩
theorem mCs_T {y : Nat} {F F' A A' : hF_} {S : cS} (h : mCs F A y S) (h' : frT12 y F A F' A') : mCs F' A' y S := ⟨by rw [h'.1 _ _ (by omega)]; exact h.1, fun i hi => by rw [h'.2.1 (y + 34) (by omega) (by omega) (by omega), h'.2.1 (y + 35) (by omega) (by omega) (by omega), h'.2.1 (y + 36) (by omega) (by omega) (by omega)]; exact h.2 i hi⟩
theorem mSm_T {y : Nat} {F F' A A' : hF_} {T : TT} (h : mSm F A y T) (h' : frT12 y F A F' A') : mSm F' A' y T := mSm_cong h (h'.1 _ _ (by omega)) (h'.2.1 _ (by omega) (by omega) (by omega)) (h'.2.1 _ (by omega) (by omega) (by omega))
section MTR
variable {k n u : Nat} {sh : hs_} {F F' : hF_} {R : hR_} {A A' : hF_} {B : hR_} {Q : Option Value → pm_H → Prop} {y : Nat} {T : TT} {S : cS} {c s kd mo : Nat} {E f : Nat → Nat} {rk : Bool}
theorem l_tr (hM : isM sh R y) (hSm : mSm F A y T) (hS : mSb F A y (T.2.1 1) (T.1 7) (T.1 6 0)) (hC : mCs F A y S) (hok : okCS (T.1 6 0) (T.1 7) S) (hk : A (y + 3) 25 = nI kd) (hkd : kd ≤ 2) (hrk : rk = decide (kd = 2)) (hmo : mo ≤ 6)
    (hQ : ∀ F' A' f x3 x4, frT12 y F A F' A' → mB1 A' y 25 (trL (sbT T.2.1) (T.1 7) (T.1 6 0) S rk mo).2.2.1 (trL (sbT T.2.1) (T.1 7) (T.1 6 0) S rk mo).2.1 (trL (sbT T.2.1) (T.1 7) (T.1 6 0) S rk mo).2.2.2.1 f → (∀ j, j < (trL (sbT T.2.1) (T.1 7) (T.1 6 0) S rk mo).2.1 → nI (f j) = (trL (sbT T.2.1) (T.1 7) (T.1 6 0) S rk mo).1 j) → (∀ j, j < (trL (sbT T.2.1) (T.1 7) (T.1 6 0) S rk mo).2.2.1 → A' (y + 38) j = (trL (sbT T.2.1) (T.1 7) (T.1 6 0) S rk mo).2.2.2.2.1 j) → rw_ (k + 6) mX12_train 147 [.ref y, .int (nI kd), .int (nI mo), x3, x4] [] (mkh n u sh F' R A' B) Q) :
    ∀ d r F1 A1 f x4, r + d = mo → frT12 y F A F1 A1 → (trL (sbT T.2.1) (T.1 7) (T.1 6 0) S rk r).2.2.2.2.2 = true → mB1 A1 y 25 (trL (sbT T.2.1) (T.1 7) (T.1 6 0) S rk r).2.2.1 (trL (sbT T.2.1) (T.1 7) (T.1 6 0) S rk r).2.1 (trL (sbT T.2.1) (T.1 7) (T.1 6 0) S rk r).2.2.2.1 f → (∀ j, j < (trL (sbT T.2.1) (T.1 7) (T.1 6 0) S rk r).2.1 → nI (f j) = (trL (sbT T.2.1) (T.1 7) (T.1 6 0) S rk r).1 j) → (∀ j, j < (trL (sbT T.2.1) (T.1 7) (T.1 6 0) S rk r).2.2.1 → A1 (y + 38) j = (trL (sbT T.2.1) (T.1 7) (T.1 6 0) S rk r).2.2.2.2.1 j) →
    rw_ (k + 6) mX12_train 61 [.ref y, .int (nI kd), .int (nI mo), .int (nI 1), x4] [] (mkh n u sh F1 R A1 B) Q := by
  have r4 := hM.r 1207 4 0 26 (by decide)
  have s4 := hM.s 1207 4 0 26 (by decide)
  have r14 := hM.r 1218 14 0 320 (by decide)
  have s14 := hM.s 1218 14 0 320 (by decide)
  have r34 := hM.r 1255 34 0 9 (by decide)
  have s34 := hM.s 1255 34 0 9 (by decide)
  have r35 := hM.r 1256 35 0 9 (by decide)
  have s35 := hM.s 1256 35 0 9 (by decide)
  have r38 := hM.r 1262 38 0 6 (by decide)
  have s38 := hM.s 1262 38 0 6 (by decide)
  have g : ¬ nI 1 = nI 0 := by decide
  have hby : ∀ i, i < T.1 6 0 → ∀ j, j < T.1 7 i → ∃ v, v < 256 ∧ sbT T.2.1 i j = nI v := fun i hi j hj => ⟨_, hS.2.2.2.2 i hi j hj, rfl⟩
  have hZ := fun r => trL_ok (rk := rk) hby hok r
  have h8 := hok.1
  intro d
  induction d with
  | zero =>
    intro r F1 A1 f x4 hr f1 f2 f3 f4 f5
    have e : r = mo := by omega
    subst e
    have hz := hZ r
    have ec := hz.2.2.2.2.2 f2
    have e4 := f3.1
    rw [ec] at e4
    have g1 : nI r ≤ nI r := nI_le (Nat.le_refl _) (by omega)
    simp only [rX12_train_61, rX12_train_62, rX12_train_65, rX12_train_66, rX12_train_69, hM.1, g, r4, up2_eq, va_rf, eq_self, or_true, true_or, Option.toList_some, Option.toList_none, List.cons_append, List.nil_append, if_true, if_false]
    rw [rX12_train_71 s4 (by decide) (by omega) (by omega), e4]
    simp only [rX12_train_72, rX12_train_73, g1, up2_eq, va_rf, eq_self, or_true, true_or, Option.toList_some, Option.toList_none, List.cons_append, List.nil_append, if_true, if_false]
    exact hQ F1 A1 f _ _ f1 f3 f4 f5
  | succ d ih =>
    intro r F1 A1 f x4 hr f1 f2 f3 f4 f5
    have hz := hZ r
    have ih' := ih (r + 1)
    have hst := trL_stop (sb := sbT T.2.1) (sl := T.1 7) (ns := T.1 6 0) (S := S) (rk := rk) (r := r + 1)
    rw [show trL (sbT T.2.1) (T.1 7) (T.1 6 0) S rk (r + 1) = (if (trL (sbT T.2.1) (T.1 7) (T.1 6 0) S rk r).2.2.2.2.2 = true then (match (nxt (sbT T.2.1) (T.1 7) (T.1 6 0) S (trL (sbT T.2.1) (T.1 7) (T.1 6 0) S rk r).1 (trL (sbT T.2.1) (T.1 7) (T.1 6 0) S rk r).2.1 (trL (sbT T.2.1) (T.1 7) (T.1 6 0) S rk r).2.2.1 (trL (sbT T.2.1) (T.1 7) (T.1 6 0) S rk r).2.2.2.1 rk).1 with
      | none => ((trL (sbT T.2.1) (T.1 7) (T.1 6 0) S rk r).1, (trL (sbT T.2.1) (T.1 7) (T.1 6 0) S rk r).2.1, (trL (sbT T.2.1) (T.1 7) (T.1 6 0) S rk r).2.2.1, (trL (sbT T.2.1) (T.1 7) (T.1 6 0) S rk r).2.2.2.1, (trL (sbT T.2.1) (T.1 7) (T.1 6 0) S rk r).2.2.2.2.1, false)
      | some b => (apC (trL (sbT T.2.1) (T.1 7) (T.1 6 0) S rk r).1 (trL (sbT T.2.1) (T.1 7) (T.1 6 0) S rk r).2.1 (S.1 b).2.2.1 (cbt (sbT T.2.1) (S.1 b)), (trL (sbT T.2.1) (T.1 7) (T.1 6 0) S rk r).2.1 + (S.1 b).2.2.1, (trL (sbT T.2.1) (T.1 7) (T.1 6 0) S rk r).2.2.1 + 1, apE (trL (sbT T.2.1) (T.1 7) (T.1 6 0) S rk r).2.2.2.1 (trL (sbT T.2.1) (T.1 7) (T.1 6 0) S rk r).2.2.1 ((trL (sbT T.2.1) (T.1 7) (T.1 6 0) S rk r).2.1 + (S.1 b).2.2.1), (fun j => if j = (trL (sbT T.2.1) (T.1 7) (T.1 6 0) S rk r).2.2.1 then (nxt (sbT T.2.1) (T.1 7) (T.1 6 0) S (trL (sbT T.2.1) (T.1 7) (T.1 6 0) S rk r).1 (trL (sbT T.2.1) (T.1 7) (T.1 6 0) S rk r).2.1 (trL (sbT T.2.1) (T.1 7) (T.1 6 0) S rk r).2.2.1 (trL (sbT T.2.1) (T.1 7) (T.1 6 0) S rk r).2.2.2.1 rk).2 else (trL (sbT T.2.1) (T.1 7) (T.1 6 0) S rk r).2.2.2.2.1 j), true)) else trL (sbT T.2.1) (T.1 7) (T.1 6 0) S rk r) from rfl] at ih' hst
    generalize trL (sbT T.2.1) (T.1 7) (T.1 6 0) S rk r = Z at hz f2 f3 f4 f5 ih' hst
    obtain ⟨z1, z2, z3, z4, z5, z6⟩ := hz
    have ec := z6 f2
    rw [if_pos f2] at ih' hst
    have e4 := f3.1
    rw [ec] at e4
    have g1 : ¬ nI mo ≤ nI r := nI_ge (by omega) (by omega)
    simp only [rX12_train_61, rX12_train_62, rX12_train_65, rX12_train_66, rX12_train_69, hM.1, g, r4, up2_eq, va_rf, eq_self, or_true, true_or, Option.toList_some, Option.toList_none, List.cons_append, List.nil_append, if_true, if_false]
    rw [rX12_train_71 s4 (by decide) (by omega) (by omega), e4]
    simp only [rX12_train_72, rX12_train_73, rX12_train_76, rX12_train_77, rX12_train_78, g1, up2_eq, va_rf, eq_self, or_true, true_or, Option.toList_some, Option.toList_none, List.cons_append, List.nil_append, if_true, if_false]
    have hne : ∀ q, q < Z.2.2.1 → 0 < Z.2.2.2.1 q - pst Z.2.2.2.1 q := fun q hq => by have := (z4 q hq).1; omega
    have hk1 : A1 (y + 3) 25 = nI kd := by rw [f1.2.1 _ (by omega) (by omega) (by omega)]; exact hk
    have hm1 := mSm_T hSm f1
    have hS1 := mSb_T hS f1
    have hC1 := mCs_T hC f1
    rw [rX12_train_80 hM.1]
    refine k_priceOfAll (k := k + 1) (bi := nI 25) (rk := rk) hM hm1 hS1.2.1 (fun i hi => (hS1.2.2.1 i hi).2) (Or.inr ⟨25, kd, by omega, rfl, f3, hk1, hkd, hrk⟩) z3 (by omega) (by omega) (fun _ => hne) ?_
    intro F2 A2 q1
    have fr2 : frT12 y F1 A1 F2 A2 := ⟨fun q a g => q1.1 q a (by omega), fun a g1 g2 _ => q1.2 a (by omega), fun j _ => by rw [q1.2 _ (by omega)], fun j _ => by rw [q1.2 _ (by omega)], fun j _ => by rw [q1.2 _ (by omega)]⟩
    have hB2 : mB1 A2 y 25 Z.2.2.1 Z.2.1 Z.2.2.2.1 f := mB1_cong f3 (by rw [q1.2 _ (by omega)]) (fun _ _ => by rw [q1.2 _ (by omega)]) (fun _ _ => by rw [q1.2 _ (by omega)])
    simp only [up2_eq, va_rf, eq_self, or_true, true_or, Option.toList_some, Option.toList_none, List.cons_append, List.nil_append, if_true, if_false]
    rw [rX12_train_83 hM.1]
    refine k_nextPiece (k := k) (rk := rk) hM (mSm_T hm1 fr2) (mSb_T hS1 fr2) (mCs_T hC1 fr2) hok hB2 z3 (by omega) z2 hne (by rw [q1.2 _ (by omega)]; exact hk1) hkd hrk ?_
    intro F3 A3 q3 q4
    have fr3 := frT12_trans f1 (frT12_trans fr2 (frN_T q3))
    have hng : nxt (sbT T.2.1) (T.1 7) (T.1 6 0) S (fI f) Z.2.1 Z.2.2.1 Z.2.2.2.1 rk = nxt (sbT T.2.1) (T.1 7) (T.1 6 0) S Z.1 Z.2.1 Z.2.2.1 Z.2.2.2.1 rk := nxt_cgg z3 f4
    rw [hng] at q4 ⊢
    have hB3 := mB1_N hB2 q3
    have e38 : ∀ j, j < Z.2.2.1 → A3 (y + 38) j = Z.2.2.2.2.1 j := fun j hj => by rw [q3.2.1 _ (by omega) (by omega), q1.2 _ (by omega)]; exact f5 j hj
    have htl := tkS_lt (gn := fun i => gnO (sbT T.2.1) (T.1 7) (T.1 6 0) Z.1 Z.2.1 Z.2.2.1 Z.2.2.2.1 rk (nI (sumP (sbT T.2.1) (T.1 7) Z.1 Z.2.1 Z.2.2.1 Z.2.2.2.1 rk (T.1 6 0))) (S.1 i)) (od := fun i b => ordV (sbT T.2.1) (S.1 i) (S.1 b)) S.2
    have hnd : tkS (fun i => gnO (sbT T.2.1) (T.1 7) (T.1 6 0) Z.1 Z.2.1 Z.2.2.1 Z.2.2.2.1 rk (nI (sumP (sbT T.2.1) (T.1 7) Z.1 Z.2.1 Z.2.2.1 Z.2.2.2.1 rk (T.1 6 0))) (S.1 i)) (fun i b => ordV (sbT T.2.1) (S.1 i) (S.1 b)) S.2 = nxt (sbT T.2.1) (T.1 7) (T.1 6 0) S Z.1 Z.2.1 Z.2.2.1 Z.2.2.2.1 rk := rfl
    rw [hnd] at htl
    generalize nxt (sbT T.2.1) (T.1 7) (T.1 6 0) S Z.1 Z.2.1 Z.2.2.1 Z.2.2.2.1 rk = K at q4 ih' hst htl ⊢
    cases hK : K.1 with
    | none =>
      have hbs : bst none = -1 := rfl
      rw [hK] at hst
      rw [hbs]
      have hst2 := hst (show ¬ false = true by decide) d
      rw [show r + 1 + d = mo by omega] at hst2
      simp only [rX12_train_86, rX12_train_88, rX12_train_90, rX12_train_91, rX12_train_98, rX12_train_99, rX12_train_100, rX12_train_101, rX12_train_144, up2_eq, va_rf, eq_self, or_true, true_or, Option.toList_some, Option.toList_none, List.cons_append, List.nil_append, if_true, if_false]
      simp only [rX12_train_61, rX12_train_62, up2_eq, va_rf, eq_self, or_true, true_or, Option.toList_some, Option.toList_none, List.cons_append, List.nil_append, if_true, if_false]
      refine hQ F3 A3 f _ _ fr3 ?_ ?_ ?_
      · rw [hst2]; exact hB3
      · rw [hst2]; exact f4
      · rw [hst2]; exact e38
    | some b =>
      have hbl := htl b hK
      have hbs : bst (some b) = nI b := rfl
      rw [hK] at ih'
      rw [hbs]
      have gb := nI_neg1 (b := b) (by omega)
      have hC3 := mCs_T hC fr3
      have hS3 := mSb_T hS fr3
      obtain ⟨v34, v35, v36⟩ := hC3.2 b hbl
      have hxb := hok.2 b hbl
      obtain ⟨pb1, pb2⟩ := mSb_c hS3 hxb
      obtain ⟨b1, b2, b3, b4, b5⟩ := id hxb
      have e43 := hB3.1
      rw [ec] at e43
      simp only [rX12_train_86, rX12_train_88, rX12_train_90, rX12_train_91, rX12_train_94, rX12_train_95, rX12_train_98, rX12_train_99, rX12_train_100, rX12_train_101, rX12_train_104, rX12_train_105, rX12_train_108, rX12_train_109, rX12_train_112, hM.1, gb, g, r38, r4, up2_eq, va_rf, eq_self, or_true, true_or, Option.toList_some, Option.toList_none, List.cons_append, List.nil_append, if_true, if_false]
      rw [rX12_train_114 s4 (by decide) (by omega) (by omega), e43]
      simp only [rX12_train_115, rX12_train_116, hM.1, q4, up2_eq, va_rf, eq_self, or_true, true_or, Option.toList_some, Option.toList_none, List.cons_append, List.nil_append, if_true, if_false]
      rw [rX12_train_119 s38 (by omega) (by omega)]
      simp only [rX12_train_120, rX12_train_121, rX12_train_123, rX12_train_124, rX12_train_127, rX12_train_128, rX12_train_131, hM.1, r14, r34, up2_eq, va_rf, eq_self, or_true, true_or, Option.toList_some, Option.toList_none, List.cons_append, List.nil_append, if_true, if_false]
      rw [rX12_train_133 s34 (by decide) (by omega) (by omega), up2_k (by omega), v34]
      simp only [rX12_train_134, rX12_train_135, rX12_train_138, hM.1, r35, up2_eq, va_rf, eq_self, or_true, true_or, Option.toList_some, Option.toList_none, List.cons_append, List.nil_append, if_true, if_false]
      rw [rX12_train_140 s35 (by decide) (by omega) (by omega), up2_k (by omega), v35]
      rw [rX12_train_141 hM.1]
      have hB4 : mB1 (up2 A3 (y + 38) r K.2) y 25 Z.2.2.1 Z.2.1 Z.2.2.2.1 f := mB1_cong hB3 (up2_k (by omega)) (fun _ _ => up2_k (by omega)) (fun _ _ => up2_k (by omega))
      refine k_addPiece (k := k + 4) (b := 25) (z := 320) hM (by omega) hB4 z3 (by omega) (by omega) s14 pb1 (by omega) (by omega) (by omega) ?_
      intro A5 p1 p2 p3 p4 p5 p6 p7
      have hB5 := mB1_add (g := cbn (T.2.1 1) (S.1 b)) hB4 z3 p2 (fun j hj => by rw [p3 j hj, up2_k (by omega)]; exact (pb2 j hj).1) p4 p5 p7
      simp only [rX12_train_144, up2_eq, va_rf, eq_self, or_true, true_or, Option.toList_some, Option.toList_none, List.cons_append, List.nil_append, if_true, if_false]
      refine ih' F3 A5 _ _ (by omega) (frT12_trans fr3 ⟨fun _ _ _ => rfl, fun a g1 g2 g3 => by rw [p1 a (by omega) (by omega) (by omega), up2_row g3], fun j hj => by rw [p6 j hj, up2_row (by omega)], fun j hj => by rw [p4 j (by omega), up2_row (by omega)], fun j hj => by rw [p2 j (by omega), up2_row (by omega)]⟩) rfl hB5 (fun j hj => ?_) (fun j hj => ?_)
      · dsimp only at hj ⊢
        unfold apC
        by_cases zz : j < Z.2.1
        · rw [if_pos zz, if_pos zz]; exact f4 j zz
        · rw [if_neg zz, if_neg zz, if_pos hj]; rfl
      · dsimp only at hj ⊢
        rw [p1 _ (by omega) (by omega) (by omega), ec]
        by_cases zz : j = r
        · rw [if_pos zz, zz, up2_eq]
        · rw [if_neg zz, up2_a zz]; exact e38 j (by omega)
theorem MS_ga {ca pc : Nat} {ga : Nat → Int32} (h : MS F A y T) (hT : okT T) (hF : ∀ q, ¬ (q = 1200 ∨ q = 1232 ∨ 1247 ≤ q ∧ q ≤ 1250 ∨ 1253 ≤ q ∧ q ≤ 1254 ∨ 1258 ≤ q ∧ q ≤ 1260 ∨ q = 1263) → F' q y = F q y) (hA : ∀ k, 1 ≤ k → k ≤ 38 → ¬ (3 ≤ k ∧ k ≤ 6 ∨ 22 ≤ k ∧ k ≤ 27 ∨ 32 ≤ k ∧ k ≤ 38) → A' (y + k) = A (y + k)) (h3 : ∀ j, j ≠ 25 → A' (y + 3) j = A (y + 3) j) (h4 : ∀ j, j ≠ 25 → A' (y + 4) j = A (y + 4) j) (h5 : ∀ j, j < 525 → A' (y + 5) j = A (y + 5) j) (h6 : ∀ j, j < 100000 → A' (y + 6) j = A (y + 6) j) (hp : pc ≠ 0) (e60 : F' 1260 y = nI 1) (e58 : F' 1258 y = nI ca) (e59 : F' 1259 y = nI pc) (e37 : ∀ k, k < pc → A' (y + 37) k = ga k) : MS F' A' y (up2 (up2 T.1 16 0 ca) 17 0 pc, T.2.1, up1 T.2.2 11 ga) := by
  obtain ⟨a1, a2, a3, a4, a5, a6⟩ := h
  obtain ⟨d1, d2, d3, d4⟩ := hT.2.2.1
  have dsum := okE_sum _ d2 (fun q hq => (d3 q hq).2) (T.1 4 24) (Nat.le_refl _)
  rw [d2.2] at dsum
  have b1 := hT.2.2.2.1.1
  refine ⟨mTO_cong (N := T.1) a1 (hF _ (by omega)) (hF _ (by omega)) (hA _ (by omega) (by omega) (by omega)) (hA _ (by omega) (by omega) (by omega)), mBk_cong (T := T) a2 b1 d1 (by omega) (fun b hb => ⟨(hT.2.2.2.1.2.1 b (Or.inl hb)).1.2.1, (hT.2.2.2.1.2.1 b (Or.inl hb)).1.2.2.1⟩) (hF _ (by omega)) h3 h4 h5 h6 (fun k k1 k2 => hA k (by omega) (by omega) (by omega)), mPk_cong (T := T) a3 (fun q hq => hF q (by omega)) (fun k k1 k2 => hA k (by omega) (by omega) (by omega)), mSm_cong (T := T) a4 (hF _ (by omega)) (hA _ (by omega) (by omega) (by omega)) (hA _ (by omega) (by omega) (by omega)), ⟨?_, fun _ => ⟨e58, e59, e37⟩⟩, mWi_cong (T := T) a6 (fun q hq => hF q (by omega)) (fun k k1 k2 => hA k (by omega) (by omega) (by omega))⟩
  show F' 1260 y = if pc = 0 then nI 0 else nI 1
  rw [if_neg hp]
  exact e60
theorem l_trGa {x1 x2 x3 : Value} (hM : isM sh R y)
    (hQ : ∀ A' x4, (∀ a, a ≠ y + 37 → A' a = A a) → (∀ j, j < 6 → A' (y + 37) j = A (y + 38) j) → rw_ k mX12_train 233 [.ref y, x1, x2, x3, x4] [] (mkh n u sh F R A' B) Q) :
    ∀ d i A1, i + d = 6 → (∀ a, a ≠ y + 37 → A1 a = A a) → (∀ j, j < i → A1 (y + 37) j = A (y + 38) j) → rw_ k mX12_train 206 [.ref y, x1, x2, x3, .int (nI i)] [] (mkh n u sh F R A1 B) Q := by
  have r37 := hM.r 1261 37 0 6 (by decide)
  have s37 := hM.s 1261 37 0 6 (by decide)
  have r38 := hM.r 1262 38 0 6 (by decide)
  have s38 := hM.s 1262 38 0 6 (by decide)
  intro d
  induction d with
  | zero =>
    intro i A1 hi f1 f2
    have e : i = 6 := by omega
    subst e
    have g1 : nI 6 ≤ nI 6 := by decide
    simp only [rX12_train_206, rX12_train_208, rX12_train_210, g1, up2_eq, va_rf, eq_self, or_true, true_or, Option.toList_some, Option.toList_none, List.cons_append, List.nil_append, if_true, if_false]
    exact hQ A1 _ f1 f2
  | succ d ih =>
    intro i A1 hi f1 f2
    have g1 : ¬ nI 6 ≤ nI i := nI_ge (by omega) (by omega)
    simp only [rX12_train_206, rX12_train_208, rX12_train_210, rX12_train_213, rX12_train_214, rX12_train_217, rX12_train_219, rX12_train_220, rX12_train_223, hM.1, g1, r37, r38, up2_eq, va_rf, eq_self, or_true, true_or, Option.toList_some, Option.toList_none, List.cons_append, List.nil_append, if_true, if_false]
    rw [rX12_train_225 s38 (by decide) (by omega) (by omega)]
    rw [rX12_train_226 s37 (by omega) (by omega)]
    simp only [rX12_train_227, rX12_train_230, nI_add, up2_eq, va_rf, eq_self, or_true, true_or, Option.toList_some, Option.toList_none, List.cons_append, List.nil_append, if_true, if_false]
    refine ih (i + 1) _ (by omega) (fun a ha => by rw [up2_row ha]; exact f1 a ha) (fun j hj => ?_)
    by_cases e : j = i
    · subst e; rw [up2_eq, f1 _ (by omega)]
    · rw [up2_a e]; exact f2 j (by omega)
end MTR
