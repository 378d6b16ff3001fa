/-! ===== the reference: train, whole ===== -/
section MT2
variable {k n u : Nat} {sh : hs_} {F F' : hF_} {R : hR_} {A A' : hF_} {B : hR_} {Q : Option Value → pm_H → Prop} {y : Nat} {T : TT}
theorem i32_rg {i : Int32} {a b : Nat} (ha : a < 2 ^ 20) (hb : b < 2 ^ 20) (h : ¬ (i < nI a ∨ nI b < i)) : ∃ j, i = nI j ∧ a ≤ j ∧ j ≤ b := by
  have h0 : ¬ i < 0 := fun z => h (Or.inl (by
    rw [Int32.lt_iff_toInt_lt] at z ⊢
    rw [nI_toInt (by omega)]
    have e : (0 : Int32).toInt = 0 := by decide
    omega))
  obtain ⟨j, hj, rfl⟩ := nI_of h0
  refine ⟨j, rfl, ?_, ?_⟩
  · by_cases c : a ≤ j
    · exact c
    · exact absurd (Or.inl (nI_lt (by omega) (by omega))) h
  · by_cases c : j ≤ b
    · exact c
    · exact absurd (Or.inr (nI_lt (by omega) (by omega))) h
theorem m_train {i w : Int32} (hM : isM sh R y) (h : MS F A y T) (hT : okT T) (hQ : mPost n u sh F R A B y (s_train T i w) Q) : rc_ (k + 8) mX12_train [.ref y, .int i, .int w] (mkh n u sh F R A B) Q := by
  have h0 := MS_th (v := nI 0) h hT
  have h24 := hT.2.2.2.1.1
  have fr0 : frM y F A (up2 F 1200 y (nI 0)) A := frM_F (by decide)
  have r3 := hM.r 1206 3 0 26 (by decide)
  have s3 := hM.s 1206 3 0 26 (by decide)
  have r4 := hM.r 1207 4 0 26 (by decide)
  have s4 := hM.s 1207 4 0 26 (by decide)
  have g : ¬ nI 1 = nI 0 := by decide
  obtain ⟨n8, m2, -⟩ := hT.2.2.2.2.2.1
  obtain ⟨d1, d2, d3, d4⟩ := hT.2.2.1
  have dsum := okE_sum _ d2 (fun q hq => (d3 q hq).2) (T.1 4 24) (Nat.le_refl _)
  rw [d2.2] at dsum
  have hbb : ∀ b, b < T.1 2 0 → T.1 4 b ≤ 20 ∧ T.1 5 b ≤ 320 := fun b hb => ⟨(hT.2.2.2.1.2.1 b (Or.inl hb)).1.2.1, (hT.2.2.2.1.2.1 b (Or.inl hb)).1.2.2.1⟩
  rw [eX12_train]
  simp only [rX12_train_0, rX12_train_1, rX12_train_2, rX12_train_5, rX12_train_6, rX12_train_7, hM.1, up2_eq, va_rf, eq_self, or_true, true_or, Option.toList_some, Option.toList_none, List.cons_append, List.nil_append, if_true, if_false]
  rw [rX12_train_8, k_in]
  unfold s_train at hQ
  by_cases c1 : i < nI 1 ∨ nI 2 < i
  · rw [if_pos (by rcases c1 with z | z; · exact Or.inl z
                   · exact Or.inr (Or.inl z))] at hQ
    rw [if_pos c1]
    simp only [rX12_train_11, rX12_train_24, rX12_train_26, up2_eq, va_rf, eq_self, or_true, true_or, Option.toList_some, Option.toList_none, List.cons_append, List.nil_append, if_true, if_false]
    exact hQ _ _ h0 fr0
  rw [if_neg c1]
  simp only [rX12_train_11, rX12_train_14, rX12_train_15, rX12_train_16, g, up2_eq, va_rf, eq_self, or_true, true_or, Option.toList_some, Option.toList_none, List.cons_append, List.nil_append, if_true, if_false]
  rw [rX12_train_18, k_in]
  by_cases c2 : w < nI 1 ∨ nI 6 < w
  · rw [if_pos (by rcases c2 with z | z; · exact Or.inr (Or.inr (Or.inl z))
                   · exact Or.inr (Or.inr (Or.inr z)))] at hQ
    rw [if_pos c2]
    simp only [rX12_train_21, rX12_train_24, rX12_train_26, up2_eq, va_rf, eq_self, or_true, true_or, Option.toList_some, Option.toList_none, List.cons_append, List.nil_append, if_true, if_false]
    exact hQ _ _ h0 fr0
  rw [if_neg (fun z => by
    rcases z with z | z | z | z
    · exact c1 (Or.inl z)
    · exact c1 (Or.inr z)
    · exact c2 (Or.inl z)
    · exact c2 (Or.inr z))] at hQ
  rw [if_neg c2]
  obtain ⟨kd, rfl, kd1, kd2⟩ := i32_rg (by decide) (by decide) c1
  obtain ⟨mo, rfl, mo1, mo2⟩ := i32_rg (by decide) (by decide) c2
  rw [nI_clamp (by omega), nI_clamp (by omega)] at hQ
  have ek : decide (nI kd = nI 2) = decide (kd = 2) := by
    by_cases z : kd = 2
    · rw [z]; decide
    · rw [decide_eq_false z, decide_eq_false (by rw [nI_eq (by omega) (by omega)]; exact z)]
  rw [ek] at hQ
  have e05 : up2 F 1200 y (nI 0) 1205 y = nI (T.1 2 0) := h0.2.1.1
  simp only [rX12_train_21, rX12_train_27, rX12_train_28, rX12_train_31, hM.1, g, e05, up2_eq, va_rf, eq_self, or_true, true_or, Option.toList_some, Option.toList_none, List.cons_append, List.nil_append, if_true, if_false]
  by_cases c3 : 24 ≤ T.1 2 0
  · rw [if_pos c3] at hQ
    have e24 : T.1 2 0 = 24 := by omega
    rw [e24]
    simp only [rX12_train_33, rX12_train_36, rX12_train_38, up2_eq, va_rf, eq_self, or_true, true_or, Option.toList_some, Option.toList_none, List.cons_append, List.nil_append, if_true, if_false]
    exact hQ _ _ h0 fr0
  rw [if_neg c3] at hQ
  have g2 : ¬ nI (T.1 2 0) = nI 24 := by rw [nI_eq (by omega) (by omega)]; omega
  simp only [rX12_train_33, rX12_train_39, g2, up2_eq, va_rf, eq_self, or_true, true_or, Option.toList_some, Option.toList_none, List.cons_append, List.nil_append, if_true, if_false]
  rw [rX12_train_40 hM.1]
  have hS0 : mSb (up2 F 1200 y (nI 0)) A y (T.2.1 1) (T.1 7) (T.1 6 0) := ⟨h0.2.2.2.1.1, n8, fun i hi => ⟨h0.2.2.2.1.2.1 i hi, (m2 i hi).1⟩, h0.2.2.2.1.2.2, fun i hi j hj => (m2 i hi).2 j hj⟩
  refine k_findCandidates (k := k + 4) (J := T.2.1) hM hS0 ?_
  intro F1 A1 f1 hC1
  have hcan : begS (sbT T.2.1) (T.1 7) (T.1 6 0) (T.1 6 0) = canT T := rfl
  rw [hcan] at hC1
  have hokC : okCS (T.1 6 0) (T.1 7) (canT T) := begS_okCS n8 _ (Nat.le_refl _)
  simp only [rX12_train_43, rX12_train_44, rX12_train_47, rX12_train_49, hM.1, r3, up2_eq, va_rf, eq_self, or_true, true_or, Option.toList_some, Option.toList_none, List.cons_append, List.nil_append, if_true, if_false]
  rw [rX12_train_50 s3 (by omega) (by omega)]
  simp only [rX12_train_51, rX12_train_52, rX12_train_55, rX12_train_57, hM.1, r4, up2_eq, va_rf, eq_self, or_true, true_or, Option.toList_some, Option.toList_none, List.cons_append, List.nil_append, if_true, if_false]
  rw [rX12_train_58 s4 (by omega) (by omega)]
  simp only [rX12_train_59, rX12_train_60, up2_eq, va_rf, eq_self, or_true, true_or, Option.toList_some, Option.toList_none, List.cons_append, List.nil_append, if_true, if_false]
  have eA : ∀ a, a ≠ y + 3 → a ≠ y + 4 → up2 (up2 A1 (y + 3) 25 (nI kd)) (y + 4) 25 (nI 0) a = A1 a := fun a g1 g2 => by rw [up2_row g2, up2_row g1]
  have e3 : up2 (up2 A1 (y + 3) 25 (nI kd)) (y + 4) 25 (nI 0) (y + 3) 25 = nI kd := by rw [up2_k (by omega), up2_eq]
  have e3o : ∀ j, j ≠ 25 → up2 (up2 A1 (y + 3) 25 (nI kd)) (y + 4) 25 (nI 0) (y + 3) j = A1 (y + 3) j := fun j hj => by rw [up2_k (by omega), up2_a hj]
  have e4 : up2 (up2 A1 (y + 3) 25 (nI kd)) (y + 4) 25 (nI 0) (y + 4) 25 = nI 0 := up2_eq
  have e4o : ∀ j, j ≠ 25 → up2 (up2 A1 (y + 3) 25 (nI kd)) (y + 4) 25 (nI 0) (y + 4) j = A1 (y + 4) j := fun j hj => by rw [up2_a hj, up2_row (by omega)]
  generalize up2 (up2 A1 (y + 3) 25 (nI kd)) (y + 4) 25 (nI 0) = A3 at eA e3 e3o e4 e4o ⊢
  have hm3 : mSm F1 A3 y T := mSm_cong h0.2.2.2.1 (f1.1 _ _ (by omega)) (by rw [eA _ (by omega) (by omega), f1.2 _ (by omega)]) (by rw [eA _ (by omega) (by omega), f1.2 _ (by omega)])
  have hS3 : mSb F1 A3 y (T.2.1 1) (T.1 7) (T.1 6 0) := ⟨by rw [f1.1 _ _ (by omega)]; exact hS0.1, n8, fun i hi => by rw [eA _ (by omega) (by omega), f1.2 _ (by omega)]; exact hS0.2.2.1 i hi, fun i hi j hj => by rw [eA _ (by omega) (by omega), f1.2 _ (by omega)]; exact hS0.2.2.2.1 i hi j hj, hS0.2.2.2.2⟩
  have hC3 : mCs F1 A3 y (canT T) := ⟨hC1.1, fun i hi => by rw [eA _ (by omega) (by omega), eA _ (by omega) (by omega), eA _ (by omega) (by omega)]; exact hC1.2 i hi⟩
  refine l_tr (k := k + 2) (rk := decide (kd = 2)) (S := canT T) hM hm3 hS3 hC3 hokC e3 kd2 rfl mo2 ?_ mo 0 F1 A3 (fun _ => 0) _ (Nat.zero_add _) frT12_refl rfl ⟨e4, fun q hq => absurd hq (Nat.not_lt_zero _), fun q hq => absurd hq (Nat.not_lt_zero _)⟩ (fun j hj => absurd hj (Nat.not_lt_zero _)) (fun j hj => absurd hj (Nat.not_lt_zero _))
  intro F4 A4 f x3 x4 f4 b4 b5 b6
  have hby : ∀ i, i < T.1 6 0 → ∀ j, j < T.1 7 i → ∃ v, v < 256 ∧ sbT T.2.1 i j = nI v := fun i hi j hj => ⟨_, (m2 i hi).2 j hj, rfl⟩
  have hz : okZ (sbT T.2.1) mo (traT T (decide (kd = 2)) mo) := trL_ok hby hokC mo
  have htr : trL (sbT T.2.1) (T.1 7) (T.1 6 0) (canT T) (decide (kd = 2)) mo = traT T (decide (kd = 2)) mo := rfl
  rw [htr] at b4 b5 b6
  generalize traT T (decide (kd = 2)) mo = Z at hQ b4 b5 b6 hz
  obtain ⟨z1, z2, z3, z4, z5, z6⟩ := hz
  -- frames
  have cF : ∀ q a, ¬ ((q = 1200 ∨ q = 1232 ∨ q = 1254 ∨ q = 1263) ∧ a = y) → F4 q a = F q a := fun q a g => by rw [f4.1 q a (by omega), f1.1 q a (by omega), up2_o (by omega)]
  have cA : ∀ a, ¬ (y + 3 ≤ a ∧ a ≤ y + 6) → ¬ (y + 22 ≤ a ∧ a ≤ y + 27) → ¬ (y + 34 ≤ a ∧ a ≤ y + 36) → a ≠ y + 38 → A4 a = A a := fun a g1 g2 g3 g4 => by rw [f4.2.1 a (by omega) g2 g4, eA a (by omega) (by omega), f1.2 a g3]
  have c3' : ∀ j, j ≠ 25 → A4 (y + 3) j = A (y + 3) j := fun j hj => by rw [f4.2.1 _ (by omega) (by omega) (by omega), e3o j hj, f1.2 _ (by omega)]
  have c4' : ∀ j, j ≠ 25 → A4 (y + 4) j = A (y + 4) j := fun j hj => by rw [f4.2.2.1 j hj, e4o j hj, f1.2 _ (by omega)]
  have c5' : ∀ j, j < 525 → A4 (y + 5) j = A (y + 5) j := fun j hj => by rw [f4.2.2.2.1 j hj, eA _ (by omega) (by omega), f1.2 _ (by omega)]
  have c6' : ∀ j, j < 100000 → A4 (y + 6) j = A (y + 6) j := fun j hj => by rw [f4.2.2.2.2 j hj, eA _ (by omega) (by omega), f1.2 _ (by omega)]
  have e254 : F4 1254 y = nI (canT T).2 := by rw [f4.1 _ _ (by omega)]; exact hC1.1
  simp only [rX12_train_147, rX12_train_148, rX12_train_151, hM.1, r4, up2_eq, va_rf, eq_self, or_true, true_or, Option.toList_some, Option.toList_none, List.cons_append, List.nil_append, if_true, if_false]
  rw [rX12_train_153 s4 (by decide) (by omega) (by omega), b4.1]
  by_cases cz : Z.2.2.1 = 0
  · rw [if_pos cz] at hQ
    have ez : nI Z.2.2.1 = nI 0 := by rw [cz]
    simp only [rX12_train_154, rX12_train_157, rX12_train_158, ez, up2_eq, va_rf, eq_self, or_true, true_or, Option.toList_some, Option.toList_none, List.cons_append, List.nil_append, if_true, if_false]
    refine hQ _ _ (MS_scr h hT (fun q hq => cF q y (by omega)) (fun k k1 k2 k3 => cA _ (by omega) (by omega) (by omega) (by omega)) c3' c4' c5' c6') ⟨fun q a g => cF q a (by omega), fun a g => cA a (by omega) (by omega) (by omega) (by omega)⟩
  · rw [if_neg cz] at hQ
    have ez : ¬ nI Z.2.2.1 = nI 0 := nI_ne0 (by omega) (by omega)
    have e05b : F4 1205 y = nI (T.1 2 0) := by rw [cF _ _ (by omega)]; exact h.2.1.1
    simp only [rX12_train_154, rX12_train_159, rX12_train_160, rX12_train_162, rX12_train_163, hM.1, ez, e05b, up2_eq, va_rf, eq_self, or_true, true_or, Option.toList_some, Option.toList_none, List.cons_append, List.nil_append, if_true, if_false]
    rw [rX12_train_166 hM.1]
    refine k_copyBook (k := k + 6) (b := 25) (to_ := T.1 2 0) hM (by omega) (by omega) (by omega) b4 z3 (by omega) (by omega) ?_
    intro A5 p1 p3 p3n p4 p5 p6 pB
    have e425 : A5 (y + 4) 25 = nI Z.2.2.1 := by rw [p4 _ (by omega)]; exact b4.1
    simp only [rX12_train_169, rX12_train_170, rX12_train_171, rX12_train_174, rX12_train_175, rX12_train_176, rX12_train_179, rX12_train_180, rX12_train_181, rX12_train_184, rX12_train_185, rX12_train_186, rX12_train_189, rX12_train_192, rX12_train_193, rX12_train_194, rX12_train_197, hM.1, e05b, e254, r4, nI_add, up2_eq, va_rf, eq_self, or_true, true_or, Option.toList_some, Option.toList_none, List.cons_append, List.nil_append, if_true, if_false, up2_k, ne_eq, not_false_eq_true, Nat.reduceEqDiff, reduceCtorEq]
    rw [rX12_train_199 s4 (by decide) (by omega) (by omega), e425]
    simp only [rX12_train_200, rX12_train_203, rX12_train_204, hM.1, up2_eq, va_rf, eq_self, or_true, true_or, Option.toList_some, Option.toList_none, List.cons_append, List.nil_append, if_true, if_false]
    have y05 : up2 (up2 (up2 (up2 F4 1205 y (nI (T.1 2 0 + 1))) 1260 y (nI 1)) 1258 y (nI (canT T).2)) 1259 y (nI Z.2.2.1) 1205 y = nI (T.1 2 0 + 1) := by rw [up2_k (by decide), up2_k (by decide), up2_k (by decide), up2_eq]
    have y58 : up2 (up2 (up2 (up2 F4 1205 y (nI (T.1 2 0 + 1))) 1260 y (nI 1)) 1258 y (nI (canT T).2)) 1259 y (nI Z.2.2.1) 1258 y = nI (canT T).2 := by rw [up2_k (by decide), up2_eq]
    have y59 : up2 (up2 (up2 (up2 F4 1205 y (nI (T.1 2 0 + 1))) 1260 y (nI 1)) 1258 y (nI (canT T).2)) 1259 y (nI Z.2.2.1) 1259 y = nI Z.2.2.1 := up2_eq
    have y60 : up2 (up2 (up2 (up2 F4 1205 y (nI (T.1 2 0 + 1))) 1260 y (nI 1)) 1258 y (nI (canT T).2)) 1259 y (nI Z.2.2.1) 1260 y = nI 1 := by rw [up2_k (by decide), up2_k (by decide), up2_eq]
    have yo : ∀ q a, ¬ ((q = 1205 ∨ 1258 ≤ q ∧ q ≤ 1260) ∧ a = y) → up2 (up2 (up2 (up2 F4 1205 y (nI (T.1 2 0 + 1))) 1260 y (nI 1)) 1258 y (nI (canT T).2)) 1259 y (nI Z.2.2.1) q a = F4 q a := fun q a g => by rw [up2_o (by omega), up2_o (by omega), up2_o (by omega), up2_o (by omega)]
    generalize up2 (up2 (up2 (up2 F4 1205 y (nI (T.1 2 0 + 1))) 1260 y (nI 1)) 1258 y (nI (canT T).2)) 1259 y (nI Z.2.2.1) = F6 at y05 y58 y59 y60 yo ⊢
    refine l_trGa (k := k + 8) (F := F6) (A := A5) hM ?_ 6 0 A5 (Nat.zero_add _) (fun _ _ => rfl) (fun j hj => absurd hj (Nat.not_lt_zero _))
    intro A7 x4 t1 t2
    simp only [rX12_train_233, rX12_train_234, rX12_train_237, rX12_train_238, rX12_train_239, hM.1, y05, nI_sub1, up2_eq, va_rf, eq_self, or_true, true_or, Option.toList_some, Option.toList_none, List.cons_append, List.nil_append, if_true, if_false]
    obtain ⟨Am, am1, am2⟩ : ∃ Am : hF_, Am (y + 37) = A7 (y + 37) ∧ ∀ a, a ≠ y + 37 → Am a = A4 a := ⟨fun a => if a = y + 37 then A7 a else A4 a, if_pos rfl, fun a ha => if_neg ha⟩
    have hga : MS (up2 F6 1205 y (nI (T.1 2 0))) Am y (gaiT T Z) := by
      refine MS_ga h hT (fun q hq => ?_) (fun k k1 k2 k3 => by rw [am2 _ (by omega), cA _ (by omega) (by omega) (by omega) (by omega)]) (fun j hj => by rw [am2 _ (by omega)]; exact c3' j hj) (fun j hj => by rw [am2 _ (by omega)]; exact c4' j hj) (fun j hj => by rw [am2 _ (by omega)]; exact c5' j hj) (fun j hj => by rw [am2 _ (by omega)]; exact c6' j hj) cz (by rw [up2_k (by decide)]; exact y60) (by rw [up2_k (by decide)]; exact y58) (by rw [up2_k (by decide)]; exact y59) (fun j hj => ?_)
      · by_cases zq : q = 1205
        · subst zq
          rw [up2_eq]
          exact h.2.1.1.symm
        · rw [up2_k zq, yo q y (by omega), cF q y (by omega)]
      · rw [am1, t2 j (by omega), p1 _ (by omega)]
        exact b6 j hj
    have hB7 : mB1 A7 y (T.1 2 0) Z.2.2.1 Z.2.1 Z.2.2.2.1 (fun j => (Z.1 j).toNatClampNeg) := by
      refine ⟨by rw [t1 _ (by omega)]; exact pB.1, fun q hq => by rw [t1 _ (by omega)]; exact pB.2.1 q hq, fun j hj => ?_⟩
      rw [t1 _ (by omega), pB.2.2 j hj, b5 j hj]
      obtain ⟨v, v1, v2⟩ := z5 j hj
      show Z.1 j = nI (Z.1 j).toNatClampNeg
      rw [v2, nI_clamp (by omega)]
    have hfin := MS_apB (kd := kd) (F' := F6) (A' := A7) hga (show T.1 2 0 < 24 by omega) d1 (show T.1 5 24 ≤ 4000 by omega) hbb y05 (fun q hq => by rw [up2_k hq]) (fun a ha => by
        by_cases z37 : a = y + 37
        · rw [z37, am1]
        · rw [t1 a z37, am2 a z37, p1 a ha]) (fun j j1 j2 => by rw [t1 _ (by omega), am2 _ (by omega)]; exact p3 j j2) (by
        show A7 (y + 3) (T.1 2 0) = nI kd
        rw [t1 _ (by omega), p3n, f4.2.1 _ (by omega) (by omega) (by omega)]
        exact e3) (fun j j1 j2 => by rw [t1 _ (by omega), am2 _ (by omega)]; exact p4 j j2) (fun j j1 j2 => by rw [t1 _ (by omega), am2 _ (by omega)]; exact p5 j j2) (fun j j1 j2 => by rw [t1 _ (by omega), am2 _ (by omega)]; exact p6 j j2) hB7
    refine hQ _ _ hfin ⟨fun q a g => by rw [yo q a (by omega), cF q a (by omega)], fun a g => by rw [t1 _ (by omega), p1 _ (by omega), cA _ (by omega) (by omega) (by omega) (by omega)]⟩
end MT2
