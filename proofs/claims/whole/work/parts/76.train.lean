/-! ===== the class: train ===== -/
def canT (T : TT) : cS := begS (sbT T.2.1) (T.1 7) (T.1 6 0) (T.1 6 0)
def traT (T : TT) (rk : Bool) (r : Nat) : tZ := trL (sbT T.2.1) (T.1 7) (T.1 6 0) (canT T) rk r
def gaiT (T : TT) (Z : tZ) : TT := (up2 (up2 T.1 16 0 (canT T).2) 17 0 Z.2.2.1, T.2.1, up1 T.2.2 11 Z.2.2.2.2.1)
def s_train (T : TT) (i w : Int32) : Int32 × TT := if i < nI 1 ∨ nI 2 < i ∨ w < nI 1 ∨ nI 6 < w then (-3, T) else if 24 ≤ T.1 2 0 then (-5, T)
  else if (traT T (decide (i = nI 2)) w.toNatClampNeg).2.2.1 = 0 then (-1, T)
  else (nI (T.1 2 0), apB (gaiT T (traT T (decide (i = nI 2)) w.toNatClampNeg)) i.toNatClampNeg (traT T (decide (i = nI 2)) w.toNatClampNeg).2.2.1 (traT T (decide (i = nI 2)) w.toNatClampNeg).2.1 (traT T (decide (i = nI 2)) w.toNatClampNeg).2.2.2.1 (fun j => ((traT T (decide (i = nI 2)) w.toNatClampNeg).1 j).toNatClampNeg))
section TRN2
variable {k n u : Nat} {sh : hs_} {F F' : hF_} {R R' : hR_} {A A' : hF_} {B : hR_} {Q : Option Value → pm_H → Prop} {x : Nat} {ba ma : Nat → Nat} {T : TT}
theorem XS_tr {ca pc : Nat} {ga : Nat → Int32} (h : XS n sh F R A B x ba ma T)
    (hF : ∀ q a, ¬ (201 ≤ q ∧ q ≤ 203 ∨ q = 804 ∨ (q = 410 ∨ q = 411) ∧ a = x + 25 ∨ q = 101 ∧ a = x + 43 ∨ q = 502 ∧ a = x + 42 ∨ (q = 809 ∨ q = 810) ∧ a = x + 38) → F' q a = F q a)
    (hR : ∀ q a, ¬ (q = 200 ∨ q = 408 ∨ q = 409) → R' q a = R q a)
    (hA : ∀ a, ¬ (a = x + 41 ∨ x + 44 ≤ a ∧ a ≤ x + 46 ∨ x + 26 ≤ a ∧ a ≤ x + 32) → A' a = A a)
    (h1 : F' 809 (x + 38) = nI ca) (h2 : F' 810 (x + 38) = nI pc) (h3 : ∀ k, k < pc → A' (x + 46) k = ga k) (h4 : ∃ c s, c ≤ 6 ∧ s ≤ 72 ∧ F' 502 (x + 42) = nI c ∧ F' 101 (x + 43) = nI s ∧ ∃ E : Nat → Nat, ∀ q, q < c → A' (x + 45) q = nI (E q)) :
    XS n sh F' R' A' B x ba ma (up2 (up2 T.1 16 0 ca) 17 0 pc, T.2.1, up1 T.2.2 11 ga) ∧ frX x n sh F R A n sh F' R' A' := by
  obtain ⟨hx, hX, hTO, hDr, hBk, hPk, hGm, hSm, hWi, hRd⟩ := h
  have n8 := hSm.1.2.1
  refine ⟨⟨hx, isX_cong hX (fun q a _ g1 g2 g3 _ _ _ => hR q a (by omega)) (fun _ _ => rfl) rfl rfl, xTO_cong (N := T.1) hTO (fun a ha => hF _ _ (by omega)) (fun a ha => hA a (by omega)), xDr_cong (N := T.1) (J := T.2.1) hDr (hF _ _ (by omega)) (hF _ _ (by omega)) (fun a ha => hA a (by omega)), xBk_cong (T := T) hBk hx (Nat.le_refl _) (fun _ _ => rfl) (fun q a _ hq => hR q a (by omega)) (fun q a _ hq => hF q a (by omega)) (hF _ _ (by omega)) (fun a _ ha => hA a (by omega)) rfl, xPk_cong (T := T) hPk (hF _ _ (by omega)) (hF _ _ (by omega)) (hF _ _ (by omega)) (fun a g1 g2 => hA a (by omega)), xGm_cong hGm (hA _ (by omega)) (hA _ (by omega)), ⟨isSm_cong hSm.1 (hF _ _ (by omega)) (fun i hi => hF _ _ (by omega)), fun i hi => ?_, h1, h2, h3, h4⟩, xWi_cong (T := T) hWi (Nat.le_refl _) (fun _ _ => rfl) (fun q a _ hq => hR q a (by omega)) (fun q a _ hq => hF q a (by omega)) (fun q g1 g2 => hF q _ (by omega)) (hR _ _ (by omega)) (fun a _ ha => hA a (by omega)) rfl, xRd_cong hRd (fun a ha => hF _ _ (by omega))⟩, Nat.le_refl _, fun _ _ => rfl, fun q a _ hq => ⟨hF q a (by omega), hR q a (by omega)⟩, fun a ha => hA a (by omega)⟩
  have hi' : i < T.1 6 0 := hi
  rw [hA _ (by omega)]
  exact hSm.2.1 i hi'
theorem l_train {rk : Bool} {w : Nat} {kdv : Int32} {S : cS} {sl : Nat → Nat} {ns : Nat} (hX0 : R 1108 x = some (x + 38)) (hs0 : sh x = some (0, 11, 0)) (hrk : (if kdv = nI 2 then nI 1 else nI 0) = (if rk = true then nI 1 else nI 0)) (hw : w ≤ 6) (hT : isT sh R B (x + 38) (x + 25)) (hsm : isSm F (x + 38) ns sl) (hk : isK sh R (x + 25)) (hg : ∀ n, 1 ≤ n → n ≤ 120 → A (x + 25 + 8) n = nI (gm n)) (hS : okCS ns sl S) (hcs : isCs F R (x + 38) S.2 S.1) (hy : ∀ i, i < ns → ∀ j, j < sl i → ∃ v, v < 256 ∧ A (x + 38 + 10 + 2 * i) j = nI v)
    (hQ : ∀ F' R' A' a3 a4, frT (x + 25) (x + 38) F R A F' R' A' → isTk sh F' R' A' (x + 38) (trL (sbA A (x + 38)) sl ns S rk w).2.1 (trL (sbA A (x + 38)) sl ns S rk w).2.2.1 (trL (sbA A (x + 38)) sl ns S rk w).2.2.2.1 (trL (sbA A (x + 38)) sl ns S rk w).1 → (∀ k, k < (trL (sbA A (x + 38)) sl ns S rk w).2.2.1 → A' (x + 38 + 8) k = (trL (sbA A (x + 38)) sl ns S rk w).2.2.2.2.1 k) → ((trL (sbA A (x + 38)) sl ns S rk w).2.2.1 = 0 → A' (x + 38 + 8) = A (x + 38 + 8)) → rw_ (k + 8) mX11_train 83 [.ref x, .int kdv, .int (nI w), a3, a4] [] (mkh n u sh F' R' A' B) Q) :
    ∀ d r F1 R1 A1, r + d = w → frT (x + 25) (x + 38) F R A F1 R1 A1 → isTk sh F1 R1 A1 (x + 38) (trL (sbA A (x + 38)) sl ns S rk r).2.1 (trL (sbA A (x + 38)) sl ns S rk r).2.2.1 (trL (sbA A (x + 38)) sl ns S rk r).2.2.2.1 (trL (sbA A (x + 38)) sl ns S rk r).1 → (∀ k, k < (trL (sbA A (x + 38)) sl ns S rk r).2.2.1 → A1 (x + 38 + 8) k = (trL (sbA A (x + 38)) sl ns S rk r).2.2.2.2.1 k) → ((trL (sbA A (x + 38)) sl ns S rk r).2.2.1 = 0 → A1 (x + 38 + 8) = A (x + 38 + 8)) →
    rw_ (k + 8) mX11_train 49 [.ref x, .int kdv, .int (nI w), .int (if (trL (sbA A (x + 38)) sl ns S rk r).2.2.2.2.2 = true then nI 1 else nI 0), .int (nI r)] [] (mkh n u sh F1 R1 A1 B) Q := by
  have htr := trL_ok (sb := sbA A (x + 38)) (rk := rk) hy hS
  intro d
  induction d with
  | zero =>
    intro r F1 R1 A1 hr f1 f2 f3 f4
    have e : r = w := by omega
    subst e
    have g1 : nI r ≤ nI r := nI_le (Nat.le_refl _) (by omega)
    simp only [rX11_train_49, rX11_train_51, rX11_train_52, g1, up2_eq, va_rf, eq_self, or_true, true_or, Option.toList_some, Option.toList_none, List.cons_append, List.nil_append, if_true, if_false]
    exact hQ _ _ _ _ _ f1 f2 f3 f4
  | succ d ih =>
    intro r F1 R1 A1 hr f1 f2 f3 f4
    have g1 : ¬ nI w ≤ nI r := nI_ge (by omega) (by omega)
    simp only [rX11_train_49, rX11_train_51, rX11_train_52, rX11_train_55, g1, up2_eq, va_rf, eq_self, or_true, true_or, Option.toList_some, Option.toList_none, List.cons_append, List.nil_append, if_true, if_false]
    have hZ := htr r
    by_cases c : (trL (sbA A (x + 38)) sl ns S rk r).2.2.2.2.2 = true
    · have g2 : ¬ nI 1 = nI 0 := by decide
      have e1108 : R1 1108 x = some (x + 38) := by rw [f1.2.1 _ _ (by decide) (by decide)]; exact hX0
      rw [if_pos c]
      have hstep : trL (sbA A (x + 38)) sl ns S rk (r + 1) = if (trL (sbA A (x + 38)) sl ns S rk r).2.2.2.2.2 = true then _ else trL (sbA A (x + 38)) sl ns S rk r := rfl
      rw [if_pos c] at hstep
      generalize hZe : trL (sbA A (x + 38)) sl ns S rk r = Z at hZ f2 f3 f4 c hstep
      obtain ⟨z1, z2, z3, z4, z5, z6⟩ := hZ
      have zc := z6 c
      have esb := sbA_frT f1 (show x + 25 + 8 < x + 38 by omega)
      have mid : rw_ (k + 8) mX11_train 73 [.ref x, .int kdv, .int (nI w), .int (nI 1), .int (nI r)] [.int (if rk = true then nI 1 else nI 0), .ref (x + 38)] (mkh n u sh F1 R1 A1 B) Q := by
        rw [rX11_train_73 hT.1.1]
        refine k_takeNext (k := k + 2) (S := S) (g := Z.1) (isT_frT f1 hT) (isSm_frT f1 hsm) (isK_cong hk (fun q h1 h2 => f1.2.1 _ _ (by omega) (by omega))) (fun n g1 g2 => by rw [f1.2.2 _ (by omega) (by omega) (by omega) (by omega)]; exact hg n g1 g2) f2 z3 (fun q hq => by have := z4 q hq; omega) (by omega) (by omega) z2 hS (isCs_frT f1 hcs) (fun i hi j hj => ?_) ?_ ?_
        · rw [f1.2.2 _ (by omega) (by omega) (by omega) (by omega)]
          obtain ⟨v, v1, v2⟩ := hy i hi j hj
          rw [v2]
          exact nI_byte v1
        · rw [esb]
          intro hn F2 R2 A2 q1 q2 q3
          rw [hn] at hstep
          dsimp only at hstep
          simp only [rX11_train_76, rX11_train_77, rX11_train_80, nI_add, up2_eq, va_rf, eq_self, or_true, true_or, Option.toList_some, Option.toList_none, List.cons_append, List.nil_append, if_true, if_false]
          have := ih (r + 1) F2 R2 A2 (by omega) (frT_trans f1 q1)
          rw [hstep] at this
          simp only [Bool.false_eq_true, up2_eq, va_rf, eq_self, or_true, true_or, Option.toList_some, Option.toList_none, List.cons_append, List.nil_append, if_true, if_false] at this
          exact this q3 (fun k hk => by rw [q2]; exact f3 k hk) (fun e => by rw [q2]; exact f4 e)
        · rw [esb]
          intro b hn hb F2 R2 A2 q1 q2 q3
          rw [hn] at hstep
          dsimp only at hstep
          simp only [rX11_train_76, rX11_train_77, rX11_train_80, nI_add, up2_eq, va_rf, eq_self, or_true, true_or, Option.toList_some, Option.toList_none, List.cons_append, List.nil_append, if_true, if_false]
          have := ih (r + 1) F2 R2 A2 (by omega) (frT_trans f1 q1)
          rw [hstep] at this
          simp only [up2_eq, va_rf, eq_self, or_true, true_or, Option.toList_some, Option.toList_none, List.cons_append, List.nil_append, if_true, if_false] at this
          refine this ⟨q3.1, fun j hj => ?_⟩ (fun k hk => ?_) (fun e => absurd e (Nat.succ_ne_zero _))
          · rw [q3.2 j hj]
            unfold apG apC
            by_cases e : j < Z.2.1
            · rw [if_pos e, if_pos e]
            · rw [if_neg e, if_neg e, if_pos hj]
          · rw [q2]
            dsimp only
            by_cases e : k = Z.2.2.1
            · rw [if_pos e, if_pos e]
            · rw [if_neg e, if_neg e]
              exact f3 k (by omega)
      rw [← hrk] at mid
      simp only [rX11_train_56, rX11_train_59, rX11_train_60, rX11_train_63, rX11_train_64, rX11_train_65, g2, hs0, e1108, up2_eq, va_rf, eq_self, or_true, true_or, Option.toList_some, Option.toList_none, List.cons_append, List.nil_append, if_true, if_false]
      by_cases e2 : kdv = nI 2
      · rw [if_pos e2] at mid ⊢
        simp only [rX11_train_68, rX11_train_69, up2_eq, va_rf, eq_self, or_true, true_or, Option.toList_some, Option.toList_none, List.cons_append, List.nil_append, if_true, if_false]
        exact mid
      · rw [if_neg e2] at mid ⊢
        simp only [rX11_train_72]
        exact mid
    · rw [if_neg c]
      have hst := trL_stop c (d + 1)
      rw [hr] at hst
      have := hQ F1 R1 A1 (.int (nI 0)) (.int (nI r)) f1
      rw [hst] at this
      simp only [rX11_train_56, up2_eq, va_rf, eq_self, or_true, true_or, Option.toList_some, Option.toList_none, List.cons_append, List.nil_append, if_true, if_false]
      exact this f2 f3 f4
theorem c_train {i w : Int32} (h : XS n sh F R A B x ba ma T) (hT : okT T) (hQ : xPost n u sh F R A x (s_train T i w) Q) : rc_ (k + 8) mX11_train [.ref x, .int i, .int w] (mkh n u sh F R A B) Q := by
  obtain ⟨hx, hX, hTO, hDr, hBk, hPk, hGm, hSm, hWi, hRd⟩ := id h
  have r9 := hX.r0 1103 9 (by decide)
  have r38 := hX.r0 1108 38 (by decide)
  have s0 := hX.s0
  have s9 := hX.s 9 0 7 0 (by decide)
  have s38 := hX.s 38 0 8 0 (by decide)
  have h24 := hT.2.2.2.1.1
  have hS9 := hX.shelf hBk h24
  rw [eX11_train]
  unfold s_train at hQ
  by_cases c1 : i < nI 1
  · rw [if_pos (Or.inl c1)] at hQ
    simp only [rX11_train_0, rX11_train_1, rX11_train_2, rX11_train_21, rX11_train_23, c1, up2_eq, va_rf, eq_self, or_true, true_or, Option.toList_some, Option.toList_none, List.cons_append, List.nil_append, if_true, if_false]
    exact xPost_same hQ h
  by_cases c2 : nI 2 < i
  · rw [if_pos (Or.inr (Or.inl c2))] at hQ
    simp only [rX11_train_0, rX11_train_1, rX11_train_2, rX11_train_5, rX11_train_6, rX11_train_7, rX11_train_21, rX11_train_23, c1, c2, up2_eq, va_rf, eq_self, or_true, true_or, Option.toList_some, Option.toList_none, List.cons_append, List.nil_append, if_true, if_false]
    exact xPost_same hQ h
  by_cases c3 : w < nI 1
  · rw [if_pos (Or.inr (Or.inr (Or.inl c3)))] at hQ
    simp only [rX11_train_0, rX11_train_1, rX11_train_2, rX11_train_5, rX11_train_6, rX11_train_7, rX11_train_10, rX11_train_11, rX11_train_12, rX11_train_21, rX11_train_23, c1, c2, c3, up2_eq, va_rf, eq_self, or_true, true_or, Option.toList_some, Option.toList_none, List.cons_append, List.nil_append, if_true, if_false]
    exact xPost_same hQ h
  by_cases c4 : nI 6 < w
  · rw [if_pos (Or.inr (Or.inr (Or.inr c4)))] at hQ
    have g4 : ¬ w ≤ nI 6 := Int32.not_le.mpr c4
    simp only [rX11_train_0, rX11_train_1, rX11_train_2, rX11_train_5, rX11_train_6, rX11_train_7, rX11_train_10, rX11_train_11, rX11_train_12, rX11_train_15, rX11_train_16, rX11_train_18, rX11_train_21, rX11_train_23, c1, c2, c3, g4, up2_eq, va_rf, eq_self, or_true, true_or, Option.toList_some, Option.toList_none, List.cons_append, List.nil_append, if_true, if_false]
    exact xPost_same hQ h
  rw [if_neg (fun e => e.elim c1 (fun e => e.elim c2 (fun e => e.elim c3 c4)))] at hQ
  have g4 : w ≤ nI 6 := Int32.not_lt.mp c4
  have i0 : ¬ i < nI 0 := fun e => by
    have h1 := Int32.lt_iff_toInt_lt.mp e
    have h2 : ¬ i.toInt < (nI 1).toInt := fun q => c1 (Int32.lt_iff_toInt_lt.mpr q)
    rw [nI_toInt (by decide)] at h1 h2
    omega
  have w0 : ¬ w < nI 0 := fun e => by
    have h1 := Int32.lt_iff_toInt_lt.mp e
    have h2 : ¬ w.toInt < (nI 1).toInt := fun q => c3 (Int32.lt_iff_toInt_lt.mpr q)
    rw [nI_toInt (by decide)] at h1 h2
    omega
  obtain ⟨kd, hkd, rfl⟩ := nI_of i0
  obtain ⟨ww, hww, rfl⟩ := nI_of w0
  have k1 : 1 ≤ kd := Nat.not_lt.mp fun e => c1 (nI_lt e (by decide))
  have k2 : kd ≤ 2 := Nat.not_lt.mp fun e => c2 (nI_lt e hkd)
  have w1 : 1 ≤ ww := Nat.not_lt.mp fun e => c3 (nI_lt e (by decide))
  have w2 : ww ≤ 6 := Nat.not_lt.mp fun e => c4 (nI_lt e hww)
  rw [nI_clamp hkd, nI_clamp hww] at hQ
  simp only [rX11_train_0, rX11_train_1, rX11_train_2, rX11_train_5, rX11_train_6, rX11_train_7, rX11_train_10, rX11_train_11, rX11_train_12, rX11_train_15, rX11_train_16, rX11_train_18, rX11_train_24, rX11_train_25, c1, c2, c3, g4, s0, r9, up2_eq, va_rf, eq_self, or_true, true_or, Option.toList_some, Option.toList_none, List.cons_append, List.nil_append, if_true, if_false]
  rw [rX11_train_28 s9, k_Shelf_isFull hS9]
  by_cases c5 : 24 ≤ T.1 2 0
  · rw [if_pos c5] at hQ
    rw [if_neg (by omega)]
    have g3 : ¬ nI 1 = nI 0 := by decide
    simp only [rX11_train_31, rX11_train_34, rX11_train_36, g3, up2_eq, va_rf, eq_self, or_true, true_or, Option.toList_some, Option.toList_none, List.cons_append, List.nil_append, if_true, if_false]
    exact xPost_same hQ h
  rw [if_neg c5] at hQ
  rw [if_pos (by omega)]
  simp only [rX11_train_31, rX11_train_37, rX11_train_38, s0, r38, up2_eq, va_rf, eq_self, or_true, true_or, Option.toList_some, Option.toList_none, List.cons_append, List.nil_append, if_true, if_false]
  rw [rX11_train_41 s38]
  obtain ⟨m1, m2, m3, m4, m5, cc, ss, m6, m7, m8, m9, EE, m10⟩ := id hSm
  have hn8 := m1.2.1
  have hPt : isP sh F R A (x + 38 + 4) (x + 43) (x + 44) 72 ss (x + 45) 6 cc EE := ⟨hX.s 42 0 5 0 (by decide), hX.r 500 42 43 (by decide), hX.r 501 42 45 (by decide), hX.s 45 1 0 6 (by decide), by decide, m8, m6, m10, hX.s 43 0 1 0 (by decide), hX.r 100 43 44 (by decide), hX.s 44 1 0 72 (by decide), by decide, m9, m7⟩
  refine k_Tbegin (k := k + 1) hX.T m1 hPt (fun i hi => by omega) ?_
  intro F0 R0 A0 hfr hcs
  have hb0 : ∀ i, i < T.1 6 0 → ∀ j, j < T.1 7 i → sbA A (x + 38) i j = sbT T.2.1 i j := fun i hi j hj => by
    show A (x + 38 + 10 + 2 * i) j = nI (T.2.1 1 i j)
    rw [show x + 38 + 10 + 2 * i = x + 48 + 2 * i by omega]
    exact m2 i hi j hj
  have hby : ∀ i, i < T.1 6 0 → ∀ j, j < T.1 7 i → ∃ v, v < 256 ∧ sbA A (x + 38) i j = nI v := fun i hi j hj => ⟨T.2.1 1 i j, (hT.2.2.2.2.2.1.2.1 i hi).2 j hj, hb0 i hi j hj⟩
  have eS : begS (sbA A (x + 38)) (T.1 7) (T.1 6 0) (T.1 6 0) = canT T := begS_cg hb0 hn8 _ (Nat.le_refl _)
  have hokS : okCS (T.1 6 0) (T.1 7) (canT T) := begS_okCS hn8 _ (Nat.le_refl _)
  rw [eS] at hcs
  have esb0 := sbA_fr hfr.2.2
  have f0 : ∀ q a, ¬ (201 ≤ q ∧ q ≤ 203 ∨ q = 804 ∨ q = 101 ∧ a = x + 43 ∨ q = 502 ∧ a = x + 42) → F0 q a = F q a := fun q a hq => by
    rw [hfr.1 q a (by omega) (by omega) (by omega) (by omega), up2_o (by omega), up2_o (by omega)]
  have hX0 : isX sh R0 B x := isX_cong hX (fun q a _ h1 _ _ _ _ _ => hfr.2.1 q a h1) (fun _ _ => rfl) rfl rfl
  have hsm0 : isSm F0 (x + 38) (T.1 6 0) (T.1 7) := isSm_cong m1 (f0 _ _ (by omega)) (fun i _ => f0 _ _ (by omega))
  have e502 : F0 502 (x + 42) = nI 0 := by rw [hfr.1 _ _ (by omega) (by omega) (by omega) (by omega)]; exact up2_eq
  have e101 : F0 101 (x + 43) = nI 0 := by rw [hfr.1 _ _ (by omega) (by omega) (by omega) (by omega), up2_o (by omega), up2_eq]
  have hTk0 : isTk sh F0 R0 A0 (x + 38) 0 0 (fun _ => 0) (fun _ => 0) := ⟨⟨hX.s 42 0 5 0 (by decide), hX0.r 500 42 43 (by decide), hX0.r 501 42 45 (by decide), hX.s 45 1 0 6 (by decide), by decide, e502, by omega, fun q hq => absurd hq (Nat.not_lt_zero _), hX.s 43 0 1 0 (by decide), hX0.r 100 43 44 (by decide), hX.s 44 1 0 72 (by decide), by decide, e101, by omega⟩, fun j hj => absurd hj (Nat.not_lt_zero _)⟩
  simp only [rX11_train_44, rX11_train_45, rX11_train_46, rX11_train_47, up2_eq, va_rf, eq_self, or_true, true_or, Option.toList_some, Option.toList_none, List.cons_append, List.nil_append, if_true, if_false]
  refine l_train (rk := decide (nI kd = nI 2)) (w := ww) (S := canT T) (sl := T.1 7) (ns := T.1 6 0) (hX0.r0 1108 38 (by decide)) s0 ?_ w2 hX0.T hsm0 hX0.K2 (fun n g1 g2 => by rw [hfr.2.2 _ (by omega)]; exact (hGm n g1 g2).2) hokS hcs (fun i hi j hj => ?_) ?_ ww 0 F0 R0 A0 (by omega) frT_refl hTk0 (fun k hk => absurd hk (Nat.not_lt_zero _)) (fun _ => rfl)
  · by_cases e : nI kd = nI 2
    · rw [if_pos e]; simp [e]
    · rw [if_neg e]; simp [e]
  · have e1 := congrFun (congrFun esb0 i) j
    obtain ⟨v, v1, v2⟩ := hby i hi j hj
    exact ⟨v, v1, e1.trans v2⟩
  · rw [esb0, trL_cg hb0 hby hokS]
    intro F1 R1 A1 a3 a4 q1 q2 q3 q4
    have hZok := trL_ok (sb := sbT T.2.1) (rk := decide (nI kd = nI 2)) (fun i hi j hj => ⟨T.2.1 1 i j, (hT.2.2.2.2.2.1.2.1 i hi).2 j hj, rfl⟩) hokS ww
    have hZe : trL (sbT T.2.1) (T.1 7) (T.1 6 0) (canT T) (decide (nI kd = nI 2)) ww = traT T (decide (nI kd = nI 2)) ww := rfl
    rw [hZe] at q2 q3 q4 hZok
    generalize traT T (decide (nI kd = nI 2)) ww = Z at q2 q3 q4 hQ hZok
    obtain ⟨z1, z2, z3, z4, z5, z6⟩ := hZok
    have f1 : ∀ q a, ¬ (201 ≤ q ∧ q ≤ 203 ∨ q = 804 ∨ (q = 410 ∨ q = 411) ∧ a = x + 25 ∨ q = 101 ∧ a = x + 43 ∨ q = 502 ∧ a = x + 42) → F1 q a = F q a := fun q a hq => by
      rw [q1.1 q a (by omega) (by omega) (by omega) (by omega)]
      exact f0 q a (by omega)
    have fR : ∀ q a, ¬ (q = 200 ∨ q = 408 ∨ q = 409) → R1 q a = R q a := fun q a hq => by rw [q1.2.1 q a (by omega) (by omega)]; exact hfr.2.1 q a (by omega)
    have fA : ∀ a, ¬ (a = x + 41 ∨ x + 44 ≤ a ∧ a ≤ x + 46 ∨ x + 26 ≤ a ∧ a ≤ x + 32) → A1 a = A a := fun a ha => by rw [q1.2.2 a (by omega) (by omega) (by omega) (by omega)]; exact hfr.2.2 a (by omega)
    have hX1 : isX sh R1 B x := isX_cong hX (fun q a _ h1 h2 h3 _ _ _ => fR q a (by omega)) (fun _ _ => rfl) rfl rfl
    have r38' := hX1.r0 1108 38 (by decide)
    have r42' := hX1.r 807 38 42 (by decide)
    have s42 := hX.s 42 0 5 0 (by decide)
    have e502' : F1 502 (x + 42) = nI Z.2.2.1 := q2.1.2.2.2.2.2.1
    have e101' : F1 101 (x + 43) = nI Z.2.1 := q2.1.2.2.2.2.2.2.2.2.2.2.2.2.1
    simp only [rX11_train_83, rX11_train_84, rX11_train_87, rX11_train_90, s0, s38, s42, r38', r42', e502', up2_eq, va_rf, eq_self, or_true, true_or, Option.toList_some, Option.toList_none, List.cons_append, List.nil_append, if_true, if_false]
    by_cases c6 : Z.2.2.1 = 0
    · rw [if_pos c6] at hQ
      have g6 : nI Z.2.2.1 = nI 0 := by rw [c6]
      have eg := q4 c6
      simp only [rX11_train_93, rX11_train_96, rX11_train_97, g6, up2_eq, va_rf, eq_self, or_true, true_or, Option.toList_some, Option.toList_none, List.cons_append, List.nil_append, if_true, if_false]
      have q := XS_tr (F' := F1) (R' := R1) (A' := A1) (ca := T.1 16 0) (pc := T.1 17 0) (ga := T.2.2 11) h (fun q a hq => f1 q a (by omega)) fR fA (by rw [f1 _ _ (by omega)]; exact m3) (by rw [f1 _ _ (by omega)]; exact m4) (fun k hk => by
        have e1 : A1 (x + 46) = A (x + 46) := eg.trans (hfr.2.2 _ (by omega))
        rw [e1]
        exact m5 k hk) ⟨Z.2.2.1, Z.2.1, by omega, by omega, e502', e101', Z.2.2.2.1, q2.1.2.2.2.2.2.2.2.1⟩
      have eT : (up2 (up2 T.1 16 0 (T.1 16 0)) 17 0 (T.1 17 0), T.2.1, up1 T.2.2 11 (T.2.2 11)) = T := by
        have e1 : up2 (up2 T.1 16 0 (T.1 16 0)) 17 0 (T.1 17 0) = T.1 := by rw [up2_id, up2_id]
        have e2 : up1 T.2.2 11 (T.2.2 11) = T.2.2 := by
          funext q
          unfold up1
          by_cases e : q = 11
          · rw [if_pos e, e]
          · rw [if_neg e]
        rw [e1, e2]
      rw [eT] at q
      exact hQ n u _ _ _ _ _ _ _ q.1 q.2 (by omega) (by omega)
    · rw [if_neg c6] at hQ
      have g6 : ¬ nI Z.2.2.1 = nI 0 := nI_ne0 (by omega) (by omega)
      simp only [rX11_train_93, rX11_train_98, rX11_train_99, g6, s0, r38', up2_eq, va_rf, eq_self, or_true, true_or, Option.toList_some, Option.toList_none, List.cons_append, List.nil_append, if_true, if_false]
      rw [rX11_train_102 s38, eX8_keepGains]
      have e804 : F1 804 (x + 38) = nI (canT T).2 := (isCs_frT q1 hcs).1
      have e502'' : up2 F1 809 (x + 38) (nI (canT T).2) 502 (x + 42) = nI Z.2.2.1 := by rw [up2_k (by decide)]; exact e502'
      simp only [rX8_keepGains_0, rX8_keepGains_1, rX8_keepGains_2, rX8_keepGains_5, rX8_keepGains_8, rX8_keepGains_9, rX8_keepGains_10, rX8_keepGains_13, rX8_keepGains_16, rX8_keepGains_19, s38, s42, r42', e804, e502'', up2_eq, va_rf, eq_self, or_true, true_or, Option.toList_some, Option.toList_none, List.cons_append, List.nil_append, if_true, if_false]
      obtain ⟨y1, y2⟩ := XS_tr (F' := up2 (up2 F1 809 (x + 38) (nI (canT T).2)) 810 (x + 38) (nI Z.2.2.1)) (R' := R1) (A' := A1) (ca := (canT T).2) (pc := Z.2.2.1) (ga := Z.2.2.2.2.1) h (fun q a hq => by rw [up2_o (by omega), up2_o (by omega)]; exact f1 q a (by omega)) fR fA (by rw [up2_k (by decide), up2_eq]) up2_eq q3 ⟨Z.2.2.1, Z.2.1, by omega, by omega, by rw [up2_k (by decide)]; exact e502'', by rw [up2_k (by decide), up2_k (by decide)]; exact e101', Z.2.2.2.1, q2.1.2.2.2.2.2.2.2.1⟩
      have r9' := hX1.r0 1103 9 (by decide)
      simp only [rX11_train_105, rX11_train_106, rX11_train_109, rX11_train_110, rX11_train_111, rX11_train_114, s0, s38, r9', r38', r42', up2_eq, va_rf, eq_self, or_true, true_or, Option.toList_some, Option.toList_none, List.cons_append, List.nil_append, if_true, if_false]
      rw [rX11_train_117 s9]
      have hP2 : isP sh (up2 (up2 F1 809 (x + 38) (nI (canT T).2)) 810 (x + 38) (nI Z.2.2.1)) R1 A1 (x + 42) (x + 43) (x + 44) 72 Z.2.1 (x + 45) 6 Z.2.2.1 Z.2.2.2.1 := isP_cong q2.1 (by rw [up2_k (by decide), up2_k (by decide)]) (by rw [up2_k (by decide), up2_k (by decide)]) rfl rfl rfl rfl
      refine k_append7 (k := k + 3) (T := gaiT T Z) (kd := kd) (f := fun j => (Z.1 j).toNatClampNeg) y1 (by show T.1 2 0 < 24; omega) (fun m hm => (hT.2.2.2.2.2.2.1.2.1 m hm).2.1) hP2 z3 (by omega) (by omega) (by omega) (by omega) (fun j hj => ?_) (by omega) (by omega) ?_
      · obtain ⟨v, v1, v2⟩ := z5 j hj
        have e1 : A1 (x + 44) j = Z.1 j := q2.2 j hj
        rw [e1, v2, nI_clamp (by omega)]
        exact ⟨rfl, v1⟩
      · intro n2 u2 sh2 F2 R2 A2 B2 ba2 g1 g2 g3 g4'
        simp only [rX11_train_120, up2_eq, va_rf, eq_self, or_true, true_or, Option.toList_some, Option.toList_none, List.cons_append, List.nil_append, if_true, if_false]
        exact hQ _ _ _ _ _ _ _ _ _ g1 (frX_trans y2 g2) (by omega) (by omega)
end TRN2
