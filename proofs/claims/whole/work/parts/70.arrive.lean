/-! ===== the class: deliver, send ===== -/
def poT (T : TT) (so b : Nat) (le : Int32) : Bool × TT := if 200 ≤ T.1 8 0 then (false, T) else (true, puT T so (b5 b) le 0 (fun _ => 0))
def holT (T : TT) (b : Nat) : TT := bvT T b (T.1 18 b) 1 0 (T.2.2 2 b) (T.2.2 3 b) (T.2.2 4 b)
def stT (T : TT) (b st : Nat) : TT := bvT T b st (T.1 19 b) (T.1 20 b) (T.2.2 2 b) (T.2.2 3 b) (T.2.2 4 b)
def ofrA (T : TT) (b : Nat) : Bool × TT := if T.1 19 b = 0 then (if 4 ≤ hcT T.1 (T.1 2 0) then poT T 2 b (-1) else poT (holT T b) 1 b (-1)) else poT T 1 b (-1)
def yesA (T : TT) (b : Nat) : Bool × TT := if T.1 18 b = 1 then (true, stT T b 2) else if T.1 18 b = 3 then poT T 4 b (T.2.2 2 b) else (true, T)
def noA (T : TT) (b : Nat) : Bool × TT := (true, if T.1 18 b = 1 then stT T b 0 else T)
def letA (T : TT) (m : Nat) : Bool × TT := (true, if T.1 21 m = 0 then setT (if T.1 19 (mbk T.1 m) = 0 then wiT (msT T m (T.1 11 m) 1) (T.1 13 0) (T.2.2 6 0 + nI 1) (T.2.2 7 0) (T.2.2 8 0 + nI 1) else wiT (msT T m (T.1 11 m) 1) (m + 1) (T.2.2 6 0 + nI 1) (T.2.2 7 0) (T.2.2 8 0)) (mbk T.1 m) else wiT T (T.1 13 0) (T.2.2 6 0) (T.2.2 7 0 + nI 1) (T.2.2 8 0))
def arr (T : TT) (m : Nat) : Bool × TT := if T.1 9 m = 0 then ofrA T (mbk T.1 m) else if T.1 9 m = 1 then yesA T (mbk T.1 m) else if T.1 9 m = 2 then noA T (mbk T.1 m) else if T.1 9 m = 3 then letA T m else (true, gonT T (mbk T.1 m) (T.2.2 5 m))
theorem b01 (y : Bool) : (if y = true then nI 1 else nI 0) = nI 0 ∨ (if y = true then nI 1 else nI 0) = nI 1 := by
  cases y
  · left; rfl
  · right; rfl
section ARR
variable {k n n' u : Nat} {sh sh' : hs_} {F F' : hF_} {R R' : hR_} {A A' : hF_} {B B' : hR_} {Q : Option Value → pm_H → Prop} {x : Nat} {ba ma : Nat → Nat} {T T' : TT} {b m : Nat}
def aPost (n u : Nat) (sh : hs_) (F : hF_) (R : hR_) (A : hF_) (x : Nat) (ba : Nat → Nat) (y : Bool × TT) (Q : Option Value → pm_H → Prop) : Prop :=
  ∀ n' u' sh' F' R' B' ma', XS n' sh' F' R' A B' x ba ma' y.2 → frX x n sh F R A n' sh' F' R' A → n' ≤ n + 1 → u' ≤ u + 6 → Q (some (.int (if y.1 = true then nI 1 else nI 0))) (mkh n' u' sh' F' R' A B')
theorem k_WpostT {so : Nat} {le : Int32} (h : XS n sh F R A B x ba ma T) (hT : okT T) (hb : isB3 T.1 b) (hso : so ≠ 3) (hQ : aPost n u sh F R A x ba (poT T so b le) Q) : rc_ (k + 3) mX9_post [.ref (x + 72), .int (nI so), .ref (ba b), .int le] (mkh n u sh F R A B) Q := by
  unfold poT at hQ
  refine k_Wpost h hT hb hso (fun c => ?_) (fun c sh1 F1 R1 B1 ma1 q1 q2 => ?_)
  · rw [if_pos c] at hQ
    exact hQ n u _ _ _ _ _ h frX_refl (by omega) (by omega)
  · rw [if_neg (by omega)] at hQ
    exact hQ (n + 1) (u + 6) _ _ _ _ _ q1 q2 (by omega) (by omega)
theorem aPost_fr {y : Bool × TT} {F1 : hF_} {R1 : hR_} (hQ : aPost n u sh F R A x ba y Q) (hf : frX x n sh F R A n sh F1 R1 A) : aPost n u sh F1 R1 A x ba y Q := by
  intro n' u' sh' F' R' B' ma' h1 h2 h3 h4
  exact hQ n' u' sh' F' R' B' ma' h1 (frX_trans hf h2) h3 h4
theorem k_answerOffer (h : XS n sh F R A B x ba ma T) (hT : okT T) (hb : b < T.1 2 0) (hQ : aPost n u sh F R A x ba (ofrA T b) Q) : rc_ (k + 4) mX9_answerOffer [.ref (x + 72), .ref (ba b)] (mkh n u sh F R A B) Q := by
  obtain ⟨hx, hX, hTO, hDr, hBk, hPk, hGm, hSm, hWi, hRd⟩ := id h
  have hb3 : isB3 T.1 b := Or.inl hb
  have s72 := hX.s 72 0 9 0 (by decide)
  have r9 := hX.r 900 72 9 (by decide)
  have h24 := hT.2.2.2.1.1
  have hS := hX.shelf hBk h24
  obtain ⟨a1, v1, v2, v3, v4, -⟩ := bkV_at h hb3
  obtain ⟨-, t18, t19, t20⟩ := hT.2.2.2.1.2.1 b hb3
  rw [eX9_answerOffer]
  unfold ofrA at hQ
  by_cases c1 : T.1 19 b = 0
  · rw [if_pos c1] at hQ
    rw [c1] at v4
    simp only [rX9_answerOffer_0, rX9_answerOffer_0_n, rX9_answerOffer_1, rX9_answerOffer_4, rX9_answerOffer_7, rX9_answerOffer_8, a1, v4, s72, r9, up2_eq, va_rf, eq_self, or_true, true_or, Option.toList_some, Option.toList_none, List.cons_append, List.nil_append, if_true, if_false]
    have hle := hct_le (F := F) (bs := ba) (T.1 2 0)
    rw [rX9_answerOffer_11 hS.1, k_Shelf_held hS]
    rw [hct_T hBk hT _ (Nat.le_refl _)] at hle ⊢
    by_cases c2 : 4 ≤ hcT T.1 (T.1 2 0)
    · rw [if_pos c2] at hQ
      have g2 : ¬ nI (hcT T.1 (T.1 2 0)) < nI 4 := nI_nlt c2 (by omega)
      simp only [rX9_answerOffer_14, rX9_answerOffer_15, rX9_answerOffer_18, rX9_answerOffer_19, rX9_answerOffer_20, rX9_answerOffer_20_n, rX9_answerOffer_21, g2, up2_eq, va_rf, eq_self, or_true, true_or, Option.toList_some, Option.toList_none, List.cons_append, List.nil_append, if_true, if_false]
      rw [rX9_answerOffer_22 s72]
      refine k_WpostT h hT hb3 (by decide) (fun n' u' sh' F' R' B' ma' h1 h2 h3 h4 => ?_)
      simp only [up2_eq, va_rf, eq_self, or_true, true_or, Option.toList_some, Option.toList_none, List.cons_append, List.nil_append, if_true, if_false]
      rw [rX9_answerOffer_25 (b01 _)]
      exact hQ n' u' sh' F' R' B' ma' h1 h2 h3 h4
    · rw [if_neg c2] at hQ
      have g2 : nI (hcT T.1 (T.1 2 0)) < nI 4 := nI_lt (by omega) (by omega)
      simp only [rX9_answerOffer_14, rX9_answerOffer_15, rX9_answerOffer_26, rX9_answerOffer_26_n, g2, up2_eq, va_rf, eq_self, or_true, true_or, Option.toList_some, Option.toList_none, List.cons_append, List.nil_append, if_true, if_false]
      rw [rX9_answerOffer_27 a1, k_Book_hold a1]
      simp only [rX9_answerOffer_30, rX9_answerOffer_31, rX9_answerOffer_32, rX9_answerOffer_32_n, rX9_answerOffer_33, up2_eq, va_rf, eq_self, or_true, true_or, Option.toList_some, Option.toList_none, List.cons_append, List.nil_append, if_true, if_false]
      obtain ⟨p1, p2⟩ := XS_hold h hT hb3
      rw [rX9_answerOffer_34 s72]
      have hT1 : okT (holT T b) := okT_bv hT t18 (by omega) (by omega) (fun e => by omega)
      refine k_WpostT (T := holT T b) p1 hT1 hb3 (by decide) (fun n' u' sh' F' R' B' ma' h1 h2 h3 h4 => ?_)
      simp only [up2_eq, va_rf, eq_self, or_true, true_or, Option.toList_some, Option.toList_none, List.cons_append, List.nil_append, if_true, if_false]
      rw [rX9_answerOffer_37 (b01 _)]
      exact hQ n' u' sh' F' R' B' ma' h1 (frX_trans p2 h2) h3 h4
  · rw [if_neg c1] at hQ
    have g1 : ¬ nI (T.1 19 b) = nI 0 := nI_ne0 (by omega) (by omega)
    simp only [rX9_answerOffer_0, rX9_answerOffer_0_n, rX9_answerOffer_1, rX9_answerOffer_4, rX9_answerOffer_30, rX9_answerOffer_31, rX9_answerOffer_32, rX9_answerOffer_32_n, rX9_answerOffer_33, a1, v4, g1, up2_eq, va_rf, eq_self, or_true, true_or, Option.toList_some, Option.toList_none, List.cons_append, List.nil_append, if_true, if_false]
    rw [rX9_answerOffer_34 s72]
    refine k_WpostT h hT hb3 (by decide) (fun n' u' sh' F' R' B' ma' h1 h2 h3 h4 => ?_)
    simp only [up2_eq, va_rf, eq_self, or_true, true_or, Option.toList_some, Option.toList_none, List.cons_append, List.nil_append, if_true, if_false]
    rw [rX9_answerOffer_37 (b01 _)]
    exact hQ n' u' sh' F' R' B' ma' h1 h2 h3 h4
theorem k_hearYes (h : XS n sh F R A B x ba ma T) (hT : okT T) (hb : b < T.1 2 0) (hQ : aPost n u sh F R A x ba (yesA T b) Q) : rc_ (k + 4) mX9_hearYes [.ref (x + 72), .ref (ba b)] (mkh n u sh F R A B) Q := by
  obtain ⟨hx, hX, hTO, hDr, hBk, hPk, hGm, hSm, hWi, hRd⟩ := id h
  have hb3 : isB3 T.1 b := Or.inl hb
  have s72 := hX.s 72 0 9 0 (by decide)
  obtain ⟨a1, v1, v2, v3, v4, -⟩ := bkV_at h hb3
  obtain ⟨-, t18, t19, t20⟩ := hT.2.2.2.1.2.1 b hb3
  rw [eX9_hearYes]
  unfold yesA at hQ
  by_cases c1 : T.1 18 b = 1
  · rw [if_pos c1] at hQ
    rw [c1] at v2
    have g1 : ¬ nI 2 = nI 3 := by decide
    simp only [rX9_hearYes_0, rX9_hearYes_0_n, rX9_hearYes_1, rX9_hearYes_4, rX9_hearYes_5, rX9_hearYes_8, rX9_hearYes_8_n, rX9_hearYes_9, rX9_hearYes_10, rX9_hearYes_13, rX9_hearYes_13_n, rX9_hearYes_14, rX9_hearYes_17, rX9_hearYes_18, rX9_hearYes_34, rX9_hearYes_35, rX9_hearYes_39, a1, v2, g1, up2_eq, va_rf, eq_self, or_true, true_or, Option.toList_some, Option.toList_none, List.cons_append, List.nil_append, if_true, if_false]
    obtain ⟨p1, p2⟩ := XS_st (st := 2) h hT hb3
    exact hQ n u _ _ _ _ _ p1 p2 (by omega) (by omega)
  · rw [if_neg c1] at hQ
    have g0 : ¬ nI (T.1 18 b) = nI 1 := by rw [nI_eq (by omega) (by omega)]; exact c1
    by_cases c2 : T.1 18 b = 3
    · rw [if_pos c2] at hQ
      have g2 : nI (T.1 18 b) = nI 3 := by rw [c2]
      rw [g2] at g0 v2
      simp only [rX9_hearYes_0, rX9_hearYes_0_n, rX9_hearYes_1, rX9_hearYes_4, rX9_hearYes_5, rX9_hearYes_13, rX9_hearYes_13_n, rX9_hearYes_14, rX9_hearYes_17, rX9_hearYes_18, rX9_hearYes_21, rX9_hearYes_22, rX9_hearYes_23, rX9_hearYes_23_n, rX9_hearYes_24, rX9_hearYes_24_n, rX9_hearYes_25, a1, v2, v3, g0, up2_eq, va_rf, eq_self, or_true, true_or, Option.toList_some, Option.toList_none, List.cons_append, List.nil_append, if_true, if_false]
      rw [rX9_hearYes_28 s72]
      refine k_WpostT h hT hb3 (by decide) (fun n' u' sh' F' R' B' ma' h1 h2 h3 h4 => ?_)
      have hq := hQ n' u' sh' F' R' B' ma' h1 h2 h3 h4
      cases hp : (poT T 4 b (T.2.2 2 b)).1 with
      | true =>
        rw [hp] at hq
        have g3 : ¬ nI 1 = nI 0 := by decide
        simp only [rX9_hearYes_31, rX9_hearYes_34, rX9_hearYes_35, rX9_hearYes_39, g3, up2_eq, va_rf, eq_self, or_true, true_or, Option.toList_some, Option.toList_none, List.cons_append, List.nil_append, if_true, if_false]
        simp only [up2_eq, va_rf, eq_self, or_true, true_or, Option.toList_some, Option.toList_none, List.cons_append, List.nil_append, if_true, if_false] at hq
        exact hq
      | false =>
        rw [hp] at hq
        simp only [Bool.false_eq_true, rX9_hearYes_31, rX9_hearYes_38, rX9_hearYes_39, up2_eq, va_rf, eq_self, or_true, true_or, Option.toList_some, Option.toList_none, List.cons_append, List.nil_append, if_true, if_false]
        simp only [Bool.false_eq_true, up2_eq, va_rf, eq_self, or_true, true_or, Option.toList_some, Option.toList_none, List.cons_append, List.nil_append, if_true, if_false] at hq
        exact hq
    · rw [if_neg c2] at hQ
      have g2 : ¬ nI (T.1 18 b) = nI 3 := by rw [nI_eq (by omega) (by omega)]; exact c2
      simp only [rX9_hearYes_0, rX9_hearYes_0_n, rX9_hearYes_1, rX9_hearYes_4, rX9_hearYes_5, rX9_hearYes_13, rX9_hearYes_13_n, rX9_hearYes_14, rX9_hearYes_17, rX9_hearYes_18, rX9_hearYes_34, rX9_hearYes_35, rX9_hearYes_39, a1, v2, g0, g2, up2_eq, va_rf, eq_self, or_true, true_or, Option.toList_some, Option.toList_none, List.cons_append, List.nil_append, if_true, if_false]
      exact hQ n u _ _ _ _ _ h frX_refl (by omega) (by omega)
theorem k_hearNo (h : XS n sh F R A B x ba ma T) (hT : okT T) (hb : b < T.1 2 0) (hQ : ∀ F', XS n sh F' R A B x ba ma (noA T b).2 → frX x n sh F R A n sh F' R A → Q none (mkh n u sh F' R A B)) : rc_ k mX9_hearNo [.ref (x + 72), .ref (ba b)] (mkh n u sh F R A B) Q := by
  have hb3 : isB3 T.1 b := Or.inl hb
  obtain ⟨a1, v1, v2, v3, v4, -⟩ := bkV_at h hb3
  obtain ⟨-, t18, t19, t20⟩ := hT.2.2.2.1.2.1 b hb3
  rw [eX9_hearNo]
  unfold noA at hQ
  by_cases c1 : T.1 18 b = 1
  · rw [if_pos c1] at hQ
    rw [c1] at v2
    simp only [rX9_hearNo_0, rX9_hearNo_0_n, rX9_hearNo_1, rX9_hearNo_4, rX9_hearNo_5, rX9_hearNo_8, rX9_hearNo_8_n, rX9_hearNo_9, rX9_hearNo_10, rX9_hearNo_13, a1, v2, up2_eq, va_rf, eq_self, or_true, true_or, Option.toList_some, Option.toList_none, List.cons_append, List.nil_append, if_true, if_false]
    obtain ⟨p1, p2⟩ := XS_st (st := 0) h hT hb3
    exact hQ _ p1 p2
  · rw [if_neg c1] at hQ
    have g0 : ¬ nI (T.1 18 b) = nI 1 := by rw [nI_eq (by omega) (by omega)]; exact c1
    simp only [rX9_hearNo_0, rX9_hearNo_0_n, rX9_hearNo_1, rX9_hearNo_4, rX9_hearNo_5, rX9_hearNo_8, rX9_hearNo_8_n, rX9_hearNo_9, rX9_hearNo_10, rX9_hearNo_13, a1, v2, g0, up2_eq, va_rf, eq_self, or_true, true_or, Option.toList_some, Option.toList_none, List.cons_append, List.nil_append, if_true, if_false]
    exact hQ _ h frX_refl
theorem k_takeLetter (h : XS n sh F R A B x ba ma T) (hT : okT T) (hm : m < T.1 8 0) (hs : T.1 9 m = 3) (hQ : ∀ F' R', XS n sh F' R' A B x ba ma (letA T m).2 → frX x n sh F R A n sh F' R' A → Q none (mkh n u sh F' R' A B)) : rc_ (k + 2) mX9_takeLetter [.ref (x + 72), .ref (ma m)] (mkh n u sh F R A B) Q := by
  obtain ⟨hx, hX, hTO, hDr, hBk, hPk, hGm, hSm, hWi, hRd⟩ := id h
  have s72 := hX.s 72 0 9 0 (by decide)
  obtain ⟨w1, w2, w3, w4, w5, w6, w7⟩ := id hWi
  obtain ⟨b1, b2, b3, b4, ⟨v1, v2, v3, v4, v5⟩, -⟩ := w6 m hm
  obtain ⟨o1, o2, o3, o4, o5, o6, o7⟩ := hT.2.2.2.2.2.2.1.2.1 m hm
  have hl1 := hT.2.2.2.2.2.2.1.2.2.1
  have hl2 := hT.2.2.2.2.2.2.1.2.2.2
  have a1 := (bkV_at h o2).1
  rw [eX9_takeLetter]
  unfold letA at hQ
  by_cases c1 : T.1 21 m = 0
  · rw [if_pos c1] at hQ
    rw [c1] at v5
    obtain ⟨p1, p2⟩ := XS_ms (F' := up2 F 305 (ma m) (nI 1)) (uw := T.1 11 m) (fa := 1) h hm (fun q a hq => up2_o (by omega)) (by rw [up2_k (by decide)]; exact v4) up2_eq
    have hT1 : okT (msT T m (T.1 11 m) 1) := okT_ms hT o5 (by omega)
    have e905 : up2 F 305 (ma m) (nI 1) 905 (x + 72) = T.2.2 6 0 := by rw [up2_k (by decide)]; exact w2
    have e907 : up2 (up2 F 305 (ma m) (nI 1)) 905 (x + 72) (T.2.2 6 0 + nI 1) 907 (x + 72) = T.2.2 8 0 := by rw [up2_k (by decide), up2_k (by decide)]; exact w4
    obtain ⟨-, -, -, -, v19, -⟩ := bkV_at h o2
    have t19 := (hT.2.2.2.1.2.1 _ o2).2.2.1
    have e5 : up2 (up2 F 305 (ma m) (nI 1)) 905 (x + 72) (T.2.2 6 0 + nI 1) 5 (ba (mbk T.1 m)) = nI (T.1 19 (mbk T.1 m)) := by rw [up2_k (by decide), up2_k (by decide)]; exact v19
    simp only [rX9_takeLetter_0, rX9_takeLetter_0_n, rX9_takeLetter_1, rX9_takeLetter_4, rX9_takeLetter_18, rX9_takeLetter_18_n, rX9_takeLetter_19, rX9_takeLetter_20, rX9_takeLetter_23, rX9_takeLetter_24, rX9_takeLetter_25, rX9_takeLetter_28, rX9_takeLetter_29, rX9_takeLetter_30, rX9_takeLetter_33, rX9_takeLetter_33_n, rX9_takeLetter_34, rX9_takeLetter_37, b4, v5, s72, e905, v2, a1, e5, up2_eq, va_rf, eq_self, or_true, true_or, Option.toList_some, Option.toList_none, List.cons_append, List.nil_append, if_true, if_false]
    by_cases c2 : T.1 19 (mbk T.1 m) = 0
    · rw [if_pos c2] at hQ
      have g2 : nI (T.1 19 (mbk T.1 m)) = nI 0 := by rw [c2]
      simp only [rX9_takeLetter_40, rX9_takeLetter_51, rX9_takeLetter_52, rX9_takeLetter_53, rX9_takeLetter_56, rX9_takeLetter_57, rX9_takeLetter_58, rX9_takeLetter_61, rX9_takeLetter_61_n, rX9_takeLetter_62, g2, s72, e907, b4, v2, up2_eq, va_rf, eq_self, or_true, true_or, Option.toList_some, Option.toList_none, List.cons_append, List.nil_append, if_true, if_false]
      obtain ⟨p3, p4⟩ := XS_wi (F' := up2 (up2 (up2 F 305 (ma m) (nI 1)) 905 (x + 72) (T.2.2 6 0 + nI 1)) 907 (x + 72) (T.2.2 8 0 + nI 1)) (R' := R) (la := T.1 13 0) (cm := T.2.2 6 0 + nI 1) (rp := T.2.2 7 0) (mi := T.2.2 8 0 + nI 1) p1 (fun q a hq => by rw [up2_o (by omega), up2_o (by omega)]) (fun _ _ _ => rfl) (by rw [up2_k (by decide), up2_eq]) (by rw [up2_k (by decide), up2_k (by decide), up2_k (by decide)]; exact w3) up2_eq w5
      have hT2 : okT (wiT (msT T m (T.1 11 m) 1) (T.1 13 0) (T.2.2 6 0 + nI 1) (T.2.2 7 0) (T.2.2 8 0 + nI 1)) := okT_wi hT1 hl1 hl2
      obtain ⟨p5, p6⟩ := XS_set (b := mbk T.1 m) p3 hT2 o2
      rw [rX9_takeLetter_65 a1, k_Book_settle a1]
      simp only [rX9_takeLetter_68, up2_eq, va_rf, eq_self, or_true, true_or, Option.toList_some, Option.toList_none, List.cons_append, List.nil_append, if_true, if_false]
      exact hQ _ _ p5 (frX_trans p2 (frX_trans p4 p6))
    · rw [if_neg c2] at hQ
      have g2 : ¬ nI (T.1 19 (mbk T.1 m)) = nI 0 := nI_ne0 (by omega) (by omega)
      have e301 : up2 R 903 (x + 72) (some (ma m)) 301 (ma m) = some (ba (mbk T.1 m)) := by rw [up2_k (by decide)]; exact v2
      simp only [rX9_takeLetter_40, rX9_takeLetter_43, rX9_takeLetter_44, rX9_takeLetter_44_n, rX9_takeLetter_45, rX9_takeLetter_48, rX9_takeLetter_61, rX9_takeLetter_61_n, rX9_takeLetter_62, g2, s72, b4, e301, up2_eq, va_rf, eq_self, or_true, true_or, Option.toList_some, Option.toList_none, List.cons_append, List.nil_append, if_true, if_false]
      obtain ⟨p3, p4⟩ := XS_wi (F' := up2 (up2 F 305 (ma m) (nI 1)) 905 (x + 72) (T.2.2 6 0 + nI 1)) (R' := up2 R 903 (x + 72) (some (ma m))) (la := m + 1) (cm := T.2.2 6 0 + nI 1) (rp := T.2.2 7 0) (mi := T.2.2 8 0) p1 (fun q a hq => up2_o (by omega)) (fun q a hq => up2_o hq) up2_eq (by rw [up2_k (by decide), up2_k (by decide)]; exact w3) e907 (by rw [up2_eq, if_neg (by omega), Nat.add_sub_cancel])
      have hT2 : okT (wiT (msT T m (T.1 11 m) 1) (m + 1) (T.2.2 6 0 + nI 1) (T.2.2 7 0) (T.2.2 8 0)) := okT_wi hT1 hm (fun _ => by rw [Nat.add_sub_cancel]; exact hs)
      obtain ⟨p5, p6⟩ := XS_set (b := mbk T.1 m) p3 hT2 o2
      rw [rX9_takeLetter_65 a1, k_Book_settle a1]
      simp only [rX9_takeLetter_68, up2_eq, va_rf, eq_self, or_true, true_or, Option.toList_some, Option.toList_none, List.cons_append, List.nil_append, if_true, if_false]
      exact hQ _ _ p5 (frX_trans p2 (frX_trans p4 p6))
  · rw [if_neg c1] at hQ
    have g1 : ¬ nI (T.1 21 m) = nI 0 := nI_ne0 (by omega) (by omega)
    simp only [rX9_takeLetter_0, rX9_takeLetter_0_n, rX9_takeLetter_1, rX9_takeLetter_4, rX9_takeLetter_7, rX9_takeLetter_8, rX9_takeLetter_9, rX9_takeLetter_12, rX9_takeLetter_13, rX9_takeLetter_14, rX9_takeLetter_17, b4, v5, g1, s72, w3, up2_eq, va_rf, eq_self, or_true, true_or, Option.toList_some, Option.toList_none, List.cons_append, List.nil_append, if_true, if_false]
    obtain ⟨p3, p4⟩ := XS_wi (F' := up2 F 906 (x + 72) (T.2.2 7 0 + nI 1)) (R' := R) (la := T.1 13 0) (cm := T.2.2 6 0) (rp := T.2.2 7 0 + nI 1) (mi := T.2.2 8 0) h (fun q a hq => up2_o (by omega)) (fun _ _ _ => rfl) (by rw [up2_k (by decide)]; exact w2) up2_eq (by rw [up2_k (by decide)]; exact w4) w5
    exact hQ _ _ p3 p4
theorem k_arrive (h : XS n sh F R A B x ba ma T) (hT : okT T) (hm : m < T.1 8 0) (hQ : aPost n u sh F R A x ba (arr T m) Q) : rc_ (k + 5) mX9_arrive [.ref (x + 72), .ref (ma m)] (mkh n u sh F R A B) Q := by
  obtain ⟨hx, hX, hTO, hDr, hBk, hPk, hGm, hSm, hWi, hRd⟩ := id h
  have s72 := hX.s 72 0 9 0 (by decide)
  obtain ⟨b1, b2, b3, b4, ⟨v1, v2, v3, v4, v5⟩, -⟩ := hWi.2.2.2.2.2.1 m hm
  obtain ⟨o1, o2, o3, o4, o5, o6, o7⟩ := hT.2.2.2.2.2.2.1.2.1 m hm
  have hbn : T.1 9 m ≠ 3 → mbk T.1 m < T.1 2 0 := fun c => by
    have : T.1 10 m ≠ 0 := fun e => c (o3 e)
    unfold mbk
    rw [if_neg this]
    omega
  rw [eX9_arrive]
  unfold arr at hQ
  simp only [rX9_arrive_0, rX9_arrive_0_n, rX9_arrive_1, rX9_arrive_4, b4, v1, up2_eq, va_rf, eq_self, or_true, true_or, Option.toList_some, Option.toList_none, List.cons_append, List.nil_append, if_true, if_false]
  by_cases c : T.1 9 m = 0
  · rw [if_pos c] at hQ
    rw [if_pos (by rw [c])]
    simp only [rX9_arrive_36, rX9_arrive_37, rX9_arrive_37_n, rX9_arrive_38, b4, v2, up2_eq, va_rf, eq_self, or_true, true_or, Option.toList_some, Option.toList_none, List.cons_append, List.nil_append, if_true, if_false]
    rw [rX9_arrive_41 s72]
    refine k_answerOffer h hT (hbn (by omega)) (fun n' u' sh' F' R' B' ma' h1 h2 h3 h4 => ?_)
    simp only [up2_eq, va_rf, eq_self, or_true, true_or, Option.toList_some, Option.toList_none, List.cons_append, List.nil_append, if_true, if_false]
    rw [rX9_arrive_44 (b01 _)]
    exact hQ n' u' sh' F' R' B' ma' h1 h2 h3 h4
  rw [if_neg c] at hQ
  rw [if_neg (by rw [nI_eq (by omega) (by omega)]; exact c)]
  by_cases c : T.1 9 m = 1
  · rw [if_pos c] at hQ
    rw [if_pos (by rw [c])]
    simp only [rX9_arrive_45, rX9_arrive_46, rX9_arrive_46_n, rX9_arrive_47, b4, v2, up2_eq, va_rf, eq_self, or_true, true_or, Option.toList_some, Option.toList_none, List.cons_append, List.nil_append, if_true, if_false]
    rw [rX9_arrive_50 s72]
    refine k_hearYes h hT (hbn (by omega)) (fun n' u' sh' F' R' B' ma' h1 h2 h3 h4 => ?_)
    simp only [up2_eq, va_rf, eq_self, or_true, true_or, Option.toList_some, Option.toList_none, List.cons_append, List.nil_append, if_true, if_false]
    rw [rX9_arrive_53 (b01 _)]
    exact hQ n' u' sh' F' R' B' ma' h1 h2 h3 h4
  rw [if_neg c] at hQ
  rw [if_neg (by rw [nI_eq (by omega) (by omega)]; exact c)]
  by_cases c : T.1 9 m = 2
  · rw [if_pos c] at hQ
    rw [if_pos (by rw [c])]
    simp only [rX9_arrive_54, rX9_arrive_55, rX9_arrive_55_n, rX9_arrive_56, b4, v2, up2_eq, va_rf, eq_self, or_true, true_or, Option.toList_some, Option.toList_none, List.cons_append, List.nil_append, if_true, if_false]
    rw [rX9_arrive_59 s72]
    refine k_hearNo h hT (hbn (by omega)) (fun F' h1 h2 => ?_)
    simp only [rX9_arrive_62, rX9_arrive_63, up2_eq, va_rf, eq_self, or_true, true_or, Option.toList_some, Option.toList_none, List.cons_append, List.nil_append, if_true, if_false]
    exact hQ n u _ _ _ _ _ h1 h2 (by omega) (by omega)
  rw [if_neg c] at hQ
  rw [if_neg (by rw [nI_eq (by omega) (by omega)]; exact c)]
  by_cases c : T.1 9 m = 3
  · rw [if_pos c] at hQ
    rw [if_pos (by rw [c])]
    simp only [rX9_arrive_64, rX9_arrive_65, rX9_arrive_65_n, up2_eq, va_rf, eq_self, or_true, true_or, Option.toList_some, Option.toList_none, List.cons_append, List.nil_append, if_true, if_false]
    rw [rX9_arrive_66 s72]
    refine k_takeLetter h hT hm c (fun F' R' h1 h2 => ?_)
    simp only [rX9_arrive_69, rX9_arrive_70, up2_eq, va_rf, eq_self, or_true, true_or, Option.toList_some, Option.toList_none, List.cons_append, List.nil_append, if_true, if_false]
    exact hQ n u _ _ _ _ _ h1 h2 (by omega) (by omega)
  rw [if_neg c] at hQ
  rw [if_neg (by rw [nI_eq (by omega) (by omega)]; exact c)]
  have a1 := (bkV_at h o2).1
  simp only [rX9_arrive_71, rX9_arrive_71_n, rX9_arrive_72, rX9_arrive_75, rX9_arrive_75_n, rX9_arrive_76, b4, v2, v3, up2_eq, va_rf, eq_self, or_true, true_or, Option.toList_some, Option.toList_none, List.cons_append, List.nil_append, if_true, if_false]
  rw [rX9_arrive_79 a1, k_Book_await a1]
  simp only [rX9_arrive_82, rX9_arrive_83, up2_eq, va_rf, eq_self, or_true, true_or, Option.toList_some, Option.toList_none, List.cons_append, List.nil_append, if_true, if_false]
  obtain ⟨p1, p2⟩ := XS_gon (le := T.2.2 5 m) h hT o2
  exact hQ n u _ _ _ _ _ p1 p2 (by omega) (by omega)
def s_deliver (T : TT) (i : Int32) : Int32 × TT := match ix i (T.1 8 0) with
  | none => (-3, T)
  | some m => if T.1 11 m = 0 then (-4, T) else (if (arr (msT T m (T.1 11 m - 1) (T.1 21 m)) m).1 = true then nI 0 else nI 1, (arr (msT T m (T.1 11 m - 1) (T.1 21 m)) m).2)
theorem c_deliver {i : Int32} (h : XS n sh F R A B x ba ma T) (hT : okT T) (hQ : xPost n u sh F R A x (s_deliver T i) Q) : rc_ (k + 8) mX11_deliver [.ref x, .int i] (mkh n u sh F R A B) Q := by
  obtain ⟨hx, hX, hTO, hDr, hBk, hPk, hGm, hSm, hWi, hRd⟩ := id h
  have s0 := hX.s0
  have h72 := hX.s 72 0 9 0 (by decide)
  have r72 := hX.r0 1109 72 (by decide)
  rw [eX11_deliver]
  simp only [rX11_deliver_0, rX11_deliver_1, rX11_deliver_4, s0, r72, up2_eq, va_rf, eq_self, or_true, true_or, Option.toList_some, Option.toList_none, List.cons_append, List.nil_append, if_true, if_false]
  rw [rX11_deliver_5 h72, k_Wfind hX hWi hT.2.2.2.2.2.2.1.1]
  unfold s_deliver at hQ
  cases hi : ix i (T.1 8 0) with
  | none =>
    rw [hi] at hQ
    simp only [Option.map_none, rX11_deliver_8, rX11_deliver_8_n, rX11_deliver_9, rX11_deliver_9_n, rX11_deliver_10, rX11_deliver_10_n, rX11_deliver_13, rX11_deliver_15, up2_eq, va_rf, eq_self, or_true, true_or, Option.toList_some, Option.toList_none, List.cons_append, List.nil_append, if_true, if_false]
    exact xPost_same hQ h
  | some m =>
    rw [hi] at hQ
    obtain ⟨hm, -, -⟩ := ix_some hi
    obtain ⟨b1, b2, b3, b4, ⟨v1, v2, v3, v4, v5⟩, -⟩ := hWi.2.2.2.2.2.1 m hm
    obtain ⟨o1, o2, o3, o4, o5, o6, o7⟩ := hT.2.2.2.2.2.2.1.2.1 m hm
    dsimp only at hQ
    by_cases c : T.1 11 m = 0
    · rw [if_pos c] at hQ
      rw [c] at v4
      simp only [Option.map_some, rX11_deliver_8, rX11_deliver_8_n, rX11_deliver_9, rX11_deliver_9_n, rX11_deliver_10, rX11_deliver_10_n, rX11_deliver_16, rX11_deliver_16_n, rX11_deliver_17, rX11_deliver_20, rX11_deliver_23, rX11_deliver_25, b4, v4, up2_eq, va_rf, eq_self, or_true, true_or, Option.toList_some, Option.toList_none, List.cons_append, List.nil_append, if_true, if_false]
      exact xPost_same hQ h
    · rw [if_neg c] at hQ
      have g1 : ¬ nI (T.1 11 m) = nI 0 := nI_ne0 (by omega) (by omega)
      have g2 : nI (T.1 11 m) - nI 1 = nI (T.1 11 m - 1) := pk_sub (by omega)
      simp only [Option.map_some, rX11_deliver_8, rX11_deliver_8_n, rX11_deliver_9, rX11_deliver_9_n, rX11_deliver_10, rX11_deliver_10_n, rX11_deliver_16, rX11_deliver_16_n, rX11_deliver_17, rX11_deliver_20, rX11_deliver_26, rX11_deliver_26_n, rX11_deliver_27, rX11_deliver_28, rX11_deliver_31, rX11_deliver_32, rX11_deliver_33, rX11_deliver_36, rX11_deliver_37, rX11_deliver_40, rX11_deliver_40_n, b4, v4, g1, g2, s0, r72, up2_eq, va_rf, eq_self, or_true, true_or, Option.toList_some, Option.toList_none, List.cons_append, List.nil_append, if_true, if_false]
      obtain ⟨p1, p2⟩ := XS_ms (F' := up2 F 304 (ma m) (nI (T.1 11 m - 1))) (uw := T.1 11 m - 1) (fa := T.1 21 m) h hm (fun q a hq => by rw [up2_o (by omega)]) up2_eq (by rw [up2_k (by decide)]; exact v5)
      rw [rX11_deliver_41 h72]
      refine k_arrive (k := k + 2) (T := msT T m (T.1 11 m - 1) (T.1 21 m)) p1 (okT_ms hT (by omega) o6) hm (fun n' u' sh' F' R' B' ma' h1 h2 h3 h4 => ?_)
      have hq := hQ n' u' sh' F' R' A B' ba ma' h1 (frX_trans p2 h2) (by omega) (by omega)
      cases hp : (arr (msT T m (T.1 11 m - 1) (T.1 21 m)) m).1 with
      | true =>
        rw [hp] at hq
        have g3 : ¬ nI 1 = nI 0 := by decide
        simp only [rX11_deliver_44, rX11_deliver_47, rX11_deliver_48, rX11_deliver_52, g3, up2_eq, va_rf, eq_self, or_true, true_or, Option.toList_some, Option.toList_none, List.cons_append, List.nil_append, if_true, if_false]
        simp only [up2_eq, va_rf, eq_self, or_true, true_or, Option.toList_some, Option.toList_none, List.cons_append, List.nil_append, if_true, if_false] at hq
        exact hq
      | false =>
        rw [hp] at hq
        simp only [Bool.false_eq_true, rX11_deliver_44, rX11_deliver_51, rX11_deliver_52, up2_eq, va_rf, eq_self, or_true, true_or, Option.toList_some, Option.toList_none, List.cons_append, List.nil_append, if_true, if_false]
        simp only [Bool.false_eq_true, up2_eq, va_rf, eq_self, or_true, true_or, Option.toList_some, Option.toList_none, List.cons_append, List.nil_append, if_true, if_false] at hq
        exact hq
end ARR
