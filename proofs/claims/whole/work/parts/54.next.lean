/-! ===== the trainer's next piece ===== -/
section NXT
variable {k n u : Nat} {sh : hs_} {F : hF_} {R : hR_} {A : hF_} {B : hR_} {Q : Option Value → pm_H → Prop} {t pk ns : Nat} {sl : Nat → Nat} {s c : Nat} {E : Nat → Nat} {g : Nat → Int32} {rk : Bool} {S : cS}
theorem isCs_frT {F' R' A'} {f : Nat} {cs : Nat → cd} (h : frT pk t F R A F' R' A') (hC : isCs F R t f cs) : isCs F' R' t f cs :=
  ⟨by rw [h.1 _ _ (by omega) (by omega) (fun e => by cases e) (fun e => by cases e)]; exact hC.1, hC.2.1, fun i hi => isC_frT h (hC.2.2 i hi)⟩
theorem bst_ne {b : Option Nat} (h : ∀ q, b = some q → q < 2 ^ 31) : bst b = -1 ↔ b = none := by
  cases b with
  | none => exact ⟨fun _ => rfl, fun _ => rfl⟩
  | some q =>
    refine ⟨fun e => ?_, fun e => by cases e⟩
    exfalso
    have e' : nI q = -1 := e
    have h1 := nI_toInt (h q rfl)
    rw [e'] at h1
    have h2 : (-1 : Int32).toInt = -1 := by decide
    omega
theorem l_tk {pr : Int32} (hT : isT sh R B t pk) (hsm : isSm F t ns sl) (hk : isK sh R pk) (hg : ∀ n, 1 ≤ n → n ≤ 120 → A (pk + 8) n = nI (gm n)) (hE : okE E c s) (hne : ∀ q, q < c → 0 < E q - pst E q) (htp : pk + 8 < t) (hc : c < 6) (hs : s ≤ 12 * c) (hS : okCS ns sl S) (hcs : isCs F R t S.2 S.1) (hy : ∀ i, i < ns → ∀ j, j < sl i → A (t + 10 + 2 * i) j &&& nI 255 = A (t + 10 + 2 * i) j)
    (hQ : ∀ F' R' A' a5 a6 a7, frT pk t F R A F' R' A' → A' (t + 8) = A (t + 8) → isTk sh F' R' A' t s c E g → rw_ (k + 5) mX8_takeNext 105 [.ref t, .int (if rk = true then nI 1 else nI 0), .int pr, .int (bst (tkS (fun i => gnO (sbA A t) sl ns g s c E rk pr (S.1 i)) (fun i b => ordV (sbA A t) (S.1 i) (S.1 b)) S.2).1), .int (tkS (fun i => gnO (sbA A t) sl ns g s c E rk pr (S.1 i)) (fun i b => ordV (sbA A t) (S.1 i) (S.1 b)) S.2).2, a5, a6, a7] [] (mkh n u sh F' R' A' B) Q) :
    ∀ d i F1 R1 A1 a6 a7, i + d = S.2 → frT pk t F R A F1 R1 A1 → A1 (t + 8) = A (t + 8) → isTk sh F1 R1 A1 t s c E g →
    rw_ (k + 5) mX8_takeNext 18 [.ref t, .int (if rk = true then nI 1 else nI 0), .int pr, .int (bst (tkS (fun i => gnO (sbA A t) sl ns g s c E rk pr (S.1 i)) (fun i b => ordV (sbA A t) (S.1 i) (S.1 b)) i).1), .int (tkS (fun i => gnO (sbA A t) sl ns g s c E rk pr (S.1 i)) (fun i b => ordV (sbA A t) (S.1 i) (S.1 b)) i).2, .int (nI i), a6, a7] [] (mkh n u sh F1 R1 A1 B) Q := by
  have hS8 := hS.1
  generalize hgn : (fun i => gnO (sbA A t) sl ns g s c E rk pr (S.1 i)) = gn at hQ ⊢
  generalize hod : (fun i b => ordV (sbA A t) (S.1 i) (S.1 b)) = od at hQ ⊢
  intro d
  induction d with
  | zero =>
    intro i F1 R1 A1 a6 a7 hi hfr hga hp
    have e : i = S.2 := by omega
    subst e
    have g1 : nI S.2 ≤ nI S.2 := nI_le (Nat.le_refl _) (by omega)
    have h804 := (isCs_frT hfr hcs).1
    simp only [rX8_takeNext_18, rX8_takeNext_20, rX8_takeNext_21, rX8_takeNext_24, hT.1.1, h804, g1, up2_eq, va_rf, eq_self, or_true, true_or, Option.toList_some, Option.toList_none, List.cons_append, List.nil_append, if_true, if_false]
    exact hQ _ _ _ _ _ _ hfr hga hp
  | succ d ih =>
    intro i F1 R1 A1 a6 a7 hi hfr hga hp
    have g1 : ¬ nI S.2 ≤ nI i := nI_ge (by omega) (by omega)
    have hT1 := isT_frT hfr hT
    have hsm1 := isSm_frT hfr hsm
    have hcs1 := isCs_frT hfr hcs
    obtain ⟨e1, e2⟩ := hT.2.2.2.2.2.2.2.2 i (by omega)
    have esb := sbA_frT hfr htp
    simp only [rX8_takeNext_18, rX8_takeNext_20, rX8_takeNext_21, rX8_takeNext_24, rX8_takeNext_27, rX8_takeNext_28, rX8_takeNext_29, rX8_takeNext_32, hT.1.1, hT1.2.2.1.1, hcs1.1, g1, up2_eq, va_rf, eq_self, or_true, true_or, Option.toList_some, Option.toList_none, List.cons_append, List.nil_append, if_true, if_false]
    rw [rX8_takeNext_34 hT.2.2.1.2 (by omega) (by omega), e1]
    simp only [rX8_takeNext_35, rX8_takeNext_36, up2_eq, va_rf, eq_self, or_true, true_or, Option.toList_some, Option.toList_none, List.cons_append, List.nil_append, if_true, if_false]
    rw [rX8_takeNext_37 hT.1.1]
    refine k_gainOf (x := S.1 i) hT1 hsm1 (isK_cong hk (fun q h1 h2 => hfr.2.1 _ _ (by omega) (by omega))) (fun n g1 g2 => by rw [hfr.2.2 _ (by omega) (by omega) (by omega) (by omega)]; exact hg n g1 g2) hp hE hne htp hc hs e2 (hcs1.2.2 i (by omega)) (hS.2 i (by omega)) (fun i' hi' j hj => by rw [hfr.2.2 _ (by omega) (by omega) (by omega) (by omega)]; exact hy i' hi' j hj) ?_
    intro F2 R2 A2 hfr2 hga2 hp2
    have hfr3 := frT_trans hfr hfr2
    have hga3 : A2 (t + 8) = A (t + 8) := hga2.trans hga
    have hT2 := isT_frT hfr3 hT
    have hsm2 := isSm_frT hfr3 hsm
    have hcs2 := isCs_frT hfr3 hcs
    have esb2 := sbA_frT hfr3 htp
    have egn : gnO (sbA A1 t) sl ns g s c E rk pr (S.1 i) = gn i := by rw [esb, ← hgn]
    rw [egn]
    simp only [rX8_takeNext_40, up2_eq, va_rf, eq_self, or_true, true_or, Option.toList_some, Option.toList_none, List.cons_append, List.nil_append, if_true, if_false]
    have hlt := tkS_lt (gn := gn) (od := od) i
    have hstep : tkS gn od (i + 1) = if (tkS gn od i).2 < gn i ∨ (∃ b, (tkS gn od i).1 = some b ∧ gn i = (tkS gn od i).2 ∧ od i b < nI 0) then (some i, gn i) else tkS gn od i := rfl
    have hfin : ∀ a7, rw_ (k + 5) mX8_takeNext 99 [.ref t, .int (if rk = true then nI 1 else nI 0), .int pr, .int (bst (tkS gn od (i + 1)).1), .int (tkS gn od (i + 1)).2, .int (nI i), .int (gn i), a7] [] (mkh n u sh F2 R2 A2 B) Q := by
      intro a7
      simp only [rX8_takeNext_99, rX8_takeNext_102, nI_add]
      exact ih (i + 1) F2 R2 A2 _ _ (by omega) hfr3 hga3 hp2
    have h80 : ∀ x : Int32, ((x = nI 1 ∧ ∃ b, (tkS gn od i).1 = some b ∧ gn i = (tkS gn od i).2 ∧ od i b < nI 0) ∨ (x = nI 0 ∧ ¬ ∃ b, (tkS gn od i).1 = some b ∧ gn i = (tkS gn od i).2 ∧ od i b < nI 0)) → rw_ (k + 5) mX8_takeNext 78 [.ref t, .int (if rk = true then nI 1 else nI 0), .int pr, .int (bst (tkS gn od i).1), .int (tkS gn od i).2, .int (nI i), .int (gn i), a7] [.int x] (mkh n u sh F2 R2 A2 B) Q := by
      intro x hx
      simp only [rX8_takeNext_78, rX8_takeNext_80, rX8_takeNext_82, rX8_takeNext_84, up2_eq, va_rf, eq_self, or_true, true_or, Option.toList_some, Option.toList_none, List.cons_append, List.nil_append, if_true, if_false]
      by_cases q1 : (tkS gn od i).2 < gn i
      · rw [if_pos (Or.inl q1)] at hstep
        have := hfin (.int x)
        rw [hstep] at this
        simp only [rX8_takeNext_92, rX8_takeNext_94, rX8_takeNext_95, rX8_takeNext_97, q1, up2_eq, va_rf, eq_self, or_true, true_or, Option.toList_some, Option.toList_none, List.cons_append, List.nil_append, if_true, if_false]
        exact this
      · simp only [rX8_takeNext_87, rX8_takeNext_89, q1, up2_eq, va_rf, eq_self, or_true, true_or, Option.toList_some, Option.toList_none, List.cons_append, List.nil_append, if_true, if_false]
        rcases hx with ⟨hx, hex⟩ | ⟨hx, hex⟩
        · subst hx
          have g3 : ¬ nI 1 = nI 0 := by decide
          rw [if_pos (Or.inr hex)] at hstep
          have := hfin (.int (nI 1))
          rw [hstep] at this
          simp only [rX8_takeNext_92, rX8_takeNext_94, rX8_takeNext_95, rX8_takeNext_97, g3, up2_eq, va_rf, eq_self, or_true, true_or, Option.toList_some, Option.toList_none, List.cons_append, List.nil_append, if_true, if_false]
          exact this
        · subst hx
          rw [if_neg (fun h => h.elim q1 hex)] at hstep
          have := hfin (.int (nI 0))
          rw [hstep] at this
          simp only [up2_eq, va_rf, eq_self, or_true, true_or, Option.toList_some, Option.toList_none, List.cons_append, List.nil_append, if_true, if_false]
          exact this
    simp only [rX8_takeNext_42, rX8_takeNext_43, rX8_takeNext_44, up2_eq, va_rf, eq_self, or_true, true_or, Option.toList_some, Option.toList_none, List.cons_append, List.nil_append, if_true, if_false]
    cases hb : (tkS gn od i).1 with
    | none =>
      have g2 : bst none = -1 := rfl
      have := h80 (nI 0) (Or.inr ⟨rfl, fun ⟨b, h, _⟩ => by rw [hb] at h; cases h⟩)
      rw [hb] at this
      simp only [rX8_takeNext_77, g2, up2_eq, va_rf, eq_self, or_true, true_or, Option.toList_some, Option.toList_none, List.cons_append, List.nil_append, if_true, if_false]
      exact this
    | some b =>
      have hbi := hlt b hb
      have g2 : ¬ bst (some b) = -1 := fun e => by
        have := (bst_ne (b := some b) (fun q e => by cases e; omega)).mp e
        cases this
      rw [if_neg g2]
      simp only [rX8_takeNext_47, rX8_takeNext_49, rX8_takeNext_51, up2_eq, va_rf, eq_self, or_true, true_or, Option.toList_some, Option.toList_none, List.cons_append, List.nil_append, if_true, if_false]
      by_cases q2 : gn i = (tkS gn od i).2
      · obtain ⟨e3, e4⟩ := hT.2.2.2.2.2.2.2.2 b (by omega)
        rw [if_pos q2]
        simp only [rX8_takeNext_54, rX8_takeNext_55, rX8_takeNext_58, hT.1.1, hT2.2.2.1.1, up2_eq, va_rf, eq_self, or_true, true_or, Option.toList_some, Option.toList_none, List.cons_append, List.nil_append, if_true, if_false]
        rw [rX8_takeNext_60 hT.2.2.1.2 (by omega) (by omega), e1]
        simp only [rX8_takeNext_61, rX8_takeNext_62, rX8_takeNext_65, hT.1.1, hT2.2.2.1.1, up2_eq, va_rf, eq_self, or_true, true_or, Option.toList_some, Option.toList_none, List.cons_append, List.nil_append, if_true, if_false]
        rw [show bst (some b) = nI b from rfl, rX8_takeNext_66 hT.2.2.1.2 (by omega) (by omega), e3]
        simp only [up2_eq, va_rf, eq_self, or_true, true_or, Option.toList_some, Option.toList_none, List.cons_append, List.nil_append, if_true, if_false]
        rw [rX8_takeNext_67 e2, k_order hT2 hsm2 e2 e4 (hcs2.2.2 i (by omega)) (hcs2.2.2 b (by omega)) (hS.2 i (by omega)) (hS.2 b (by omega)), esb2]
        have eod : ordV (sbA A t) (S.1 i) (S.1 b) = od i b := by rw [← hod]
        rw [eod]
        simp only [rX8_takeNext_70, up2_eq, va_rf, eq_self, or_true, true_or, Option.toList_some, Option.toList_none, List.cons_append, List.nil_append, if_true, if_false]
        by_cases q3 : od i b < nI 0
        · have g4 : ¬ nI 0 ≤ od i b := Int32.not_le.mpr q3
          have := h80 (nI 1) (Or.inl ⟨rfl, b, hb, q2, q3⟩)
          rw [hb] at this
          simp only [rX8_takeNext_73, rX8_takeNext_74, g4, up2_eq, va_rf, eq_self, or_true, true_or, Option.toList_some, Option.toList_none, List.cons_append, List.nil_append, if_true, if_false]
          exact this
        · have g4 : nI 0 ≤ od i b := Int32.not_lt.mp q3
          have := h80 (nI 0) (Or.inr ⟨rfl, fun ⟨b', h, _, h3⟩ => by rw [hb] at h; cases h; exact q3 h3⟩)
          rw [hb] at this
          simp only [rX8_takeNext_77, g4, up2_eq, va_rf, eq_self, or_true, true_or, Option.toList_some, Option.toList_none, List.cons_append, List.nil_append, if_true, if_false]
          exact this
      · have := h80 (nI 0) (Or.inr ⟨rfl, fun ⟨b', h, h2, _⟩ => q2 h2⟩)
        rw [hb] at this
        rw [if_neg q2]
        simp only [rX8_takeNext_77]
        exact this
/-- what the next piece is, and its gain -/
def nxt (sb : Nat → Nat → Int32) (sl : Nat → Nat) (ns : Nat) (S : cS) (g : Nat → Int32) (s c : Nat) (E : Nat → Nat) (rk : Bool) : Option Nat × Int32 :=
  tkS (fun i => gnO sb sl ns g s c E rk (nI (sumP sb sl g s c E rk ns)) (S.1 i)) (fun i b => ordV sb (S.1 i) (S.1 b)) S.2
theorem k_takeNext (hT : isT sh R B t pk) (hsm : isSm F t ns sl) (hk : isK sh R pk) (hg : ∀ n, 1 ≤ n → n ≤ 120 → A (pk + 8) n = nI (gm n)) (hp : isTk sh F R A t s c E g) (hE : okE E c s) (hne : ∀ q, q < c → 0 < E q - pst E q) (htp : pk + 8 < t) (hc : c < 6) (hs : s ≤ 12 * c) (hS : okCS ns sl S) (hcs : isCs F R t S.2 S.1) (hy : ∀ i, i < ns → ∀ j, j < sl i → A (t + 10 + 2 * i) j &&& nI 255 = A (t + 10 + 2 * i) j)
    (hQ0 : (nxt (sbA A t) sl ns S g s c E rk).1 = none → ∀ F' R' A', frT pk t F R A F' R' A' → A' (t + 8) = A (t + 8) → isTk sh F' R' A' t s c E g → Q (some (.int (nI 0))) (mkh n u sh F' R' A' B))
    (hQ1 : ∀ b, (nxt (sbA A t) sl ns S g s c E rk).1 = some b → b < S.2 → ∀ F' R' A', frT pk t F R A F' R' A' → A' (t + 8) = (fun j => if j = c then (nxt (sbA A t) sl ns S g s c E rk).2 else A (t + 8) j) → isTk sh F' R' A' t (s + (S.1 b).2.2.1) (c + 1) (apE E c (s + (S.1 b).2.2.1)) (apG g s (cbt (sbA A t) (S.1 b))) → Q (some (.int (nI 1))) (mkh n u sh F' R' A' B)) :
    rc_ (k + 5) mX8_takeNext [.ref t, .int (if rk = true then nI 1 else nI 0)] (mkh n u sh F R A B) Q := by
  have hS8 := hS.1
  rw [eX8_takeNext]
  simp only [rX8_takeNext_0, rX8_takeNext_1, rX8_takeNext_2, rX8_takeNext_5, hT.1.1, hT.2.2.2.2.2.1, up2_eq, va_rf, eq_self, or_true, true_or, Option.toList_some, Option.toList_none, List.cons_append, List.nil_append, if_true, if_false]
  rw [rX8_takeNext_6 hT.1.1]
  refine k_Tleast (k := k + 1) hT hsm hk hg hp.1 hE (by omega) (by omega) (by omega) (by omega) htp (fun _ => hne) ?_
  intro F1 R1 A1 hfrP
  have hfr := frP_frT (t := t) hfrP
  have eS : sumP (sbA A t) sl (A (t + 6)) s c E rk ns = sumP (sbA A t) sl g s c E rk ns := sumP_cg hp.2 hE ns (fun _ _ _ _ => rfl)
  have ev : A1 (t + 6) = A (t + 6) := hfrP.2.2 _ (by omega)
  have ee : A1 (t + 7) = A (t + 7) := hfrP.2.2 _ (by omega)
  have hp1 : isTk sh F1 R1 A1 t s c E g := ⟨isP_cong hp.1 (hfrP.1 _ _ (by omega) (by omega)) (hfrP.1 _ _ (by omega) (by omega)) (hfrP.2.1 _ _ (by decide) (by decide)) (hfrP.2.1 _ _ (by decide) (by decide)) (hfrP.2.1 _ _ (by decide) (by decide)) ee, fun j hj => by rw [ev]; exact hp.2 j hj⟩
  have esb := sbA_frT hfr htp
  rw [eS]
  simp only [rX8_takeNext_9, rX8_takeNext_10, rX8_takeNext_11, rX8_takeNext_12, rX8_takeNext_13, rX8_takeNext_15, rX8_takeNext_16, up2_eq, va_rf, eq_self, or_true, true_or, Option.toList_some, Option.toList_none, List.cons_append, List.nil_append, if_true, if_false]
  have hT1 := isT_frT hfr hT
  have hsm1 := isSm_frT hfr hsm
  have hcs1 := isCs_frT hfr hcs
  have hk1 : isK sh R1 pk := isK_cong hk (fun q h1 h2 => hfr.2.1 _ _ (by omega) (by omega))
  have hy1 : ∀ i, i < ns → ∀ j, j < sl i → A1 (t + 10 + 2 * i) j &&& nI 255 = A1 (t + 10 + 2 * i) j := fun i hi j hj => by rw [hfr.2.2 _ (by omega) (by omega) (by omega) (by omega)]; exact hy i hi j hj
  refine l_tk (S := S) (g := g) (pr := nI (sumP (sbA A t) sl g s c E rk ns)) hT1 hsm1 hk1 (fun n g1 g2 => by rw [hfr.2.2 _ (by omega) (by omega) (by omega) (by omega)]; exact hg n g1 g2) hE hne htp hc hs hS hcs1 hy1 ?_ S.2 0 F1 R1 A1 _ _ (by omega) frT_refl rfl hp1
  rw [esb]
  intro F2 R2 A2 a5 a6 a7 hfr2 hga2 hp2
  have hfr3 := frT_trans hfr hfr2
  have hga3 : A2 (t + 8) = A (t + 8) := hga2.trans (hfrP.2.2 _ (by omega))
  have hT2 := isT_frT hfr3 hT
  have hsm2 := isSm_frT hfr3 hsm
  have hcs2 := isCs_frT hfr3 hcs
  have esb3 := sbA_frT hfr3 htp
  show rw_ (k + 5) mX8_takeNext 105 [.ref t, .int (if rk = true then nI 1 else nI 0), .int (nI (sumP (sbA A t) sl g s c E rk ns)), .int (bst (nxt (sbA A t) sl ns S g s c E rk).1), .int (nxt (sbA A t) sl ns S g s c E rk).2, a5, a6, a7] [] (mkh n u sh F2 R2 A2 B) Q
  have hlt : ∀ b, (nxt (sbA A t) sl ns S g s c E rk).1 = some b → b < S.2 := tkS_lt S.2
  cases hb : (nxt (sbA A t) sl ns S g s c E rk).1 with
  | none =>
    have g2 : bst none = -1 := rfl
    simp only [rX8_takeNext_105, rX8_takeNext_106, rX8_takeNext_107, rX8_takeNext_122, rX8_takeNext_123, g2, up2_eq, va_rf, eq_self, or_true, true_or, Option.toList_some, Option.toList_none, List.cons_append, List.nil_append, if_true, if_false]
    exact hQ0 hb _ _ _ hfr3 hga3 hp2
  | some b =>
    have hbi := hlt b hb
    have g2 : ¬ bst (some b) = -1 := fun e => by
      have := (bst_ne (b := some b) (fun q e => by cases e; omega)).mp e
      cases this
    have g3 : nI c < nI 6 := nI_lt hc (by omega)
    obtain ⟨e1, e2⟩ := hT.2.2.2.2.2.2.2.2 b (by omega)
    have h502 := hp2.1.2.2.2.2.2.1
    simp only [rX8_takeNext_105, rX8_takeNext_106, rX8_takeNext_107, rX8_takeNext_110, rX8_takeNext_111, rX8_takeNext_114, rX8_takeNext_117, rX8_takeNext_119, rX8_takeNext_122, rX8_takeNext_123, rX8_takeNext_124, rX8_takeNext_125, rX8_takeNext_128, rX8_takeNext_129, rX8_takeNext_132, rX8_takeNext_135, hT.1.1, hT2.2.2.2.2.2.1, hT2.2.2.2.2.2.2.1.1, hp2.1.1, h502, g2, g3, up2_eq, va_rf, eq_self, or_true, true_or, Option.toList_some, Option.toList_none, List.cons_append, List.nil_append, if_true, if_false]
    rw [rX8_takeNext_137 hT.2.2.2.2.2.2.1.2 hc (by omega)]
    simp only [rX8_takeNext_138, rX8_takeNext_139, rX8_takeNext_140, rX8_takeNext_143, hT.1.1, hT2.2.2.1.1, up2_eq, va_rf, eq_self, or_true, true_or, Option.toList_some, Option.toList_none, List.cons_append, List.nil_append, if_true, if_false]
    rw [show bst (some b) = nI b from rfl, rX8_takeNext_144 hT.2.2.1.2 (by omega) (by omega), e1]
    simp only [up2_eq, va_rf, eq_self, or_true, true_or, Option.toList_some, Option.toList_none, List.cons_append, List.nil_append, if_true, if_false]
    rw [rX8_takeNext_145 hT.1.1]
    have hfr4 : frT pk t F R A F2 R2 (up2 A2 (t + 8) c (nxt (sbA A t) sl ns S g s c E rk).2) := frT_trans hfr3 ⟨fun _ _ _ _ _ _ => rfl, fun _ _ _ _ => rfl, fun a _ _ _ h => by rw [up2_row h]⟩
    have hp4 : isTk sh F2 R2 (up2 A2 (t + 8) c (nxt (sbA A t) sl ns S g s c E rk).2) t s c E g := ⟨isP_cong hp2.1 rfl rfl rfl rfl rfl (up2_row (by omega)), fun j hj => by rw [up2_k (by omega)]; exact hp2.2 j hj⟩
    have esb4 := sbA_frT hfr4 htp
    refine k_appendPiece (k := k + 1) (x := S.1 b) hT2 hsm2 hp4 hc hs e2 (hcs2.2.2 b hbi) (hS.2 b hbi) (fun i hi j hj => by rw [hfr4.2.2 _ (by omega) (by omega) (by omega) (by omega)]; exact hy i hi j hj) ?_
    intro F5 A5 hfr5 hga5 hp5
    rw [esb4] at hp5
    simp only [rX8_takeNext_148, rX8_takeNext_149, up2_eq, va_rf, eq_self, or_true, true_or, Option.toList_some, Option.toList_none, List.cons_append, List.nil_append, if_true, if_false]
    refine hQ1 b hb hbi _ _ _ (frT_trans hfr4 hfr5) ?_ hp5
    rw [hga5]
    funext j
    by_cases e : j = c
    · subst e
      rw [up2_eq, if_pos rfl]
    · rw [up2_a e, if_neg e, hga3]
end NXT
