/-! ===== what a call of the class leaves; tape and OUT ===== -/
def sTO (N : tN) (t o : Nat) (f g : Nat → Nat) : tN := up1 (up1 (up2 (up2 N 0 0 t) 1 0 o) 30 f) 31 g
def frX (x n : Nat) (sh : hs_) (F : hF_) (R : hR_) (A : hF_) (n' : Nat) (sh' : hs_) (F' : hF_) (R' : hR_) (A' : hF_) : Prop :=
  n ≤ n' ∧ (∀ a, a < n → sh' a = sh a) ∧ (∀ q a, a < n → 1200 ≤ q → F' q a = F q a ∧ R' q a = R q a) ∧ (∀ a, (a < x ∨ x + 78 ≤ a ∧ a < x + 117) → A' a = A a)
theorem frX_refl {x n : Nat} {sh : hs_} {F : hF_} {R : hR_} {A : hF_} : frX x n sh F R A n sh F R A := ⟨Nat.le_refl _, fun _ _ => rfl, fun _ _ _ _ => ⟨rfl, rfl⟩, fun _ _ => rfl⟩
def xPost (n u : Nat) (sh : hs_) (F : hF_) (R : hR_) (A : hF_) (x : Nat) (y : Int32 × TT) (Q : Option Value → pm_H → Prop) : Prop :=
  ∀ n' u' sh' F' R' A' B' ba' ma', XS n' sh' F' R' A' B' x ba' ma' y.2 → frX x n sh F R A n' sh' F' R' A' → n' ≤ n + 8 → u' ≤ u + 5000 → Q (some (.int y.1)) (mkh n' u' sh' F' R' A' B')
section PST
variable {k n u : Nat} {sh : hs_} {F F' : hF_} {R R' : hR_} {A A' : hF_} {B : hR_} {Q : Option Value → pm_H → Prop} {x : Nat} {ba ma : Nat → Nat} {T : TT}
theorem isX.r0 (h : isX sh R B x) (q b : Nat) (he : (q, 0, b) ∈ xRl) : R q x = some (x + b) := h.1 (q, 0, b) he
theorem isX.s0 (h : isX sh R B x) : sh x = some (0, 11, 0) := h.2.1 (0, 0, 11, 0) (by decide)
theorem xPost_same {y : Int32} (hQ : xPost n u sh F R A x (y, T) Q) (h : XS n sh F R A B x ba ma T) : Q (some (.int y)) (mkh n u sh F R A B) := hQ _ _ _ _ _ _ _ _ _ h frX_refl (by omega) (by omega)
theorem XS_TO {t o : Nat} {f g : Nat → Nat} (h : XS n sh F R A B x ba ma T)
    (hF : ∀ q a, ¬ (q = 101 ∧ (a = x + 1 ∨ a = x + 3 ∨ a = x + 36 ∨ a = x + 76) ∨ 603 ≤ q ∧ q ≤ 607 ∨ q = 1001 ∨ (q = 410 ∨ q = 411) ∧ a ≠ x + 16) → F' q a = F q a)
    (hR : ∀ q a, ¬ (q = 602 ∨ q = 1000 ∨ q = 408 ∨ q = 409) → R' q a = R q a)
    (hA : ∀ a, ¬ (a = x + 2 ∨ a = x + 4 ∨ a = x + 37 ∨ a = x + 77 ∨ x + 26 ≤ a ∧ a ≤ x + 32) → A' a = A a)
    (h1 : F' 101 (x + 1) = nI t) (h2 : ∀ j, j < t → A' (x + 2) j = nI (f j)) (h3 : F' 101 (x + 3) = nI o) (h4 : ∀ j, j < o → A' (x + 4) j = nI (g j)) (h5 : xRd F' x) :
    XS n sh F' R' A' B x ba ma (sTO T.1 t o f g, T.2) ∧ frX x n sh F R A n sh F' R' A' := by
  obtain ⟨hx, hX, hTO, hDr, hBk, hPk, hGm, hSm, hWi, hRd⟩ := h
  obtain ⟨N, J, I⟩ := T
  refine ⟨⟨hx, isX_cong hX (fun q a _ _ _ _ _ _ _ => hR q a (by omega)) (fun _ _ => rfl) rfl rfl, ⟨⟨h1, h2⟩, h3, h4⟩, ?_, ?_, ?_, ?_, ?_, ?_, h5⟩, Nat.le_refl _, fun _ _ => rfl, fun q a _ hq => ⟨hF q a (by omega), hR q a (by omega)⟩, fun a ha => hA a (by omega)⟩
  · exact xDr_cong hDr (hF _ _ (by omega)) (hF _ _ (by omega)) (fun a ha => hA a (by omega))
  · exact xBk_cong hBk hx (Nat.le_refl _) (fun _ _ => rfl) (fun q a _ hq => hR q a (by omega)) (fun q a _ hq => hF q a (by omega)) (hF _ _ (by omega)) (fun a _ ha => hA a (by omega)) rfl
  · exact xPk_cong hPk (hF _ _ (by omega)) (hF _ _ (by omega)) (hF _ _ (by omega)) (fun a g1 g2 => hA a (by omega))
  · exact xGm_cong hGm (hA _ (by omega)) (hA _ (by omega))
  · exact xSm_cong hSm (fun q hq => hF _ _ (by omega)) (fun a g1 g2 => hF _ _ (by omega)) (hF _ _ (by omega)) (fun a g1 g2 => hA a (by omega))
  · exact xWi_cong hWi (Nat.le_refl _) (fun _ _ => rfl) (fun q a _ hq => hR q a (by omega)) (fun q a _ hq => hF q a (by omega)) (fun q g1 g2 => hF q _ (by omega)) (hR _ _ (by omega)) (fun a _ ha => hA a (by omega)) rfl
def bw (v : Int32) (q : Nat) : Nat := v.toBitVec.toNat / 2 ^ (24 - 8 * q) % 256
theorem bw_lt {v : Int32} {q : Nat} : bw v q < 256 := Nat.mod_lt _ (by decide)
def fdb (a b c d e : Int32) (j : Nat) : Nat := bw (if j / 4 = 0 then a else if j / 4 = 1 then b else if j / 4 = 2 then c else if j / 4 = 3 then d else e) (j % 4)
def s_feed (T : TT) (a b c d e : Int32) : Int32 × TT := if 220 < T.1 0 0 then (-5, T) else (nI (T.1 0 0 + 20), (sTO T.1 (T.1 0 0 + 20) (T.1 1 0) (fun j => if j < T.1 0 0 then T.1 30 j else fdb a b c d e (j - T.1 0 0)) (T.1 31), T.2))
theorem k_feedNumber {s : Nat} {v : Int32} (hX : isX sh R B x) (hs : F 101 (x + 1) = nI s) (h4 : s + 4 ≤ 240)
    (hQ : ∀ A', (∀ a, a ≠ x + 2 → A' a = A a) → (∀ j, j < s → A' (x + 2) j = A (x + 2) j) → (∀ q, q < 4 → A' (x + 2) (s + q) = nI (bw v q)) → Q none (mkh n u sh (up2 F 101 (x + 1) (nI (s + 4))) R A' B)) :
    rc_ (k + 1) mX11_feedNumber [.ref x, .int v] (mkh n u sh F R A B) Q := by
  have r1 := hX.r0 1100 1 (by decide)
  have s0 := hX.s0
  have b0 : ∀ q, q < 4 → ∀ F1, F1 101 (x + 1) = nI (s + q) → isB sh F1 R (x + 1) (x + 2) 240 (s + q) := fun q hq F1 h => ⟨hX.s 1 0 1 0 (by decide), hX.r 100 1 2 (by decide), hX.s 2 1 0 240 (by decide), by decide, h, by omega⟩
  have g : ∀ q, q < 4 → ¬ nI (24 - 8 * q) < nI 0 := fun q hq => nI_nlt (Nat.zero_le _) (by omega)
  have gd : ∀ q, q < 4 → (v.toUInt32 >>> ((nI (24 - 8 * q)).toUInt32 &&& Int32.toUInt32 31)).toInt32 &&& nI 255 = nI (bw v q) := by
    intro q hq
    rw [pk_and _ 8 (by decide), pk_ushr _ _ (24 - 8 * q) (by
      match q, hq with
      | 0, _ => decide
      | 1, _ => decide
      | 2, _ => decide
      | 3, _ => decide)]
    rfl
  have d1 : nI 24 + (-8 : Int32) = nI 16 := by decide
  have d2 : nI 16 + (-8 : Int32) = nI 8 := by decide
  have d3 : nI 8 + (-8 : Int32) = nI 0 := by decide
  have d4 : nI 0 + (-8 : Int32) < nI 0 := by decide
  have g0 : ¬ nI 24 < nI 0 := g 0 (by decide)
  have g1 : ¬ nI 16 < nI 0 := g 1 (by decide)
  have g2 : ¬ nI 8 < nI 0 := g 2 (by decide)
  have g3 : ¬ nI 0 < nI 0 := g 3 (by decide)
  have e0 := gd 0 (by decide)
  have e1 := gd 1 (by decide)
  have e2 := gd 2 (by decide)
  have e3 := gd 3 (by decide)
  simp only [Nat.reduceMul, Nat.reduceSub] at e0 e1 e2 e3
  have t1 := hX.s 1 0 1 0 (by decide)
  rw [eX11_feedNumber]
  simp only [rX11_feedNumber_0, rX11_feedNumber_2]
  rw [rX11_feedNumber_3]
  simp only [rX11_feedNumber_4, rX11_feedNumber_7, rX11_feedNumber_8, rX11_feedNumber_11, rX11_feedNumber_12, rX11_feedNumber_13, s0, r1, g0, up2_eq, va_rf, eq_self, or_true, true_or, Option.toList_some, Option.toList_none, List.cons_append, List.nil_append, if_true, if_false]
  rw [rX11_feedNumber_14 t1, k_Bytes_add (b0 0 (by decide) F hs) (by omega), e0]
  simp only [rX11_feedNumber_17, rX11_feedNumber_20, d1, up2_eq, va_rf, eq_self, or_true, true_or, Option.toList_some, Option.toList_none, List.cons_append, List.nil_append, if_true, if_false]
  rw [rX11_feedNumber_3]
  simp only [rX11_feedNumber_4, rX11_feedNumber_7, rX11_feedNumber_8, rX11_feedNumber_11, rX11_feedNumber_12, rX11_feedNumber_13, s0, r1, g1, up2_eq, va_rf, eq_self, or_true, true_or, Option.toList_some, Option.toList_none, List.cons_append, List.nil_append, if_true, if_false]
  rw [rX11_feedNumber_14 t1, k_Bytes_add (b0 1 (by decide) _ up2_eq) (by omega), e1]
  simp only [rX11_feedNumber_17, rX11_feedNumber_20, d2, up2_eq, va_rf, eq_self, or_true, true_or, Option.toList_some, Option.toList_none, List.cons_append, List.nil_append, if_true, if_false]
  rw [rX11_feedNumber_3]
  simp only [rX11_feedNumber_4, rX11_feedNumber_7, rX11_feedNumber_8, rX11_feedNumber_11, rX11_feedNumber_12, rX11_feedNumber_13, s0, r1, g2, up2_eq, va_rf, eq_self, or_true, true_or, Option.toList_some, Option.toList_none, List.cons_append, List.nil_append, if_true, if_false]
  rw [rX11_feedNumber_14 t1, k_Bytes_add (b0 2 (by decide) _ up2_eq) (by omega), e2]
  simp only [rX11_feedNumber_17, rX11_feedNumber_20, d3, up2_eq, va_rf, eq_self, or_true, true_or, Option.toList_some, Option.toList_none, List.cons_append, List.nil_append, if_true, if_false]
  rw [rX11_feedNumber_3]
  simp only [rX11_feedNumber_4, rX11_feedNumber_7, rX11_feedNumber_8, rX11_feedNumber_11, rX11_feedNumber_12, rX11_feedNumber_13, s0, r1, g3, up2_eq, va_rf, eq_self, or_true, true_or, Option.toList_some, Option.toList_none, List.cons_append, List.nil_append, if_true, if_false]
  rw [rX11_feedNumber_14 t1, k_Bytes_add (b0 3 (by decide) _ up2_eq) (by omega), e3]
  simp only [rX11_feedNumber_17, rX11_feedNumber_20, up2_eq, va_rf, eq_self, or_true, true_or, Option.toList_some, Option.toList_none, List.cons_append, List.nil_append, if_true, if_false]
  rw [rX11_feedNumber_3]
  simp only [rX11_feedNumber_4, rX11_feedNumber_23, d4, up2_up2, up2_eq, va_rf, eq_self, or_true, true_or, Option.toList_some, Option.toList_none, List.cons_append, List.nil_append, if_true, if_false]
  refine hQ _ (fun a ha => ?_) (fun j hj => ?_) (fun q hq => ?_)
  · rw [up2_row ha, up2_row ha, up2_row ha, up2_row ha]
  · rw [up2_a (by omega), up2_a (by omega), up2_a (by omega), up2_a (by omega)]
  · match q, hq with
    | 0, _ => rw [up2_a (by omega), up2_a (by omega), up2_a (by omega), up2_eq]
    | 1, _ => rw [up2_a (by omega), up2_a (by omega), up2_eq]
    | 2, _ => rw [up2_a (by omega), up2_eq]
    | 3, _ => rw [up2_eq]
theorem c_feed {a b c d e : Int32} (h : XS n sh F R A B x ba ma T) (hT : okT T) (hQ : xPost n u sh F R A x (s_feed T a b c d e) Q) :
    rc_ (k + 8) mX11_feed [.ref x, .int a, .int b, .int c, .int d, .int e] (mkh n u sh F R A B) Q := by
  obtain ⟨hx, hX, hTO, hDr, hBk, hPk, hGm, hSm, hWi, hRd⟩ := id h
  have r1 := hX.r0 1100 1 (by decide)
  have s0 := hX.s0
  have t1 := hX.s 1 0 1 0 (by decide)
  have t0 := hT.1.1
  rw [eX11_feed]
  unfold s_feed at hQ
  by_cases c1 : 220 < T.1 0 0
  · rw [if_pos c1] at hQ
    have g1 : ¬ nI (T.1 0 0) ≤ nI 220 := nI_ge c1 (by omega)
    simp only [rX11_feed_0, rX11_feed_1, rX11_feed_4, rX11_feed_7, rX11_feed_10, rX11_feed_13, rX11_feed_15, s0, r1, t1, hTO.1.1, g1, up2_eq, va_rf, eq_self, or_true, true_or, Option.toList_some, Option.toList_none, List.cons_append, List.nil_append, if_true, if_false]
    exact xPost_same hQ h
  · rw [if_neg c1] at hQ
    have g1 : nI (T.1 0 0) ≤ nI 220 := nI_le (by omega) (by omega)
    simp only [rX11_feed_0, rX11_feed_1, rX11_feed_4, rX11_feed_7, rX11_feed_10, rX11_feed_16, rX11_feed_17, s0, r1, t1, hTO.1.1, g1, up2_eq, va_rf, eq_self, or_true, true_or, Option.toList_some, Option.toList_none, List.cons_append, List.nil_append, if_true, if_false]
    rw [rX11_feed_18 s0]
    refine k_feedNumber hX hTO.1.1 (by omega) ?_
    intro A1 a1 b1 c1
    simp only [rX11_feed_21, rX11_feed_22, up2_eq, va_rf, eq_self, or_true, true_or, Option.toList_some, Option.toList_none, List.cons_append, List.nil_append, if_true, if_false]
    rw [rX11_feed_23 s0]
    refine k_feedNumber hX up2_eq (by omega) ?_
    intro A2 a2 b2 c2
    simp only [rX11_feed_26, rX11_feed_27, up2_eq, va_rf, eq_self, or_true, true_or, Option.toList_some, Option.toList_none, List.cons_append, List.nil_append, if_true, if_false]
    rw [rX11_feed_28 s0]
    refine k_feedNumber hX up2_eq (by omega) ?_
    intro A3 a3 b3 c3
    simp only [rX11_feed_31, rX11_feed_32, up2_eq, va_rf, eq_self, or_true, true_or, Option.toList_some, Option.toList_none, List.cons_append, List.nil_append, if_true, if_false]
    rw [rX11_feed_34 s0]
    refine k_feedNumber hX up2_eq (by omega) ?_
    intro A4 a4 b4 c4
    simp only [rX11_feed_37, rX11_feed_38, up2_eq, va_rf, eq_self, or_true, true_or, Option.toList_some, Option.toList_none, List.cons_append, List.nil_append, if_true, if_false]
    rw [rX11_feed_40 s0]
    refine k_feedNumber hX up2_eq (by omega) ?_
    intro A5 a5 b5 c5
    simp only [rX11_feed_43, rX11_feed_44, rX11_feed_47, rX11_feed_50, s0, r1, t1, up2_up2, up2_eq, va_rf, eq_self, or_true, true_or, Option.toList_some, Option.toList_none, List.cons_append, List.nil_append, if_true, if_false]
    have hh2 : ∀ j, j < T.1 0 0 + 20 → A5 (x + 2) j = nI (if j < T.1 0 0 then T.1 30 j else fdb a b c d e (j - T.1 0 0)) := by
      intro j hj
      by_cases l0 : j < T.1 0 0
      · rw [b5 j (by omega), b4 j (by omega), b3 j (by omega), b2 j (by omega), b1 j (by omega), if_pos l0]
        exact hTO.1.2 j l0
      · rw [if_neg l0]
        unfold fdb
        obtain ⟨w, hw, hw4, hwj⟩ : ∃ w, w < 4 ∧ (j - T.1 0 0) % 4 = w ∧ j = T.1 0 0 + 4 * ((j - T.1 0 0) / 4) + w := ⟨(j - T.1 0 0) % 4, by omega, rfl, by omega⟩
        have hd5 : (j - T.1 0 0) / 4 < 5 := by omega
        rw [hw4]
        generalize (j - T.1 0 0) / 4 = dd at hwj hd5 ⊢
        match dd, hd5 with
        | 0, _ =>
          rw [hwj, b5 _ (by omega), b4 _ (by omega), b3 _ (by omega), b2 _ (by omega)]
          exact c1 w hw
        | 1, _ =>
          rw [hwj, b5 _ (by omega), b4 _ (by omega), b3 _ (by omega)]
          exact c2 w hw
        | 2, _ =>
          rw [hwj, b5 _ (by omega), b4 _ (by omega)]
          exact c3 w hw
        | 3, _ =>
          rw [hwj, b5 _ (by omega)]
          exact c4 w hw
        | 4, _ =>
          rw [hwj]
          exact c5 w hw
    have hh4 : ∀ j, j < T.1 1 0 → A5 (x + 4) j = nI (T.1 31 j) := by
      intro j hj
      rw [a5 _ (by omega), a4 _ (by omega), a3 _ (by omega), a2 _ (by omega), a1 _ (by omega)]
      exact hTO.2.2 j hj
    obtain ⟨q1, q2⟩ := XS_TO (F' := up2 F 101 (x + 1) (nI (T.1 0 0 + 4 + 4 + 4 + 4 + 4))) (R' := R) (A' := A5) (t := T.1 0 0 + 20) (o := T.1 1 0) (f := fun j => if j < T.1 0 0 then T.1 30 j else fdb a b c d e (j - T.1 0 0)) (g := T.1 31) h (fun q a hq => up2_o (by omega)) (fun _ _ _ => rfl) (fun a ha => by rw [a5 a (by omega), a4 a (by omega), a3 a (by omega), a2 a (by omega), a1 a (by omega)]) up2_eq hh2 (by rw [up2_o (by omega)]; exact hTO.2.1) hh4 (xRd_cong hRd (fun a ha => up2_o (by omega)))
    exact hQ n u _ _ _ _ _ _ _ q1 q2 (by omega) (by omega)
end PST
