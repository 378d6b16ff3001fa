/-! ===== the trainer: samples, prices ===== -/
theorem up2_o {α : Type} {F : Nat → Nat → α} {k a : Nat} {v : α} {k' a' : Nat} (h : ¬ (k' = k ∧ a' = a)) : up2 F k a v k' a' = F k' a' := by
  unfold up2
  by_cases h1 : k' = k
  · rw [if_pos h1, if_neg (fun e => h ⟨h1, e⟩)]
  · rw [if_neg h1]
theorem isB_cong {sh : hs_} {F F' : hF_} {R R' : hR_} {o v z s : Nat} (h : isB sh F R o v z s) (h1 : F' 101 o = F 101 o) (h2 : R' 100 o = R 100 o) : isB sh F' R' o v z s := ⟨h.1, by rw [h2]; exact h.2.1, h.2.2.1, h.2.2.2.1, by rw [h1]; exact h.2.2.2.2.1, h.2.2.2.2.2⟩
theorem isP_cong {sh : hs_} {F F' : hF_} {R R' : hR_} {A A' : hF_} {o r v z s e ze c : Nat} {E : Nat → Nat} (h : isP sh F R A o r v z s e ze c E) (h1 : F' 502 o = F 502 o) (h2 : F' 101 r = F 101 r) (h3 : R' 500 o = R 500 o) (h4 : R' 501 o = R 501 o) (h5 : R' 100 r = R 100 r) (h6 : A' e = A e) : isP sh F' R' A' o r v z s e ze c E := by
  obtain ⟨a1, a2, a3, a4, a5, a6, a7, a8, a9⟩ := h
  exact ⟨a1, by rw [h3]; exact a2, by rw [h4]; exact a3, a4, a5, by rw [h1]; exact a6, a7, by rw [h6]; exact a8, isB_cong a9 h2 h5⟩
theorem isK_cong {sh : hs_} {R R' : hR_} {pk : Nat} (h : isK sh R pk) (h1 : ∀ q, 400 ≤ q → q ≤ 407 → R' q pk = R q pk) : isK sh R' pk := by
  obtain ⟨a1, ⟨b0, b1, b2, b3, b4, b5, b6, b7⟩, a3⟩ := h
  refine ⟨a1, ⟨?_, ?_, ?_, ?_, ?_, ?_, ?_, ?_⟩, a3⟩ <;> rw [h1 _ (by decide) (by decide)] <;> assumption
/-- what planning leaves as it was -/
def frP (pk : Nat) (F : hF_) (R : hR_) (A : hF_) (F' : hF_) (R' : hR_) (A' : hF_) : Prop := (∀ q a, (q = 410 → a ≠ pk) → (q = 411 → a ≠ pk) → F' q a = F q a) ∧ (∀ q a, q ≠ 408 → q ≠ 409 → R' q a = R q a) ∧ (∀ a, (a < pk + 1 ∨ pk + 7 < a) → A' a = A a)
theorem frP_refl {pk : Nat} {F : hF_} {R : hR_} {A : hF_} : frP pk F R A F R A := ⟨fun _ _ _ _ => rfl, fun _ _ _ _ => rfl, fun _ _ => rfl⟩
theorem frP_trans {pk : Nat} {F F1 F2 : hF_} {R R1 R2 : hR_} {A A1 A2 : hF_} (h : frP pk F R A F1 R1 A1) (h' : frP pk F1 R1 A1 F2 R2 A2) : frP pk F R A F2 R2 A2 :=
  ⟨fun q a x y => by rw [h'.1 q a x y, h.1 q a x y], fun q a x y => by rw [h'.2.1 q a x y, h.2.1 q a x y], fun a x => by rw [h'.2.2 a x, h.2.2 a x]⟩
theorem begA_m {A : hF_} {pk m : Nat} : begA A pk m (pk + 1) m = nI 0 ∧ begA A pk m (pk + 2) m = nI 0 := by
  unfold begA
  constructor
  · rw [pfx_out (by omega), pfx_out (by omega), up2_row (by omega), up2_eq]
  · rw [pfx_out (by omega), pfx_out (by omega), up2_eq]
/-- the trainer's cells -/
def isT (sh : hs_) (R : hR_) (B : hR_) (t pk : Nat) : Prop := (sh t = some (0, 8, 0) ∧ R 800 t = some pk) ∧ (R 801 t = some (t + 1) ∧ sh (t + 1) = some (2, 1, 8)) ∧ (R 803 t = some (t + 2) ∧ sh (t + 2) = some (2, 2, 8)) ∧ (R 805 t = some (t + 25) ∧ sh (t + 25) = some (0, 2, 0)) ∧ (R 806 t = some (t + 3) ∧ sh (t + 3) = some (1, 0, 8)) ∧ R 807 t = some (t + 4) ∧ (R 808 t = some (t + 8) ∧ sh (t + 8) = some (1, 0, 6)) ∧
  (∀ i, i < 8 → B (t + 1) i = some (t + 9 + 2 * i) ∧ sh (t + 9 + 2 * i) = some (0, 1, 0) ∧ R 100 (t + 9 + 2 * i) = some (t + 10 + 2 * i) ∧ sh (t + 10 + 2 * i) = some (1, 0, 40)) ∧ (∀ i, i < 8 → B (t + 2) i = some (t + 26 + i) ∧ sh (t + 26 + i) = some (0, 2, 0))
/-- its samples: ns of them, of sl bytes -/
def isSm (F : hF_) (t ns : Nat) (sl : Nat → Nat) : Prop := F 802 t = nI ns ∧ ns ≤ 8 ∧ ∀ i, i < ns → F 101 (t + 9 + 2 * i) = nI (sl i) ∧ sl i ≤ 40
/-- the samples' bytes -/
def sbA (A : hF_) (t : Nat) : Nat → Nat → Int32 := fun i => A (t + 10 + 2 * i)
/-- the LEAST PRICE of the first i samples -/
def sumP (sb : Nat → Nat → Int32) (sl : Nat → Nat) (f : Nat → Int32) (s c : Nat) (E : Nat → Nat) (rk : Bool) : Nat → Nat
  | 0 => 0
  | i + 1 => sumP sb sl f s c E rk i + (plan (sb i) f (sl i) s c E rk 0).1
section TRN
variable {k n u : Nat} {sh : hs_} {F : hF_} {R : hR_} {A : hF_} {B : hR_} {Q : Option Value → pm_H → Prop} {t pk ns : Nat} {sl : Nat → Nat} {o r v z s e ze c : Nat} {E : Nat → Nat}
theorem isT_cong {R' : hR_} (h : isT sh R B t pk) (h1 : ∀ q a, (q = 100 ∨ 800 ≤ q ∧ q ≤ 808) → R' q a = R q a) : isT sh R' B t pk := by
  obtain ⟨⟨a1, a2⟩, ⟨b1, b2⟩, ⟨c1, c2⟩, ⟨d1, d2⟩, ⟨e1, e2⟩, f1, ⟨g1, g2⟩, hh, ii⟩ := h
  refine ⟨⟨a1, ?_⟩, ⟨?_, b2⟩, ⟨?_, c2⟩, ⟨?_, d2⟩, ⟨?_, e2⟩, ?_, ⟨?_, g2⟩, fun i hi => ?_, ii⟩
  · rw [h1 _ _ (by omega)]; exact a2
  · rw [h1 _ _ (by omega)]; exact b1
  · rw [h1 _ _ (by omega)]; exact c1
  · rw [h1 _ _ (by omega)]; exact d1
  · rw [h1 _ _ (by omega)]; exact e1
  · rw [h1 _ _ (by omega)]; exact f1
  · rw [h1 _ _ (by omega)]; exact g1
  · rw [h1 _ _ (by omega)]; exact hh i hi
theorem isSm_cong {F' : hF_} (h : isSm F t ns sl) (h1 : F' 802 t = F 802 t) (h2 : ∀ i, i < 8 → F' 101 (t + 9 + 2 * i) = F 101 (t + 9 + 2 * i)) : isSm F' t ns sl := by
  obtain ⟨a1, a2, a3⟩ := h
  exact ⟨by rw [h1]; exact a1, a2, fun i hi => by rw [h2 i (by omega)]; exact a3 i hi⟩
theorem isT_sB (h : isT sh R B t pk) (hs : isSm F t ns sl) {i : Nat} (hi : i < ns) : isB sh F R (t + 9 + 2 * i) (t + 10 + 2 * i) 40 (sl i) := by
  have h8 := hs.2.1
  obtain ⟨b1, b2, b3, b4⟩ := h.2.2.2.2.2.2.2.1 i (by omega)
  exact ⟨b2, b3, b4, by omega, (hs.2.2 i hi).1, (hs.2.2 i hi).2⟩
/-- planning, with what it finds -/
theorem k_planN {lb lv lz m : Nat} {rk : Bool} (hk : isK sh R pk) (hg : ∀ n, 1 ≤ n → n ≤ 120 → A (pk + 8) n = nI (gm n)) (hp : isP sh F R A o r v z s e ze c E) (hE : okE E c s) (hb : isB sh F R lb lv lz m) (hm : m ≤ 120) (hs : s ≤ 320) (hc : c ≤ 20) (hv : v < pk + 1 ∨ pk + 8 < v) (hlv : lv < pk + 1 ∨ pk + 8 < lv) (he : e < pk + 1 ∨ pk + 8 < e) (hne : rk = true → ∀ q, q < c → 0 < E q - pst E q)
    (hQ : ∀ F' R' A', frP pk F R A F' R' A' → F' 410 pk = nI m → (∀ q a, a ≠ pk → F' q a = F q a) → (∀ q a, a ≠ pk → R' q a = R q a) → (∀ j, j ≤ m → A' (pk + 1) j = nI (plan (A lv) (A v) m s c E rk j).1 ∧ (j < m → A' (pk + 3) j = nI (plan (A lv) (A v) m s c E rk j).2.2.1 ∧ A' (pk + 4) j = (plan (A lv) (A v) m s c E rk j).2.2.2.1 ∧ A' (pk + 5) j = nI (plan (A lv) (A v) m s c E rk j).2.2.2.2)) → Q none (mkh n u sh F' R' A' B)) :
    rc_ (k + 2) mX4_plan [.ref pk, .ref lb, .ref o, .int (if rk = true then nI 1 else nI 0)] (mkh n u sh F R A B) Q := by
  rw [k_plan hk hp hE hb hm hs hc hv hlv he]
  have hrow := plnA_plN (lf := A lv) (f := A v) (A := begA A pk m) (pk := pk) hE hm hs hc hne (fun n g1 g2 => by rw [begA_out (by omega)]; exact hg n g1 g2) begA_m m (Nat.le_refl _)
  refine hQ _ _ _ ⟨fun q a h1 h2 => ?_, fun q a h1 h2 => ?_, fun a ha => ?_⟩ ?_ (fun q a ha => ?_) (fun q a ha => ?_) (fun j hj => ⟨(hrow j (by omega) hj).1.1, (hrow j (by omega) hj).2⟩)
  · unfold begF
    rw [up2_o (fun e => h2 e.1 e.2), up2_o (fun e => h1 e.1 e.2)]
  · unfold begR
    rw [up2_k h2, up2_k h1]
  · rw [plnA_out (by omega), begA_out (by omega)]
  · unfold begF
    rw [up2_k (by decide), up2_eq]
  · unfold begF
    rw [up2_a ha, up2_a ha]
  · unfold begR
    rw [up2_a ha, up2_a ha]
theorem l_Tleast {rk : Bool} (hT : isT sh R B t pk) (hsm : isSm F t ns sl) (hk : isK sh R pk) (hg : ∀ n, 1 ≤ n → n ≤ 120 → A (pk + 8) n = nI (gm n)) (hp : isP sh F R A o r v z s e ze c E) (hE : okE E c s) (hs : s ≤ 320) (hc : c ≤ 20) (hv : v < pk + 1 ∨ pk + 8 < v) (he : e < pk + 1 ∨ pk + 8 < e) (htp : pk + 8 < t) (hne : rk = true → ∀ q, q < c → 0 < E q - pst E q)
    (hQ : ∀ F' R' A', frP pk F R A F' R' A' → Q (some (.int (nI (sumP (sbA A t) sl (A v) s c E rk ns)))) (mkh n u sh F' R' A' B)) :
    ∀ d i F1 R1 A1, i + d = ns → frP pk F R A F1 R1 A1 → rw_ (k + 3) mX8_least 5 [.ref t, .ref o, .int (if rk = true then nI 1 else nI 0), .int (nI (sumP (sbA A t) sl (A v) s c E rk i)), .int (nI i)] [] (mkh n u sh F1 R1 A1 B) Q := by
  have hns := hsm.2.1
  intro d
  induction d with
  | zero =>
    intro i F1 R1 A1 hi hfr
    have e : i = ns := by omega
    subst e
    have g1 : nI i ≤ nI i := nI_le (Nat.le_refl _) (by omega)
    have e802 : F1 802 t = nI i := by rw [hfr.1 _ _ (by omega) (by omega)]; exact hsm.1
    simp only [rX8_least_5, rX8_least_7, rX8_least_8, rX8_least_11, rX8_least_47, rX8_least_48, hT.1.1, e802, g1, up2_eq, va_rf, eq_self, or_true, true_or, Option.toList_some, Option.toList_none, List.cons_append, List.nil_append, if_true, if_false]
    exact hQ _ _ _ hfr
  | succ d ih =>
    intro i F1 R1 A1 hi hfr
    have g1 : ¬ nI ns ≤ nI i := nI_ge (by omega) (by omega)
    have e802 : F1 802 t = nI ns := by rw [hfr.1 _ _ (by omega) (by omega)]; exact hsm.1
    have e800 : R1 800 t = some pk := by rw [hfr.2.1 _ _ (by decide) (by decide)]; exact hT.1.2
    have e801 : R1 801 t = some (t + 1) := by rw [hfr.2.1 _ _ (by decide) (by decide)]; exact hT.2.1.1
    have hsB := isT_sB hT hsm (i := i) (by omega)
    obtain ⟨b1, b2, b3, b4⟩ := hT.2.2.2.2.2.2.2.1 i (by omega)
    have hb1 : isB sh F1 R1 (t + 9 + 2 * i) (t + 10 + 2 * i) 40 (sl i) := isB_cong hsB (hfr.1 _ _ (by omega) (by omega)) (hfr.2.1 _ _ (by decide) (by decide))
    have hp1 : isP sh F1 R1 A1 o r v z s e ze c E := isP_cong hp (hfr.1 _ _ (by omega) (by omega)) (hfr.1 _ _ (by omega) (by omega)) (hfr.2.1 _ _ (by decide) (by decide)) (hfr.2.1 _ _ (by decide) (by decide)) (hfr.2.1 _ _ (by decide) (by decide)) (hfr.2.2 _ (by omega))
    have hk1 : isK sh R1 pk := isK_cong hk (fun q h1 h2 => hfr.2.1 _ _ (by omega) (by omega))
    have hsl := (hsm.2.2 i (by omega)).2
    simp only [rX8_least_5, rX8_least_7, rX8_least_8, rX8_least_11, rX8_least_14, rX8_least_15, rX8_least_18, rX8_least_19, rX8_least_22, hT.1.1, e802, e800, e801, g1, up2_eq, va_rf, eq_self, or_true, true_or, Option.toList_some, Option.toList_none, List.cons_append, List.nil_append, if_true, if_false]
    rw [rX8_least_24 hT.2.1.2 (by omega) (by omega), b1]
    simp only [rX8_least_25, rX8_least_25_n, rX8_least_26, up2_eq, va_rf, eq_self, or_true, true_or, Option.toList_some, Option.toList_none, List.cons_append, List.nil_append, if_true, if_false]
    rw [rX8_least_27 hk.1]
    refine k_planN hk1 (fun n g1 g2 => by rw [hfr.2.2 _ (by omega)]; exact hg n g1 g2) hp1 hE hb1 (by omega) hs hc hv (by omega) he hne ?_
    intro F2 R2 A2 hfr2 h410 hFo hRo hrow
    have hfr3 := frP_trans hfr hfr2
    have e800' : R2 800 t = some pk := by rw [hfr3.2.1 _ _ (by decide) (by decide)]; exact hT.1.2
    simp only [rX8_least_30, rX8_least_31, rX8_least_32, rX8_least_35, hT.1.1, e800', up2_eq, va_rf, eq_self, or_true, true_or, Option.toList_some, Option.toList_none, List.cons_append, List.nil_append, if_true, if_false]
    rw [rX8_least_36 hk.1, k_least (m := sl i) (isK_cong hk1 (fun q h1 h2 => hfr2.2.1 _ _ (by omega) (by omega))) h410 (by omega) (Nat.zero_le _), (hrow 0 (Nat.zero_le _)).1]
    simp only [rX8_least_39, rX8_least_40, rX8_least_41, rX8_least_44, nI_add, up2_eq, va_rf, eq_self, or_true, true_or, Option.toList_some, Option.toList_none, List.cons_append, List.nil_append, if_true, if_false]
    have e1 : A1 (t + 10 + 2 * i) = A (t + 10 + 2 * i) := hfr.2.2 _ (by omega)
    have e2 : A1 v = A v := hfr.2.2 _ (by omega)
    rw [e1, e2]
    exact ih (i + 1) F2 R2 A2 (by omega) hfr3
theorem k_Tleast {rk : Bool} (hT : isT sh R B t pk) (hsm : isSm F t ns sl) (hk : isK sh R pk) (hg : ∀ n, 1 ≤ n → n ≤ 120 → A (pk + 8) n = nI (gm n)) (hp : isP sh F R A o r v z s e ze c E) (hE : okE E c s) (hs : s ≤ 320) (hc : c ≤ 20) (hv : v < pk + 1 ∨ pk + 8 < v) (he : e < pk + 1 ∨ pk + 8 < e) (htp : pk + 8 < t) (hne : rk = true → ∀ q, q < c → 0 < E q - pst E q)
    (hQ : ∀ F' R' A', frP pk F R A F' R' A' → Q (some (.int (nI (sumP (sbA A t) sl (A v) s c E rk ns)))) (mkh n u sh F' R' A' B)) :
    rc_ (k + 3) mX8_least [.ref t, .ref o, .int (if rk = true then nI 1 else nI 0)] (mkh n u sh F R A B) Q := by
  rw [eX8_least]
  simp only [rX8_least_0, rX8_least_1, rX8_least_2, rX8_least_3]
  exact l_Tleast hT hsm hk hg hp hE hs hc hv he htp hne hQ ns 0 F R A (by omega) frP_refl
end TRN
