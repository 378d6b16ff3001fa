/-! ===== candidates ===== -/
/-- a candidate: its sample, where it begins, its size, in how many samples it is -/
abbrev cd : Type := Nat × Nat × Nat × Nat
def isC (F : hF_) (R : hR_) (o t : Nat) (c : cd) : Prop := R 200 o = some (t + 9 + 2 * c.1) ∧ F 201 o = nI c.2.1 ∧ F 202 o = nI c.2.2.1 ∧ F 203 o = nI c.2.2.2
def okC (ns : Nat) (sl : Nat → Nat) (c : cd) : Prop := c.1 < ns ∧ c.2.1 + c.2.2.1 ≤ sl c.1 ∧ 3 ≤ c.2.2.1 ∧ c.2.2.1 ≤ 12 ∧ c.2.2.2 ≤ 8
/-- the bytes of a candidate -/
def cbt (sb : Nat → Nat → Int32) (c : cd) (j : Nat) : Int32 := sb c.1 (c.2.1 + j)
def ordV (sb : Nat → Nat → Int32) (a b : cd) : Int32 := if a.2.2.1 = b.2.2.1 then (if cpl (cbt sb a) (cbt sb b) a.2.2.1 = a.2.2.1 then nI 0 else cbt sb a (cpl (cbt sb a) (cbt sb b) a.2.2.1) - cbt sb b (cpl (cbt sb a) (cbt sb b) a.2.2.1)) else nI b.2.2.1 - nI a.2.2.1
def ordW (sb : Nat → Nat → Int32) (a b : cd) : Int32 := if a.2.2.2 = b.2.2.2 then ordV sb a b else nI b.2.2.2 - nI a.2.2.2
section CAN
variable {k n u : Nat} {sh : hs_} {F : hF_} {R : hR_} {A : hF_} {B : hR_} {Q : Option Value → pm_H → Prop} {t pk ns : Nat} {sl : Nat → Nat} {oa ob : Nat} {a b : cd}
theorem k_Cset {o so : Nat} {x y w : Int32} (ho : sh o = some (0, 2, 0)) : rc_ k mX2_set [.ref o, .ref so, .int x, .int y, .int w] (mkh n u sh F R A B) Q ↔ Q none (mkh n u sh (up2 (up2 (up2 F 201 o x) 202 o y) 203 o w) (up2 R 200 o (some so)) A B) := by
  rw [eX2_set]
  simp only [rX2_set_0, rX2_set_1, rX2_set_1_n, rX2_set_2, rX2_set_5, rX2_set_6, rX2_set_7, rX2_set_10, rX2_set_11, rX2_set_12, rX2_set_15, rX2_set_16, rX2_set_18, rX2_set_21, ho, up2_eq, va_rf, eq_self, or_true, true_or, Option.toList_some, Option.toList_none, List.cons_append, List.nil_append, if_true, if_false]
theorem k_Cbecome {o : Nat} (ho : sh o = some (0, 2, 0)) (hb : sh ob = some (0, 2, 0)) (hc : isC F R ob t b) : rc_ (k + 1) mX2_become [.ref o, .ref ob] (mkh n u sh F R A B) Q ↔ Q none (mkh n u sh (up2 (up2 (up2 F 201 o (nI b.2.1)) 202 o (nI b.2.2.1)) 203 o (nI b.2.2.2)) (up2 R 200 o (some (t + 9 + 2 * b.1))) A B) := by
  obtain ⟨h1, h2, h3, h4⟩ := hc
  rw [eX2_become]
  simp only [rX2_become_0, rX2_become_1, rX2_become_1_n, rX2_become_2, rX2_become_5, rX2_become_5_n, rX2_become_6, rX2_become_9, rX2_become_9_n, rX2_become_10, rX2_become_13, rX2_become_13_n, rX2_become_14, hb, h1, h2, h3, h4, up2_eq, va_rf, eq_self, or_true, true_or, Option.toList_some, Option.toList_none, List.cons_append, List.nil_append, if_true, if_false]
  rw [rX2_become_17 ho, k_Cset ho]
  simp only [rX2_become_20, up2_eq, va_rf, eq_self, or_true, true_or, Option.toList_some, Option.toList_none, List.cons_append, List.nil_append, if_true, if_false]
theorem k_order (hT : isT sh R B t pk) (hsm : isSm F t ns sl) (hoa : sh oa = some (0, 2, 0)) (hob : sh ob = some (0, 2, 0)) (ha : isC F R oa t a) (hb : isC F R ob t b) (ka : okC ns sl a) (kb : okC ns sl b) :
    rc_ (k + 2) mX2_order [.ref oa, .ref ob] (mkh n u sh F R A B) Q ↔ Q (some (.int (ordV (sbA A t) a b))) (mkh n u sh F R A B) := by
  obtain ⟨a1, a2, a3, a4⟩ := ha
  obtain ⟨b1, b2, b3, b4⟩ := hb
  obtain ⟨ka1, ka2, ka3, ka4, ka5⟩ := ka
  obtain ⟨kb1, kb2, kb3, kb4, kb5⟩ := kb
  have hA := isT_sB hT hsm ka1
  have hB := isT_sB hT hsm kb1
  have sa := hA.2.2.2.2.2
  have sb' := hB.2.2.2.2.2
  rw [eX2_order]
  unfold ordV
  simp only [rX2_order_0, rX2_order_1, rX2_order_4, rX2_order_4_n, rX2_order_5, hoa, hob, a3, b3, up2_eq, va_rf, eq_self, or_true, true_or, Option.toList_some, Option.toList_none, List.cons_append, List.nil_append, if_true, if_false]
  by_cases c1 : a.2.2.1 = b.2.2.1
  · have g1 : nI a.2.2.1 = nI b.2.2.1 := by rw [c1]
    rw [if_pos c1]
    simp only [rX2_order_8, rX2_order_21, rX2_order_22, rX2_order_25, rX2_order_26, rX2_order_29, rX2_order_29_n, rX2_order_30, rX2_order_33, rX2_order_33_n, rX2_order_34, rX2_order_37, rX2_order_38, hoa, hob, a1, a2, a3, b1, b2, g1, up2_eq, va_rf, eq_self, or_true, true_or, Option.toList_some, Option.toList_none, List.cons_append, List.nil_append, if_true, if_false]
    rw [← g1, rX2_order_41 hA.1, k_Bytes_alike hA hB (by omega) (by omega) (by omega), show min a.2.2.1 (min (sl a.1 - a.2.1) (sl b.1 - b.2.1)) = a.2.2.1 by omega]
    have hcl := cpl_le (f := fun j => A (t + 10 + 2 * a.1) (a.2.1 + j)) (g := fun j => A (t + 10 + 2 * b.1) (b.2.1 + j)) a.2.2.1
    have hce : cpl (cbt (sbA A t) a) (cbt (sbA A t) b) a.2.2.1 = cpl (fun j => A (t + 10 + 2 * a.1) (a.2.1 + j)) (fun j => A (t + 10 + 2 * b.1) (b.2.1 + j)) a.2.2.1 := rfl
    rw [hce]
    generalize cpl (fun j => A (t + 10 + 2 * a.1) (a.2.1 + j)) (fun j => A (t + 10 + 2 * b.1) (b.2.1 + j)) a.2.2.1 = w at hcl ⊢
    simp only [rX2_order_44, rX2_order_45, rX2_order_46, rX2_order_47, hoa, a3, up2_eq, va_rf, eq_self, or_true, true_or, Option.toList_some, Option.toList_none, List.cons_append, List.nil_append, if_true, if_false]
    by_cases c2 : w = a.2.2.1
    · subst c2
      simp only [rX2_order_50, rX2_order_53, rX2_order_54, rX2_order_84, up2_eq, va_rf, eq_self, or_true, true_or, Option.toList_some, Option.toList_none, List.cons_append, List.nil_append, if_true, if_false]
    · have g2 : ¬ nI w = nI a.2.2.1 := by rw [nI_eq (by omega) (by omega)]; exact c2
      rw [if_neg c2]
      simp only [rX2_order_50, rX2_order_57, rX2_order_58, rX2_order_61, rX2_order_62, rX2_order_65, rX2_order_66, g2, hoa, a1, a2, nI_add, up2_eq, va_rf, eq_self, or_true, true_or, Option.toList_some, Option.toList_none, List.cons_append, List.nil_append, if_true, if_false]
      rw [rX2_order_67 hA.1, k_Bytes_at hA, bat_in (by omega) (by omega)]
      simp only [rX2_order_70, rX2_order_70_n, rX2_order_71, rX2_order_74, rX2_order_74_n, rX2_order_75, rX2_order_78, rX2_order_79, hob, b1, b2, nI_add, up2_eq, va_rf, eq_self, or_true, true_or, Option.toList_some, Option.toList_none, List.cons_append, List.nil_append, if_true, if_false]
      rw [rX2_order_80 hB.1, k_Bytes_at hB, bat_in (by omega) (by omega)]
      simp only [rX2_order_83, rX2_order_84, up2_eq, va_rf, eq_self, or_true, true_or, Option.toList_some, Option.toList_none, List.cons_append, List.nil_append, if_true, if_false]
      rfl
  · have g1 : ¬ nI a.2.2.1 = nI b.2.2.1 := by rw [nI_eq (by omega) (by omega)]; exact c1
    rw [if_neg c1]
    simp only [rX2_order_8, rX2_order_11, rX2_order_11_n, rX2_order_12, rX2_order_15, rX2_order_16, rX2_order_19, rX2_order_20, hoa, hob, a3, b3, g1, up2_eq, va_rf, eq_self, or_true, true_or, Option.toList_some, Option.toList_none, List.cons_append, List.nil_append, if_true, if_false]
theorem k_orderS (hT : isT sh R B t pk) (hsm : isSm F t ns sl) (hoa : sh oa = some (0, 2, 0)) (hob : sh ob = some (0, 2, 0)) (ha : isC F R oa t a) (hb : isC F R ob t b) (ka : okC ns sl a) (kb : okC ns sl b) :
    rc_ (k + 3) mX2_orderBySpread [.ref oa, .ref ob] (mkh n u sh F R A B) Q ↔ Q (some (.int (ordW (sbA A t) a b))) (mkh n u sh F R A B) := by
  obtain ⟨a1, a2, a3, a4⟩ := id ha
  obtain ⟨b1, b2, b3, b4⟩ := id hb
  have ka5 := ka.2.2.2.2
  have kb5 := kb.2.2.2.2
  rw [eX2_orderBySpread]
  unfold ordW
  simp only [rX2_orderBySpread_0, rX2_orderBySpread_1, rX2_orderBySpread_4, rX2_orderBySpread_4_n, rX2_orderBySpread_5, hoa, hob, a4, b4, up2_eq, va_rf, eq_self, or_true, true_or, Option.toList_some, Option.toList_none, List.cons_append, List.nil_append, if_true, if_false]
  by_cases c1 : a.2.2.2 = b.2.2.2
  · have g1 : nI a.2.2.2 = nI b.2.2.2 := by rw [c1]
    rw [if_pos c1]
    simp only [rX2_orderBySpread_8, rX2_orderBySpread_23, rX2_orderBySpread_24, rX2_orderBySpread_24_n, g1, up2_eq, va_rf, eq_self, or_true, true_or, Option.toList_some, Option.toList_none, List.cons_append, List.nil_append, if_true, if_false]
    rw [rX2_orderBySpread_25 hoa, k_order hT hsm hoa hob ha hb ka kb]
    simp only [rX2_orderBySpread_28, up2_eq, va_rf, eq_self, or_true, true_or, Option.toList_some, Option.toList_none, List.cons_append, List.nil_append, if_true, if_false]
  · have g1 : ¬ nI a.2.2.2 = nI b.2.2.2 := by rw [nI_eq (by omega) (by omega)]; exact c1
    rw [if_neg c1]
    simp only [rX2_orderBySpread_8, rX2_orderBySpread_11, rX2_orderBySpread_11_n, rX2_orderBySpread_12, rX2_orderBySpread_15, rX2_orderBySpread_16, rX2_orderBySpread_19, rX2_orderBySpread_20, rX2_orderBySpread_28, hoa, hob, a4, b4, g1, up2_eq, va_rf, eq_self, or_true, true_or, Option.toList_some, Option.toList_none, List.cons_append, List.nil_append, if_true, if_false]
/-- the trainer's candidates: f of them -/
def isCs (F : hF_) (R : hR_) (t f : Nat) (cs : Nat → cd) : Prop := F 804 t = nI f ∧ f ≤ 8 ∧ ∀ i, i < f → isC F R (t + 26 + i) t (cs i)
/-- what looking for candidates leaves as it was -/
def frC (t : Nat) (F : hF_) (R : hR_) (A : hF_) (F' : hF_) (R' : hR_) (A' : hF_) : Prop := (∀ q a, q ≠ 201 → q ≠ 202 → q ≠ 203 → q ≠ 804 → F' q a = F q a) ∧ (∀ q a, q ≠ 200 → R' q a = R q a) ∧ (∀ a, a ≠ t + 3 → A' a = A a)
end CAN
theorem frC_refl {t : Nat} {F : hF_} {R : hR_} {A : hF_} : frC t F R A F R A := ⟨fun _ _ _ _ _ _ => rfl, fun _ _ _ => rfl, fun _ _ => rfl⟩
theorem frC_trans {t : Nat} {F F1 F2 : hF_} {R R1 R2 : hR_} {A A1 A2 : hF_} (h : frC t F R A F1 R1 A1) (h' : frC t F1 R1 A1 F2 R2 A2) : frC t F R A F2 R2 A2 :=
  ⟨fun q a x y z w => by rw [h'.1 q a x y z w, h.1 q a x y z w], fun q a x => by rw [h'.2.1 q a x, h.2.1 q a x], fun a x => by rw [h'.2.2 a x, h.2.2 a x]⟩
/-- where it goes in: d candidates from i on -/
def iat (lt : cd → Bool) (cs : Nat → cd) : Nat → Nat → Nat
  | 0, i => i
  | d + 1, i => if lt (cs i) = true then iat lt cs d (i + 1) else i
theorem iat_le {lt : cd → Bool} {cs : Nat → cd} : ∀ d i, iat lt cs d i ≤ i + d
  | 0, i => Nat.le_refl _
  | d + 1, i => by
    unfold iat
    split
    · have := iat_le (lt := lt) (cs := cs) d (i + 1); omega
    · omega
def insC (cs : Nat → cd) (w : Nat) (p : cd) : Nat → cd := fun j => if j < w then cs j else if j = w then p else cs (j - 1)
def insP (sb : Nat → Nat → Int32) (S : (Nat → cd) × Nat) (p : cd) : (Nat → cd) × Nat :=
  if (iat (fun c => decide (ordW sb c p < nI 0)) S.1 S.2 0 < S.2 ∧ ordW sb (S.1 (iat (fun c => decide (ordW sb c p < nI 0)) S.1 S.2 0)) p = nI 0) ∨ 8 ≤ iat (fun c => decide (ordW sb c p < nI 0)) S.1 S.2 0 then S
  else (insC S.1 (iat (fun c => decide (ordW sb c p < nI 0)) S.1 S.2 0) p, min (S.2 + 1) 8)
