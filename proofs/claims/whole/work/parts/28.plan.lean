/-! ===== the packer: begin, plan ===== -/
def rowR (f lf : Nat → Int32) (m s : Nat) (en : Nat → Nat) : Nat → Nat → Nat
  | 0, _ => 0
  | t + 1, p => if p < s then nrr f (lf (m - (t + 1))) en (rowR f lf m s en t) p else 0
def letR (lf : Nat → Int32) (m : Nat) : Nat → Nat → Nat
  | 0, _ => 0
  | t + 1, p => nlr lf (lf (m - (t + 1))) (letR lf m t) p
theorem rowR_le {f lf : Nat → Int32} {m s : Nat} {en : Nat → Nat} : ∀ t p, rowR f lf m s en t p ≤ t
  | 0, _ => Nat.le_refl _
  | t + 1, p => by
    unfold rowR nrr
    have := rowR_le (f := f) (lf := lf) (m := m) (s := s) (en := en) t (p + 1)
    split
    · split
      · split <;> omega
      · omega
    · omega
theorem letR_le {lf : Nat → Int32} {m : Nat} : ∀ t p, letR lf m t p ≤ t
  | 0, _ => Nat.le_refl _
  | t + 1, p => by
    unfold letR nlr
    have := letR_le (lf := lf) (m := m) t (p + 1)
    split <;> omega
theorem rowR_s {f lf : Nat → Int32} {m s : Nat} {en : Nat → Nat} : ∀ t, rowR f lf m s en t s = 0
  | 0 => rfl
  | t + 1 => by
    unfold rowR
    rw [if_neg (Nat.lt_irrefl _)]
/-- the rows behind 'follow' at byte i -/
def plF (C : hF_) (f lf : Nat → Int32) (pk m s : Nat) (en : Nat → Nat) (t : Nat) : hF_ := pfx (pfx (up2 C (pk + 1) (m - (t + 1)) (nI 1000000)) (pk + 6) (fun p => nI (nrr f (lf (m - (t + 1))) en (rowR f lf m s en t) p)) s) (pk + 7) (fun p => nI (nlr lf (lf (m - (t + 1))) (letR lf m t) p)) (m - (t + 1))
/-- ... and behind all offers but WHOLE -/
def plC (C : hF_) (f lf : Nat → Int32) (pk m s : Nat) (en : Nat → Nat) (t : Nat) : hF_ := (copA (copA (ownA (plF C f lf pk m s en t) pk (m - (t + 1)) (m - (m - (t + 1)))) pk (m - (t + 1)) 1 (nI 2 + nI (wd s)) (rowR f lf m s en (t + 1)) s).1 pk (m - (t + 1)) 2 (nI 2 + nI (wd (m - (t + 1)))) (letR lf m (t + 1)) (m - (t + 1))).1
def plS (C : hF_) (f lf : Nat → Int32) (pk m s c : Nat) (E : Nat → Nat) (rk : Bool) (t : Nat) : hF_ := if rk = true then whoA (plC C f lf pk m s (fun p => ear E p c 0) t) pk (m - (t + 1)) E (rowR f lf m s (fun p => ear E p c 0) (t + 1)) c else plC C f lf pk m s (fun p => ear E p c 0) t
def plnA (A : hF_) (f lf : Nat → Int32) (pk m s c : Nat) (E : Nat → Nat) (rk : Bool) : Nat → hF_
  | 0 => A
  | t + 1 => plS (plnA A f lf pk m s c E rk t) f lf pk m s c E rk t
theorem plF_out {C : hF_} {f lf : Nat → Int32} {pk m s t a : Nat} {en : Nat → Nat} (h : a < pk + 1 ∨ pk + 7 < a) : plF C f lf pk m s en t a = C a := by
  unfold plF
  rw [pfx_out (by omega), pfx_out (by omega), up2_row (by omega)]
theorem plC_o5 {C : hF_} {f lf : Nat → Int32} {pk m s t a : Nat} {en : Nat → Nat} (h : a < pk + 1 ∨ pk + 5 < a) : plC C f lf pk m s en t a = plF C f lf pk m s en t a := by
  unfold plC
  rw [copA_out h, copA_out h, ownA_out h]
theorem plS_o5 {C : hF_} {f lf : Nat → Int32} {pk m s c t a : Nat} {E : Nat → Nat} {rk : Bool} (h : a < pk + 1 ∨ pk + 5 < a) : plS C f lf pk m s c E rk t a = plF C f lf pk m s (fun p => ear E p c 0) t a := by
  unfold plS
  split
  · rw [whoA_out h, plC_o5 h]
  · rw [plC_o5 h]
theorem plnA_out {A : hF_} {f lf : Nat → Int32} {pk m s c a : Nat} {E : Nat → Nat} {rk : Bool} (h : a < pk + 1 ∨ pk + 7 < a) : ∀ t, plnA A f lf pk m s c E rk t a = A a
  | 0 => rfl
  | t + 1 => by
    unfold plnA
    rw [plS_o5 (by omega), plF_out h, plnA_out h t]
theorem plF_row {C : hF_} {f lf : Nat → Int32} {pk m s t : Nat} {en : Nat → Nat} (h : ∀ p, p ≤ s → C (pk + 6) p = nI (rowR f lf m s en t p)) : ∀ p, p ≤ s → plF C f lf pk m s en t (pk + 6) p = nI (rowR f lf m s en (t + 1) p) := by
  intro p hp
  unfold plF
  rw [pfx_out (by omega)]
  by_cases e : p < s
  · rw [pfx_new e]
    unfold rowR
    rw [if_pos e]
  · have e2 : p = s := by omega
    subst e2
    rw [pfx_old (Nat.le_refl _), up2_row (by omega), h p (Nat.le_refl _), rowR_s, rowR_s]
theorem plF_let {C : hF_} {f lf : Nat → Int32} {pk m s t p : Nat} {en : Nat → Nat} (hp : p < m - (t + 1)) : plF C f lf pk m s en t (pk + 7) p = nI (letR lf m (t + 1) p) := by
  unfold plF
  rw [pfx_new hp]
  rfl
theorem plnA_row {A : hF_} {f lf : Nat → Int32} {pk m s c : Nat} {E : Nat → Nat} {rk : Bool} (h : ∀ p, p ≤ s → A (pk + 6) p = nI 0) : ∀ t p, p ≤ s → plnA A f lf pk m s c E rk t (pk + 6) p = nI (rowR f lf m s (fun p => ear E p c 0) t p)
  | 0, p, hp => h p hp
  | t + 1, p, hp => by
    unfold plnA
    rw [plS_o5 (by omega)]
    exact plF_row (plnA_row h t) p hp
theorem plnA_let {A : hF_} {f lf : Nat → Int32} {pk m s c : Nat} {E : Nat → Nat} {rk : Bool} (h : ∀ p, p ≤ m → A (pk + 7) p = nI 0) : ∀ t p, p + t + 1 ≤ m → plnA A f lf pk m s c E rk t (pk + 7) p = nI (letR lf m t p)
  | 0, p, hp => h p (by omega)
  | t + 1, p, hp => by
    unfold plnA
    rw [plS_o5 (by omega)]
    exact plF_let (by omega)
section PLN
variable {k n u : Nat} {sh : hs_} {F : hF_} {R : hR_} {A : hF_} {B : hR_} {pk : Nat} {Q : Option Value → pm_H → Prop} {o r v z s e ze c lb lv lz m : Nat} {E : Nat → Nat}
theorem l_plan {rk : Bool} {x1 x2 : Value} (hk : isK sh R pk) (hR : R 409 pk = some o) (hL : R 408 pk = some lb) (hF1 : F 410 pk = nI m) (hF2 : F 411 pk = nI s) (hp : isP sh F R A o r v z s e ze c E) (hE : okE E c s) (hb : isB sh F R lb lv lz m) (hm : m ≤ 120) (hs : s ≤ 320) (hc : c ≤ 20) (hv : v < pk + 1 ∨ pk + 8 < v) (hlv : lv < pk + 1 ∨ pk + 8 < lv) (he : e < pk + 1 ∨ pk + 8 < e) (h6 : ∀ p, p ≤ s → A (pk + 6) p = nI 0) (h7 : ∀ p, p ≤ m → A (pk + 7) p = nI 0) :
    ∀ d t, t + d = m → (rw_ (k + 2) mX4_plan 14 [.ref pk, x1, x2, .int (if rk = true then nI 1 else nI 0), .int (if t < m then nI (m - 1 - t) else -1)] [] (mkh n u sh F R (plnA A (A v) (A lv) pk m s c E rk t) B) Q ↔ Q none (mkh n u sh F R (plnA A (A v) (A lv) pk m s c E rk m) B)) := by
  obtain ⟨h0, ⟨r0, r1, r2, r3, r4, r5, r6, r7⟩, s0, s1, s2, s3, s4, s5, s6, s7⟩ := id hk
  have ho := hp.1
  have hro := hp.2.1
  have hrb := hp.2.2.2.2.2.2.2.2
  intro d
  induction d with
  | zero =>
    intro t ht
    have e1 : t = m := by omega
    subst e1
    rw [if_neg (Nat.lt_irrefl t)]
    have g1 : (-1 : Int32) < nI 0 := by decide
    simp only [rX4_plan_14, rX4_plan_16, rX4_plan_112, g1, up2_eq, va_rf, eq_self, or_true, true_or, Option.toList_some, Option.toList_none, List.cons_append, List.nil_append, if_true, if_false]
  | succ d ih =>
    intro t ht
    have hi : m - 1 - t = m - (t + 1) := by omega
    rw [if_pos (by omega : t < m), hi]
    have hIH := ih (t + 1) (by omega)
    generalize hC : plnA A (A v) (A lv) pk m s c E rk t = C at *
    have hCo : ∀ a, (a < pk + 1 ∨ pk + 7 < a) → C a = A a := fun a ha => by rw [← hC]; exact plnA_out ha t
    have hCr : ∀ p, p ≤ s → C (pk + 6) p = nI (rowR (A v) (A lv) m s (fun p => ear E p c 0) t p) := fun p hp => by rw [← hC]; exact plnA_row h6 t p hp
    have hCl : ∀ p, p + t + 1 ≤ m → C (pk + 7) p = nI (letR (A lv) m t p) := fun p hp => by rw [← hC]; exact plnA_let h7 t p hp
    have hnext : plnA A (A v) (A lv) pk m s c E rk (t + 1) = plS C (A v) (A lv) pk m s c E rk t := by rw [plnA, hC]
    rw [hnext] at hIH
    have g1 : ¬ nI (m - (t + 1)) < nI 0 := nI_nlt (Nat.zero_le _) (by omega)
    simp only [rX4_plan_14, rX4_plan_16, rX4_plan_19, rX4_plan_20, rX4_plan_23, rX4_plan_25, h0, r0, g1, up2_eq, va_rf, eq_self, or_true, true_or, Option.toList_some, Option.toList_none, List.cons_append, List.nil_append, if_true, if_false]
    rw [rX4_plan_27 s0 (by omega) (by omega)]
    simp only [rX4_plan_28, rX4_plan_29]
    -- followRow
    have q1 : up2 C (pk + 1) (m - (t + 1)) (nI 1000000) v = A v := by rw [up2_row (by omega), hCo v (by omega)]
    have q2 : up2 C (pk + 1) (m - (t + 1)) (nI 1000000) lv = A lv := by rw [up2_row (by omega), hCo lv (by omega)]
    have hp1 : isP sh F R (up2 C (pk + 1) (m - (t + 1)) (nI 1000000)) o r v z s e ze c E := hp.A (by rw [up2_row (by omega), hCo e (by omega)])
    rw [rX4_plan_31 h0, k_followRow (rr := rowR (A v) (A lv) m s (fun p => ear E p c 0) t) hk hR hL hF2 hp1 hE hb (by omega) (by omega) (by omega) hs (fun p hp => by rw [up2_row (by omega)]; exact hCr p hp), q1, q2]
    simp only [rX4_plan_34, rX4_plan_35, up2_eq, va_rf, eq_self, or_true, true_or, Option.toList_some, Option.toList_none, List.cons_append, List.nil_append, if_true, if_false]
    -- followLetter
    have q3 : pfx (up2 C (pk + 1) (m - (t + 1)) (nI 1000000)) (pk + 6) (fun p => nI (nrr (A v) (A lv (m - (t + 1))) (fun p => ear E p c 0) (rowR (A v) (A lv) m s (fun p => ear E p c 0) t) p)) s lv = A lv := by rw [pfx_out (by omega), q2]
    rw [rX4_plan_37 h0, k_followLetter (rr := letR (A lv) m t) hk hL hb (by omega) (by omega) (by omega) (fun p hp => by rw [pfx_out (by omega), up2_row (by omega)]; exact hCl p (by omega)), q3]
    simp only [rX4_plan_40, rX4_plan_41, up2_eq, va_rf, eq_self, or_true, true_or, Option.toList_some, Option.toList_none, List.cons_append, List.nil_append, if_true, if_false]
    have q4 : pfx (pfx (up2 C (pk + 1) (m - (t + 1)) (nI 1000000)) (pk + 6) (fun p => nI (nrr (A v) (A lv (m - (t + 1))) (fun p => ear E p c 0) (rowR (A v) (A lv) m s (fun p => ear E p c 0) t) p)) s) (pk + 7) (fun p => nI (nlr (A lv) (A lv (m - (t + 1))) (letR (A lv) m t) p)) (m - (t + 1)) = plF C (A v) (A lv) pk m s (fun p => ear E p c 0) t := rfl
    rw [q4, rX4_plan_43 h0, k_tryOwn hk hF1 hm (by omega)]
    have hz5 := hrb.2.2.2.2.1
    simp only [rX4_plan_46, rX4_plan_47, rX4_plan_49, rX4_plan_50, rX4_plan_51, rX4_plan_54, rX4_plan_55, rX4_plan_58, rX4_plan_59, rX4_plan_60, rX4_plan_63, rX4_plan_66, h0, r5, hR, ho, hro, hrb.1, hF2, hz5, up2_eq, va_rf, eq_self, or_true, true_or, Option.toList_some, Option.toList_none, List.cons_append, List.nil_append, if_true, if_false]
    rw [rX4_plan_69, k_width (by omega)]
    simp only [rX4_plan_72, up2_eq, va_rf, eq_self, or_true, true_or, Option.toList_some, Option.toList_none, List.cons_append, List.nil_append, if_true, if_false]
    have hrow := plF_row (f := A v) (lf := A lv) (m := m) (en := fun p => ear E p c 0) hCr
    rw [rX4_plan_73 h0, k_tryCopies (kd := 1) (zr := 321) (rr := rowR (A v) (A lv) m s (fun p => ear E p c 0) (t + 1)) hk (by omega) (by omega) s5 (by omega) (by omega) (by omega) (fun x => absurd x (by decide)) (fun p hp => ⟨by rw [ownA_out (by omega)]; exact hrow p (by omega), by have := rowR_le (f := A v) (lf := A lv) (m := m) (s := s) (en := fun p => ear E p c 0) (t + 1) p; omega⟩)]
    simp only [rX4_plan_76, rX4_plan_77, rX4_plan_79, rX4_plan_80, rX4_plan_81, rX4_plan_84, rX4_plan_86, rX4_plan_87, h0, r6, up2_eq, va_rf, eq_self, or_true, true_or, Option.toList_some, Option.toList_none, List.cons_append, List.nil_append, if_true, if_false]
    rw [rX4_plan_89, k_width (by omega)]
    simp only [rX4_plan_92, up2_eq, va_rf, eq_self, or_true, true_or, Option.toList_some, Option.toList_none, List.cons_append, List.nil_append, if_true, if_false]
    rw [rX4_plan_93 h0, k_tryCopies (kd := 2) (zr := 121) (rr := letR (A lv) m (t + 1)) hk (by omega) (by omega) s6 (by omega) (by omega) (by omega) (fun _ => Nat.le_refl _) (fun p hp => ⟨by rw [copA_out (by omega), ownA_out (by omega)]; exact plF_let hp, by have := letR_le (lf := A lv) (m := m) (t + 1) p; omega⟩)]
    have q5 : (copA (copA (ownA (plF C (A v) (A lv) pk m s (fun p => ear E p c 0) t) pk (m - (t + 1)) (m - (m - (t + 1)))) pk (m - (t + 1)) 1 (nI 2 + nI (wd s)) (rowR (A v) (A lv) m s (fun p => ear E p c 0) (t + 1)) s).1 pk (m - (t + 1)) 2 (nI 2 + nI (wd (m - (t + 1)))) (letR (A lv) m (t + 1)) (m - (t + 1))).1 = plC C (A v) (A lv) pk m s (fun p => ear E p c 0) t := rfl
    rw [q5]
    have hdec : nI (m - (t + 1)) + (-1 : Int32) = (if t + 1 < m then nI (m - 1 - (t + 1)) else -1) := by
      by_cases e2 : t + 1 < m
      · rw [if_pos e2, show m - (t + 1) = (m - 1 - (t + 1)) + 1 by omega, pk_m1]
      · rw [if_neg e2, show m - (t + 1) = 0 by omega]
        decide
    cases rk with
    | false =>
      have q6 : plS C (A v) (A lv) pk m s c E false t = plC C (A v) (A lv) pk m s (fun p => ear E p c 0) t := rfl
      rw [q6] at hIH
      simp only [rX4_plan_96, rX4_plan_97, rX4_plan_106, rX4_plan_109, hdec, Bool.false_eq_true, up2_eq, va_rf, eq_self, or_true, true_or, Option.toList_some, Option.toList_none, List.cons_append, List.nil_append, if_true, if_false]
      simp only [Bool.false_eq_true, up2_eq, va_rf, eq_self, or_true, true_or, Option.toList_some, Option.toList_none, List.cons_append, List.nil_append, if_true, if_false] at hIH
      exact hIH
    | true =>
      have q6 : plS C (A v) (A lv) pk m s c E true t = whoA (plC C (A v) (A lv) pk m s (fun p => ear E p c 0) t) pk (m - (t + 1)) E (rowR (A v) (A lv) m s (fun p => ear E p c 0) (t + 1)) c := rfl
      rw [q6] at hIH
      have g4 : ¬ nI 1 = nI 0 := by decide
      simp only [rX4_plan_96, rX4_plan_97, rX4_plan_100, rX4_plan_101, g4, up2_eq, va_rf, eq_self, or_true, true_or, Option.toList_some, Option.toList_none, List.cons_append, List.nil_append, if_true, if_false]
      have hp6 : isP sh F R (plC C (A v) (A lv) pk m s (fun p => ear E p c 0) t) o r v z s e ze c E := hp.A (by rw [plC_o5 (by omega), plF_out (by omega), hCo e (by omega)])
      rw [rX4_plan_103 h0, k_tryWhole (rr := rowR (A v) (A lv) m s (fun p => ear E p c 0) (t + 1)) hk hR hp6 hE (by omega) hc hs (by omega) (fun p hp => ⟨by rw [plC_o5 (by omega)]; exact hrow p hp, by have := rowR_le (f := A v) (lf := A lv) (m := m) (s := s) (en := fun p => ear E p c 0) (t + 1) p; omega, fun _ => by have := rowR_le (f := A v) (lf := A lv) (m := m) (s := s) (en := fun p => ear E p c 0) (t + 1) p; omega⟩)]
      simp only [rX4_plan_106, rX4_plan_109, hdec, up2_eq, va_rf, eq_self, or_true, true_or, Option.toList_some, Option.toList_none, List.cons_append, List.nil_append, if_true, if_false]
      simp only [up2_eq, va_rf, eq_self, or_true, true_or, Option.toList_some, Option.toList_none, List.cons_append, List.nil_append, if_true, if_false] at hIH
      exact hIH
end PLN
