/-! ===== the packer: greedyTotal ===== -/
/-- the rows behind 'follow' at byte i, prices untouched -/
def grF (C : hF_) (f lf : Nat → Int32) (pk m s : Nat) (en : Nat → Nat) (t : Nat) : hF_ := pfx (pfx C (pk + 6) (fun p => nI (nrr f (lf (m - (t + 1))) en (rowR f lf m s en t) p)) s) (pk + 7) (fun p => nI (nlr lf (lf (m - (t + 1))) (letR lf m t) p)) (m - (t + 1))
/-- greedy's price at byte i -/
def gryV (A : hF_) (pk i s c : Nat) (E rrow rlet : Nat → Nat) (rk : Bool) : Int32 :=
  if rk = true ∧ 0 < (lwN E rrow c).2 then nI 2 + A (pk + 8) ((lwN E rrow c).1.toNatClampNeg + 1) + A (pk + 1) (i + (lwN E rrow c).2) else gryN A pk i s rrow rlet
def grS (C : hF_) (f lf : Nat → Int32) (pk m s c : Nat) (E : Nat → Nat) (rk : Bool) (t : Nat) : hF_ := up2 (grF C f lf pk m s (fun p => ear E p c 0) t) (pk + 1) (m - (t + 1)) (gryV (grF C f lf pk m s (fun p => ear E p c 0) t) pk (m - (t + 1)) s c E (rowR f lf m s (fun p => ear E p c 0) (t + 1)) (letR lf m (t + 1)) rk)
def grnA (A : hF_) (f lf : Nat → Int32) (pk m s c : Nat) (E : Nat → Nat) (rk : Bool) : Nat → hF_
  | 0 => A
  | t + 1 => grS (grnA A f lf pk m s c E rk t) f lf pk m s c E rk t
theorem grF_out {C : hF_} {f lf : Nat → Int32} {pk m s t a : Nat} {en : Nat → Nat} (h : a < pk + 6 ∨ pk + 7 < a) : grF C f lf pk m s en t a = C a := by
  unfold grF
  rw [pfx_out (by omega), pfx_out (by omega)]
theorem grnA_out {A : hF_} {f lf : Nat → Int32} {pk m s c a : Nat} {E : Nat → Nat} {rk : Bool} (h : a < pk + 1 ∨ pk + 7 < a) : ∀ t, grnA A f lf pk m s c E rk t a = A a
  | 0 => rfl
  | t + 1 => by
    unfold grnA grS
    rw [up2_row (by omega), grF_out (by omega), grnA_out h t]
theorem grF_row {C : hF_} {f lf : Nat → Int32} {pk m s t : Nat} {en : Nat → Nat} (h : ∀ p, p ≤ s → C (pk + 6) p = nI (rowR f lf m s en t p)) : ∀ p, p ≤ s → grF C f lf pk m s en t (pk + 6) p = nI (rowR f lf m s en (t + 1) p) := by
  intro p hp
  unfold grF
  rw [pfx_out (by omega)]
  by_cases e : p < s
  · rw [pfx_new e]
    unfold rowR
    rw [if_pos e]
  · have e2 : p = s := by omega
    subst e2
    rw [pfx_old (Nat.le_refl _), h p (Nat.le_refl _), rowR_s, rowR_s]
theorem grF_let {C : hF_} {f lf : Nat → Int32} {pk m s t p : Nat} {en : Nat → Nat} (hp : p < m - (t + 1)) : grF C f lf pk m s en t (pk + 7) p = nI (letR lf m (t + 1) p) := by
  unfold grF
  rw [pfx_new hp]
  rfl
theorem grnA_row {A : hF_} {f lf : Nat → Int32} {pk m s c : Nat} {E : Nat → Nat} {rk : Bool} (h : ∀ p, p ≤ s → A (pk + 6) p = nI 0) : ∀ t p, p ≤ s → grnA A f lf pk m s c E rk t (pk + 6) p = nI (rowR f lf m s (fun p => ear E p c 0) t p)
  | 0, p, hp => h p hp
  | t + 1, p, hp => by
    unfold grnA grS
    rw [up2_row (by omega)]
    exact grF_row (grnA_row h t) p hp
theorem grnA_let {A : hF_} {f lf : Nat → Int32} {pk m s c : Nat} {E : Nat → Nat} {rk : Bool} (h : ∀ p, p ≤ m → A (pk + 7) p = nI 0) : ∀ t p, p + t + 1 ≤ m → grnA A f lf pk m s c E rk t (pk + 7) p = nI (letR lf m t p)
  | 0, p, hp => h p (by omega)
  | t + 1, p, hp => by
    unfold grnA grS
    rw [up2_row (by omega)]
    exact grF_let (by omega)
section GR2
variable {k n u : Nat} {sh : hs_} {F : hF_} {R : hR_} {A : hF_} {B : hR_} {pk : Nat} {Q : Option Value → pm_H → Prop} {o r v z s e ze c lb lv lz m : Nat} {E : Nat → Nat}
theorem k_greedyFrom {i : Nat} {rrow rlet : Nat → Nat} (rk : Bool) (hk : isK sh R pk) (hR : R 409 pk = some o) (hF : F 411 pk = nI s) (hp : isP sh F R A o r v z s e ze c E) (hE : okE E c s) (hc : c ≤ 20) (hs : s ≤ 320) (hi : i < m) (hm : m ≤ 120) (hr1 : ∀ p, p ≤ s → A (pk + 6) p = nI (rrow p) ∧ rrow p ≤ m - i) (hr2 : ∀ p, p < i → A (pk + 7) p = nI (rlet p) ∧ rlet p ≤ m - i) :
    rc_ (k + 1) mX4_greedyFrom [.ref pk, .int (nI i), .int (if rk = true then (lwN E rrow c).1 else -1)] (mkh n u sh F R A B) Q ↔ Q (some (.int (gryV A pk i s c E rrow rlet rk))) (mkh n u sh F R A B) := by
  unfold gryV
  cases rk with
  | false =>
    rw [if_neg (by decide), if_neg (fun x => absurd x.1 (by decide))]
    exact k_greedyN hk hR hF hp hs hi hm hr1 hr2
  | true =>
    rw [if_pos rfl]
    rcases lwN_or (E := E) (rr := rrow) c with h | ⟨q, h1, h2, h3, h4⟩
    · rw [h, if_neg (fun x => absurd x.2 (by decide))]
      exact k_greedyN hk hR hF hp hs hi hm hr1 hr2
    · have hst := hE.pst_le (j := q) (by omega)
      have := (hr1 (pst E q) hst).2
      rw [h2, if_pos ⟨rfl, h3⟩]
      dsimp only
      rw [nI_clamp (by omega)]
      exact k_greedyW hk hR hp hE h1 hc (by omega)
theorem l_greedy {rk : Bool} {x1 x2 : Value} (hk : isK sh R pk) (hR : R 409 pk = some o) (hL : R 408 pk = some lb) (hF1 : F 410 pk = nI m) (hF2 : F 411 pk = nI s) (hp : isP sh F R A o r v z s e ze c E) (hE : okE E c s) (hb : isB sh F R lb lv lz m) (hm : m ≤ 120) (hs : s ≤ 320) (hc : c ≤ 20) (hv : v < pk + 1 ∨ pk + 8 < v) (hlv : lv < pk + 1 ∨ pk + 8 < lv) (he : e < pk + 1 ∨ pk + 8 < e) (h6 : ∀ p, p ≤ s → A (pk + 6) p = nI 0) (h7 : ∀ p, p ≤ m → A (pk + 7) p = nI 0) :
    ∀ d t, t + d = m → (rw_ (k + 2) mX4_greedyTotal 14 [.ref pk, x1, x2, .int (if rk = true then nI 1 else nI 0), .int (if t < m then nI (m - 1 - t) else -1)] [] (mkh n u sh F R (grnA A (A v) (A lv) pk m s c E rk t) B) Q ↔ Q (some (.int (grnA A (A v) (A lv) pk m s c E rk m (pk + 1) 0))) (mkh n u sh F R (grnA A (A v) (A lv) pk m s c E rk m) B)) := by
  obtain ⟨h0, ⟨r0, r1, r2, r3, r4, r5, r6, r7⟩, s0, s1, s2, s3, s4, s5, s6, s7⟩ := id hk
  have ho := hp.1
  intro d
  induction d with
  | zero =>
    intro t ht
    have e1 : t = m := by omega
    subst e1
    rw [if_neg (Nat.lt_irrefl t)]
    have g1 : (-1 : Int32) < nI 0 := by decide
    simp only [rX4_greedyTotal_14, rX4_greedyTotal_16, rX4_greedyTotal_62, rX4_greedyTotal_63, rX4_greedyTotal_66, h0, r0, g1, up2_eq, va_rf, eq_self, or_true, true_or, Option.toList_some, Option.toList_none, List.cons_append, List.nil_append, if_true, if_false]
    rw [rX4_greedyTotal_67 s0 (by decide) (by omega) (by omega)]
    simp only [rX4_greedyTotal_68]
  | succ d ih =>
    intro t ht
    have hi : m - 1 - t = m - (t + 1) := by omega
    rw [if_pos (by omega : t < m), hi]
    have hIH := ih (t + 1) (by omega)
    generalize hC : grnA A (A v) (A lv) pk m s c E rk t = C at *
    have hCo : ∀ a, (a < pk + 1 ∨ pk + 7 < a) → C a = A a := fun a ha => by rw [← hC]; exact grnA_out ha t
    have hCr : ∀ p, p ≤ s → C (pk + 6) p = nI (rowR (A v) (A lv) m s (fun p => ear E p c 0) t p) := fun p hp => by rw [← hC]; exact grnA_row h6 t p hp
    have hCl : ∀ p, p + t + 1 ≤ m → C (pk + 7) p = nI (letR (A lv) m t p) := fun p hp => by rw [← hC]; exact grnA_let h7 t p hp
    have hnext : grnA A (A v) (A lv) pk m s c E rk (t + 1) = grS C (A v) (A lv) pk m s c E rk t := by rw [grnA, hC]
    rw [hnext] at hIH
    have g1 : ¬ nI (m - (t + 1)) < nI 0 := nI_nlt (Nat.zero_le _) (by omega)
    simp only [rX4_greedyTotal_14, rX4_greedyTotal_16, rX4_greedyTotal_19, rX4_greedyTotal_20, g1, up2_eq, va_rf, eq_self, or_true, true_or, Option.toList_some, Option.toList_none, List.cons_append, List.nil_append, if_true, if_false]
    have q1 : C v = A v := hCo v (by omega)
    have q2 : C lv = A lv := hCo lv (by omega)
    have hp1 : isP sh F R C o r v z s e ze c E := hp.A (hCo e (by omega))
    rw [rX4_greedyTotal_22 h0, k_followRow (rr := rowR (A v) (A lv) m s (fun p => ear E p c 0) t) hk hR hL hF2 hp1 hE hb (by omega) (by omega) (by omega) hs hCr, q1, q2]
    simp only [rX4_greedyTotal_25, rX4_greedyTotal_26, up2_eq, va_rf, eq_self, or_true, true_or, Option.toList_some, Option.toList_none, List.cons_append, List.nil_append, if_true, if_false]
    have q3 : pfx C (pk + 6) (fun p => nI (nrr (A v) (A lv (m - (t + 1))) (fun p => ear E p c 0) (rowR (A v) (A lv) m s (fun p => ear E p c 0) t) p)) s lv = A lv := by rw [pfx_out (by omega), q2]
    rw [rX4_greedyTotal_28 h0, k_followLetter (rr := letR (A lv) m t) hk hL hb (by omega) (by omega) (by omega) (fun p hp => by rw [pfx_out (by omega)]; exact hCl p (by omega)), q3]
    have q4 : pfx (pfx C (pk + 6) (fun p => nI (nrr (A v) (A lv (m - (t + 1))) (fun p => ear E p c 0) (rowR (A v) (A lv) m s (fun p => ear E p c 0) t) p)) s) (pk + 7) (fun p => nI (nlr (A lv) (A lv (m - (t + 1))) (letR (A lv) m t) p)) (m - (t + 1)) = grF C (A v) (A lv) pk m s (fun p => ear E p c 0) t := rfl
    rw [q4]
    have hrow := grF_row (f := A v) (lf := A lv) (m := m) (en := fun p => ear E p c 0) hCr
    have hrl : ∀ p, rowR (A v) (A lv) m s (fun p => ear E p c 0) (t + 1) p ≤ m - (m - (t + 1)) := fun p => by have := rowR_le (f := A v) (lf := A lv) (m := m) (s := s) (en := fun p => ear E p c 0) (t + 1) p; omega
    have hll : ∀ p, letR (A lv) m (t + 1) p ≤ m - (m - (t + 1)) := fun p => by have := letR_le (lf := A lv) (m := m) (t + 1) p; omega
    have hp6 : isP sh F R (grF C (A v) (A lv) pk m s (fun p => ear E p c 0) t) o r v z s e ze c E := hp.A (by rw [grF_out (by omega), hCo e (by omega)])
    have hdec : nI (m - (t + 1)) + (-1 : Int32) = (if t + 1 < m then nI (m - 1 - (t + 1)) else -1) := by
      by_cases e2 : t + 1 < m
      · rw [if_pos e2, show m - (t + 1) = (m - 1 - (t + 1)) + 1 by omega, pk_m1]
      · rw [if_neg e2, show m - (t + 1) = 0 by omega]
        decide
    have tail : ∀ w : Int32, w = (if rk = true then (lwN E (rowR (A v) (A lv) m s (fun p => ear E p c 0) (t + 1)) c).1 else -1) → (rw_ (k + 2) mX4_greedyTotal 52 [.ref pk, x1, x2, .int (if rk = true then nI 1 else nI 0), .int (nI (m - (t + 1)))] [.int w, .int (nI (m - (t + 1))), .ref pk, .int (nI (m - (t + 1))), .ref (pk + 1)] (mkh n u sh F R (grF C (A v) (A lv) pk m s (fun p => ear E p c 0) t) B) Q ↔ Q (some (.int (grnA A (A v) (A lv) pk m s c E rk m (pk + 1) 0))) (mkh n u sh F R (grnA A (A v) (A lv) pk m s c E rk m) B)) := by
      intro w hw
      subst hw
      rw [rX4_greedyTotal_52 h0, k_greedyFrom (rlet := letR (A lv) m (t + 1)) (m := m) rk hk hR hF2 hp6 hE hc hs (by omega) hm (fun p hp => ⟨hrow p hp, hrl p⟩) (fun p hp => ⟨grF_let hp, hll p⟩)]
      simp only [up2_eq, va_rf, eq_self, or_true, true_or, Option.toList_some, Option.toList_none, List.cons_append, List.nil_append, if_true, if_false]
      rw [rX4_greedyTotal_55 s0 (by omega) (by omega)]
      simp only [rX4_greedyTotal_56, rX4_greedyTotal_59, hdec]
      exact hIH
    simp only [rX4_greedyTotal_31, rX4_greedyTotal_32, rX4_greedyTotal_35, rX4_greedyTotal_37, rX4_greedyTotal_38, rX4_greedyTotal_40, h0, r0, up2_eq, va_rf, eq_self, or_true, true_or, Option.toList_some, Option.toList_none, List.cons_append, List.nil_append, if_true, if_false]
    cases rk with
    | false =>
      simp only [rX4_greedyTotal_41, rX4_greedyTotal_51, Bool.false_eq_true, up2_eq, va_rf, eq_self, or_true, true_or, Option.toList_some, Option.toList_none, List.cons_append, List.nil_append, if_true, if_false]
      simp only [Bool.false_eq_true, up2_eq, va_rf, eq_self, or_true, true_or, Option.toList_some, Option.toList_none, List.cons_append, List.nil_append, if_true, if_false] at tail
      exact tail _ rfl
    | true =>
      have g4 : ¬ nI 1 = nI 0 := by decide
      simp only [rX4_greedyTotal_41, rX4_greedyTotal_44, g4, up2_eq, va_rf, eq_self, or_true, true_or, Option.toList_some, Option.toList_none, List.cons_append, List.nil_append, if_true, if_false]
      rw [rX4_greedyTotal_45 h0, k_longest hk hR hp6 hE hs (fun p hp => ⟨hrow p hp, by have := hrl p; omega⟩)]
      simp only [rX4_greedyTotal_48, up2_eq, va_rf, eq_self, or_true, true_or, Option.toList_some, Option.toList_none, List.cons_append, List.nil_append, if_true, if_false]
      simp only [up2_eq, va_rf, eq_self, or_true, true_or, Option.toList_some, Option.toList_none, List.cons_append, List.nil_append, if_true, if_false] at tail
      exact tail _ rfl
theorem k_greedyTotal {rk : Bool} (hk : isK sh R pk) (hp : isP sh F R A o r v z s e ze c E) (hE : okE E c s) (hb : isB sh F R lb lv lz m) (hm : m ≤ 120) (hs : s ≤ 320) (hc : c ≤ 20) (hv : v < pk + 1 ∨ pk + 8 < v) (hlv : lv < pk + 1 ∨ pk + 8 < lv) (he : e < pk + 1 ∨ pk + 8 < e) :
    rc_ (k + 2) mX4_greedyTotal [.ref pk, .ref lb, .ref o, .int (if rk = true then nI 1 else nI 0)] (mkh n u sh F R A B) Q ↔ Q (some (.int (grnA (begA A pk m) (A v) (A lv) pk m s c E rk m (pk + 1) 0))) (mkh n u sh (begF F pk m s) (begR R pk lb o) (grnA (begA A pk m) (A v) (A lv) pk m s c E rk m) B) := by
  have h0 := hk.1
  rw [eX4_greedyTotal]
  simp only [rX4_greedyTotal_0, rX4_greedyTotal_1, rX4_greedyTotal_1_n, rX4_greedyTotal_2, rX4_greedyTotal_2_n]
  rw [rX4_greedyTotal_3 h0, k_begin hk hp hb hm hs]
  have hm1 : begF F pk m s 410 pk = nI m := by unfold begF; rw [up2_k (by decide), up2_eq]
  have hs1 : begF F pk m s 411 pk = nI s := by unfold begF; rw [up2_eq]
  have hR1 : begR R pk lb o 409 pk = some o := by unfold begR; rw [up2_eq]
  have hL1 : begR R pk lb o 408 pk = some lb := by unfold begR; rw [up2_k (by decide), up2_eq]
  have hk1 : isK sh (begR R pk lb o) pk := (hk.R (by omega)).R (by omega)
  have hp1 : isP sh (begF F pk m s) (begR R pk lb o) (begA A pk m) o r v z s e ze c E := (((((hp.F (by decide) (by decide)).F (by decide) (by decide)).R (by decide) (by decide) (by decide)).R (by decide) (by decide) (by decide)).A (begA_out (by omega)))
  have hb1 : isB sh (begF F pk m s) (begR R pk lb o) lb lv lz m := (((hb.F (by decide)).F (by decide)).R (by decide)).R (by decide)
  simp only [rX4_greedyTotal_6, rX4_greedyTotal_7, rX4_greedyTotal_10, rX4_greedyTotal_11, rX4_greedyTotal_12, h0, hm1, up2_eq, va_rf, eq_self, or_true, true_or, Option.toList_some, Option.toList_none, List.cons_append, List.nil_append, if_true, if_false]
  have hdec : nI m - nI 1 = (if 0 < m then nI (m - 1 - 0) else -1) := by
    by_cases e2 : 0 < m
    · rw [if_pos e2, pk_sub (by omega)]
      rfl
    · rw [if_neg e2, show m = 0 by omega]
      decide
  rw [hdec]
  have hv1 : begA A pk m v = A v := begA_out (by omega)
  have hv2 : begA A pk m lv = A lv := begA_out (by omega)
  have := l_greedy (k := k) (n := n) (u := u) (B := B) (Q := Q) (rk := rk) (x1 := .ref lb) (x2 := .ref o) hk1 hR1 hL1 hm1 hs1 hp1 hE hb1 hm hs hc hv hlv he (fun p hp => by unfold begA; rw [pfx_out (by omega), pfx_new (by omega)]) (fun p hp => by unfold begA; rw [pfx_new (by omega)]) m 0 (by omega)
  rw [hv1, hv2] at this
  exact this
end GR2
