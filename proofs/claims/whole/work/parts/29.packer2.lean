/-! ===== the packer: begin, plan, what it tells ===== -/
theorem isB.F {sh : hs_} {F : hF_} {R : hR_} {o v z s q a : Nat} {x : Int32} (h : isB sh F R o v z s) (hq : 101 ≠ q) : isB sh (up2 F q a x) R o v z s := ⟨h.1, h.2.1, h.2.2.1, h.2.2.2.1, by rw [up2_k hq]; exact h.2.2.2.2.1, h.2.2.2.2.2⟩
theorem isB.R {sh : hs_} {F : hF_} {R : hR_} {o v z s q a : Nat} {x : Option Nat} (h : isB sh F R o v z s) (hq : 100 ≠ q) : isB sh F (up2 R q a x) o v z s := ⟨h.1, by rw [up2_k hq]; exact h.2.1, h.2.2.1, h.2.2.2.1, h.2.2.2.2.1, h.2.2.2.2.2⟩
theorem isP.F {sh : hs_} {F : hF_} {R : hR_} {A : hF_} {o r v z s e ze c q a : Nat} {E : Nat → Nat} {x : Int32} (h : isP sh F R A o r v z s e ze c E) (h1 : 101 ≠ q) (h2 : 502 ≠ q) : isP sh (up2 F q a x) R A o r v z s e ze c E := by
  obtain ⟨g1, g2, g3, g4, g5, g6, g7, g8, g9⟩ := h
  exact ⟨g1, g2, g3, g4, g5, by rw [up2_k h2]; exact g6, g7, g8, g9.F h1⟩
theorem isP.R {sh : hs_} {F : hF_} {R : hR_} {A : hF_} {o r v z s e ze c q a : Nat} {E : Nat → Nat} {x : Option Nat} (h : isP sh F R A o r v z s e ze c E) (h1 : 100 ≠ q) (h2 : 500 ≠ q) (h3 : 501 ≠ q) : isP sh F (up2 R q a x) A o r v z s e ze c E := by
  obtain ⟨g1, g2, g3, g4, g5, g6, g7, g8, g9⟩ := h
  exact ⟨g1, by rw [up2_k h2]; exact g2, by rw [up2_k h3]; exact g3, g4, g5, g6, g7, g8, g9.R h1⟩
theorem isK.R {sh : hs_} {R : hR_} {pk q a : Nat} {x : Option Nat} (h : isK sh R pk) (hq : q < 400 ∨ 407 < q) : isK sh (up2 R q a x) pk := by
  obtain ⟨h0, ⟨r0, r1, r2, r3, r4, r5, r6, r7⟩, hs⟩ := h
  exact ⟨h0, ⟨by rw [up2_k (by omega)]; exact r0, by rw [up2_k (by omega)]; exact r1, by rw [up2_k (by omega)]; exact r2, by rw [up2_k (by omega)]; exact r3, by rw [up2_k (by omega)]; exact r4, by rw [up2_k (by omega)]; exact r5, by rw [up2_k (by omega)]; exact r6, by rw [up2_k (by omega)]; exact r7⟩, hs⟩
theorem k_fillP {k n u : Nat} {sh : hs_} {F : hF_} {R : hR_} {A : hF_} {B : hR_} {a z : Nat} {x : Int32} {Q : Option Value → pm_H → Prop} (ha : sh a = some (1, 0, z)) (hz : z < 2 ^ 30) :
    rc_ k mJ_fill [.ref a, .int x] (mkh n u sh F R A B) Q ↔ Q none (mkh n u sh F R (pfx A a (fun _ => x) z) B) := k_fill ha hz
def begF (F : hF_) (pk m s : Nat) : hF_ := up2 (up2 F 410 pk (nI m)) 411 pk (nI s)
def begR (R : hR_) (pk lb o : Nat) : hR_ := up2 (up2 R 408 pk (some lb)) 409 pk (some o)
def begA (A : hF_) (pk m : Nat) : hF_ := pfx (pfx (up2 (up2 A (pk + 1) m (nI 0)) (pk + 2) m (nI 0)) (pk + 6) (fun _ => nI 0) 321) (pk + 7) (fun _ => nI 0) 121
theorem begA_out {A : hF_} {pk m a : Nat} (h : a < pk + 1 ∨ pk + 7 < a) : begA A pk m a = A a := by
  unfold begA
  rw [pfx_out (by omega), pfx_out (by omega), up2_row (by omega), up2_row (by omega)]
section PK2
variable {k n u : Nat} {sh : hs_} {F : hF_} {R : hR_} {A : hF_} {B : hR_} {pk : Nat} {Q : Option Value → pm_H → Prop} {o r v z s e ze c lb lv lz m : Nat} {E : Nat → Nat}
theorem k_begin (hk : isK sh R pk) (hp : isP sh F R A o r v z s e ze c E) (hb : isB sh F R lb lv lz m) (hm : m ≤ 120) (hs : s ≤ 320) :
    rc_ (k + 1) mX4_begin [.ref pk, .ref lb, .ref o] (mkh n u sh F R A B) Q ↔ Q none (mkh n u sh (begF F pk m s) (begR R pk lb o) (begA A pk m) B) := by
  obtain ⟨h0, ⟨r0, r1, r2, r3, r4, r5, r6, r7⟩, s0, s1, s2, s3, s4, s5, s6, s7⟩ := id hk
  have ho := hp.1
  have hro := hp.2.1
  have hrb := hp.2.2.2.2.2.2.2.2
  have hz5 := hrb.2.2.2.2.1
  have hz6 := hb.2.2.2.2.1
  rw [eX4_begin]
  simp only [rX4_begin_0, rX4_begin_1, rX4_begin_1_n, rX4_begin_2, rX4_begin_5, rX4_begin_6, rX4_begin_6_n, rX4_begin_7, rX4_begin_10, rX4_begin_11, rX4_begin_12, rX4_begin_15, rX4_begin_18, h0, hb.1, hz6, up2_eq, va_rf, eq_self, or_true, true_or, Option.toList_some, Option.toList_none, List.cons_append, List.nil_append, if_true, if_false, up2_k, ne_eq, not_false_eq_true, Nat.reduceEqDiff, reduceCtorEq]
  rw [rX4_begin_20, nI_min (by omega) (by omega), Nat.min_eq_left hm]
  simp only [rX4_begin_23, rX4_begin_26, rX4_begin_27, rX4_begin_28, rX4_begin_31, rX4_begin_34, rX4_begin_37, h0, ho, hro, hrb.1, hz5, up2_eq, va_rf, eq_self, or_true, true_or, Option.toList_some, Option.toList_none, List.cons_append, List.nil_append, if_true, if_false, up2_k, ne_eq, not_false_eq_true, Nat.reduceEqDiff, reduceCtorEq]
  rw [rX4_begin_40, nI_min (by omega) (by omega), Nat.min_eq_left hs]
  simp only [rX4_begin_43, rX4_begin_46, rX4_begin_47, rX4_begin_50, rX4_begin_51, rX4_begin_54, h0, r0, up2_eq, va_rf, eq_self, or_true, true_or, Option.toList_some, Option.toList_none, List.cons_append, List.nil_append, if_true, if_false, up2_k, ne_eq, not_false_eq_true, Nat.reduceEqDiff, reduceCtorEq]
  rw [rX4_begin_55 s0 (by omega) (by omega)]
  simp only [rX4_begin_56, rX4_begin_57, rX4_begin_60, rX4_begin_61, rX4_begin_64, h0, r1, up2_eq, va_rf, eq_self, or_true, true_or, Option.toList_some, Option.toList_none, List.cons_append, List.nil_append, if_true, if_false, up2_k, ne_eq, not_false_eq_true, Nat.reduceEqDiff, reduceCtorEq]
  rw [rX4_begin_65 s1 (by omega) (by omega)]
  simp only [rX4_begin_66, rX4_begin_67, rX4_begin_70, h0, r5, up2_eq, va_rf, eq_self, or_true, true_or, Option.toList_some, Option.toList_none, List.cons_append, List.nil_append, if_true, if_false, up2_k, ne_eq, not_false_eq_true, Nat.reduceEqDiff, reduceCtorEq]
  rw [rX4_begin_71, k_fillP s5 (by omega)]
  simp only [rX4_begin_74, rX4_begin_75, rX4_begin_78, h0, r6, up2_eq, va_rf, eq_self, or_true, true_or, Option.toList_some, Option.toList_none, List.cons_append, List.nil_append, if_true, if_false, up2_k, ne_eq, not_false_eq_true, Nat.reduceEqDiff, reduceCtorEq]
  rw [rX4_begin_79, k_fillP s6 (by omega)]
  simp only [rX4_begin_82, up2_eq, va_rf, eq_self, or_true, true_or, Option.toList_some, Option.toList_none, List.cons_append, List.nil_append, if_true, if_false]
  rfl
theorem k_plan {rk : Bool} (hk : isK sh R pk) (hp : isP sh F R A o r v z s e ze c E) (hE : okE E c s) (hb : isB sh F R lb lv lz m) (hm : m ≤ 120) (hs : s ≤ 320) (hc : c ≤ 20) (hv : v < pk + 1 ∨ pk + 8 < v) (hlv : lv < pk + 1 ∨ pk + 8 < lv) (he : e < pk + 1 ∨ pk + 8 < e) :
    rc_ (k + 2) mX4_plan [.ref pk, .ref lb, .ref o, .int (if rk = true then nI 1 else nI 0)] (mkh n u sh F R A B) Q ↔ Q none (mkh n u sh (begF F pk m s) (begR R pk lb o) (plnA (begA A pk m) (A v) (A lv) pk m s c E rk m) B) := by
  have h0 := hk.1
  rw [eX4_plan]
  simp only [rX4_plan_0, rX4_plan_1, rX4_plan_1_n, rX4_plan_2, rX4_plan_2_n]
  rw [rX4_plan_3 h0, k_begin hk hp hb hm hs]
  have hm1 : begF F pk m s 410 pk = nI m := by unfold begF; rw [up2_k (by decide), up2_eq]
  have hs1 : begF F pk m s 411 pk = nI s := by unfold begF; rw [up2_eq]
  have hR1 : begR R pk lb o 409 pk = some o := by unfold begR; rw [up2_eq]
  have hL1 : begR R pk lb o 408 pk = some lb := by unfold begR; rw [up2_k (by decide), up2_eq]
  have hk1 : isK sh (begR R pk lb o) pk := (hk.R (by omega)).R (by omega)
  have hp1 : isP sh (begF F pk m s) (begR R pk lb o) (begA A pk m) o r v z s e ze c E := (((((hp.F (by decide) (by decide)).F (by decide) (by decide)).R (by decide) (by decide) (by decide)).R (by decide) (by decide) (by decide)).A (begA_out (by omega)))
  have hb1 : isB sh (begF F pk m s) (begR R pk lb o) lb lv lz m := (((hb.F (by decide)).F (by decide)).R (by decide)).R (by decide)
  simp only [rX4_plan_6, rX4_plan_7, rX4_plan_10, rX4_plan_11, rX4_plan_12, h0, hm1, up2_eq, va_rf, eq_self, or_true, true_or, Option.toList_some, Option.toList_none, List.cons_append, List.nil_append, if_true, if_false]
  have hdec : nI m - nI 1 = (if 0 < m then nI (m - 1 - 0) else -1) := by
    by_cases e2 : 0 < m
    · rw [if_pos e2, pk_sub (by omega)]
      rfl
    · rw [if_neg e2, show m = 0 by omega]
      decide
  rw [hdec]
  have hv1 : begA A pk m v = A v := begA_out (by omega)
  have hv2 : begA A pk m lv = A lv := begA_out (by omega)
  have := l_plan (k := k) (n := n) (u := u) (B := B) (Q := Q) (rk := rk) (x1 := .ref lb) (x2 := .ref o) hk1 hR1 hL1 hm1 hs1 hp1 hE hb1 hm hs hc hv hlv he (fun p hp => by unfold begA; rw [pfx_out (by omega), pfx_new (by omega)]) (fun p hp => by unfold begA; rw [pfx_new (by omega)]) m 0 (by omega)
  rw [hv1, hv2] at this
  exact this
theorem k_least {j : Nat} (hk : isK sh R pk) (hF : F 410 pk = nI m) (hm : m ≤ 120) (hj : j ≤ m) : rc_ k mX4_least [.ref pk, .int (nI j)] (mkh n u sh F R A B) Q ↔ Q (some (.int (A (pk + 1) j))) (mkh n u sh F R A B) := by
  obtain ⟨h0, ⟨r0, r1, r2, r3, r4, r5, r6, r7⟩, s0, s1, s2, s3, s4, s5, s6, s7⟩ := id hk
  rw [eX4_least]
  have g0 : ¬ nI j < nI 0 := nI_nlt (Nat.zero_le _) (by omega)
  have g1 : ¬ nI m < nI j := nI_nlt hj (by omega)
  simp only [rX4_least_0, rX4_least_1, rX4_least_4, rX4_least_5, rX4_least_6, rX4_least_9, rX4_least_12, rX4_least_13, rX4_least_16, h0, hF, r0, g0, g1, up2_eq, va_rf, eq_self, or_true, true_or, Option.toList_some, Option.toList_none, List.cons_append, List.nil_append, if_true, if_false]
  rw [rX4_least_17 s0 (by decide) (by omega) (by omega)]
  simp only [rX4_least_0, rX4_least_1, rX4_least_4, rX4_least_5, rX4_least_6, rX4_least_9, rX4_least_12, rX4_least_13, rX4_least_16, rX4_least_17, rX4_least_18, rX4_least_21, rX4_least_22]
theorem k_kindAt {j : Nat} (hk : isK sh R pk) (hF : F 410 pk = nI m) (hm : m ≤ 120) (hj : j < m) : rc_ k mX4_kindAt [.ref pk, .int (nI j)] (mkh n u sh F R A B) Q ↔ Q (some (.int (A (pk + 3) j))) (mkh n u sh F R A B) := by
  obtain ⟨h0, ⟨r0, r1, r2, r3, r4, r5, r6, r7⟩, s0, s1, s2, s3, s4, s5, s6, s7⟩ := id hk
  rw [eX4_kindAt]
  have g0 : ¬ nI j < nI 0 := nI_nlt (Nat.zero_le _) (by omega)
  have g1 : ¬ nI m ≤ nI j := nI_ge hj (by omega)
  simp only [rX4_kindAt_0, rX4_kindAt_1, rX4_kindAt_4, rX4_kindAt_5, rX4_kindAt_6, rX4_kindAt_9, rX4_kindAt_12, rX4_kindAt_13, rX4_kindAt_16, h0, hF, r2, g0, g1, up2_eq, va_rf, eq_self, or_true, true_or, Option.toList_some, Option.toList_none, List.cons_append, List.nil_append, if_true, if_false]
  rw [rX4_kindAt_17 s2 (by decide) (by omega) (by omega)]
  simp only [rX4_kindAt_0, rX4_kindAt_1, rX4_kindAt_4, rX4_kindAt_5, rX4_kindAt_6, rX4_kindAt_9, rX4_kindAt_12, rX4_kindAt_13, rX4_kindAt_16, rX4_kindAt_17, rX4_kindAt_18, rX4_kindAt_21, rX4_kindAt_22]
theorem k_placeAt {j : Nat} (hk : isK sh R pk) (hF : F 410 pk = nI m) (hm : m ≤ 120) (hj : j < m) : rc_ k mX4_placeAt [.ref pk, .int (nI j)] (mkh n u sh F R A B) Q ↔ Q (some (.int (A (pk + 4) j))) (mkh n u sh F R A B) := by
  obtain ⟨h0, ⟨r0, r1, r2, r3, r4, r5, r6, r7⟩, s0, s1, s2, s3, s4, s5, s6, s7⟩ := id hk
  rw [eX4_placeAt]
  have g0 : ¬ nI j < nI 0 := nI_nlt (Nat.zero_le _) (by omega)
  have g1 : ¬ nI m ≤ nI j := nI_ge hj (by omega)
  simp only [rX4_placeAt_0, rX4_placeAt_1, rX4_placeAt_4, rX4_placeAt_5, rX4_placeAt_6, rX4_placeAt_9, rX4_placeAt_12, rX4_placeAt_13, rX4_placeAt_16, h0, hF, r3, g0, g1, up2_eq, va_rf, eq_self, or_true, true_or, Option.toList_some, Option.toList_none, List.cons_append, List.nil_append, if_true, if_false]
  rw [rX4_placeAt_17 s3 (by decide) (by omega) (by omega)]
  simp only [rX4_placeAt_0, rX4_placeAt_1, rX4_placeAt_4, rX4_placeAt_5, rX4_placeAt_6, rX4_placeAt_9, rX4_placeAt_12, rX4_placeAt_13, rX4_placeAt_16, rX4_placeAt_17, rX4_placeAt_18, rX4_placeAt_21, rX4_placeAt_22]
theorem k_lengthAt {j : Nat} (hk : isK sh R pk) (hF : F 410 pk = nI m) (hm : m ≤ 120) (hj : j < m) : rc_ k mX4_lengthAt [.ref pk, .int (nI j)] (mkh n u sh F R A B) Q ↔ Q (some (.int (A (pk + 5) j))) (mkh n u sh F R A B) := by
  obtain ⟨h0, ⟨r0, r1, r2, r3, r4, r5, r6, r7⟩, s0, s1, s2, s3, s4, s5, s6, s7⟩ := id hk
  rw [eX4_lengthAt]
  have g0 : ¬ nI j < nI 0 := nI_nlt (Nat.zero_le _) (by omega)
  have g1 : ¬ nI m ≤ nI j := nI_ge hj (by omega)
  simp only [rX4_lengthAt_0, rX4_lengthAt_1, rX4_lengthAt_4, rX4_lengthAt_5, rX4_lengthAt_6, rX4_lengthAt_9, rX4_lengthAt_12, rX4_lengthAt_13, rX4_lengthAt_16, h0, hF, r4, g0, g1, up2_eq, va_rf, eq_self, or_true, true_or, Option.toList_some, Option.toList_none, List.cons_append, List.nil_append, if_true, if_false]
  rw [rX4_lengthAt_17 s4 (by decide) (by omega) (by omega)]
  simp only [rX4_lengthAt_0, rX4_lengthAt_1, rX4_lengthAt_4, rX4_lengthAt_5, rX4_lengthAt_6, rX4_lengthAt_9, rX4_lengthAt_12, rX4_lengthAt_13, rX4_lengthAt_16, rX4_lengthAt_17, rX4_lengthAt_18, rX4_lengthAt_21, rX4_lengthAt_22]
end PK2
