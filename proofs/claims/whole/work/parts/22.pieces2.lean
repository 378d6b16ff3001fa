/-! ===== pieces: append, dropLast, making, copying ===== -/
section PIE
variable {k n u : Nat} {sh : hs_} {F : hF_} {R : hR_} {A : hF_} {B : hR_} {o : Nat} {Q : Option Value → pm_H → Prop} {r v z s e ze c : Nat} {E : Nat → Nat}
theorem k_Pieces_append {o2 v2 z2 s2 st cnt : Nat} (hp : isP sh F R A o r v z s e ze c E) (hb2 : isB sh F R o2 v2 z2 s2) (hc : c < ze) (hst : st + cnt ≤ s2) (hz : s + cnt ≤ z) (hal : v2 = v → st + cnt ≤ s) (hy : ∀ j, j < s2 → A v2 j &&& nI 255 = A v2 j) :
    rc_ (k + 2) mX5_append [.ref o, .ref o2, .int (nI st), .int (nI cnt)] (mkh n u sh F R A B) Q ↔ Q none (mkh n u sh (up2 (up2 F 101 r (nI (s + cnt))) 502 o (nI (c + 1))) R (up2 (acp A v s v2 st cnt) e c (nI (s + cnt))) B) := by
  obtain ⟨h1, h2, h3, h4, h5, h6, h7, h8, h9⟩ := hp
  rw [eX5_append]
  have h10 : ¬ nI ze ≤ nI c := nI_ge hc (by omega)
  simp only [rX5_append_0, rX5_append_1, rX5_append_4, rX5_append_5, h1, h3, h6, up2_eq, va_rf, eq_self, or_true, true_or, Option.toList_some, Option.toList_none, List.cons_append, List.nil_append, if_true, if_false]
  rw [rX5_append_8 h4]
  simp only [rX5_append_9, rX5_append_12, rX5_append_13, rX5_append_16, rX5_append_16_n, rX5_append_17, rX5_append_18, h10, h1, h2, up2_eq, va_rf, eq_self, or_true, true_or, Option.toList_some, Option.toList_none, List.cons_append, List.nil_append, if_true, if_false]
  rw [rX5_append_19 h9.1, k_Bytes_append h9 hb2 hst hz hal hy]
  simp only [rX5_append_22, rX5_append_23, rX5_append_26, rX5_append_27, rX5_append_30, rX5_append_31, rX5_append_34, h1, h2, h3, h6, h9.1, up2_eq, va_rf, eq_self, or_true, true_or, Option.toList_some, Option.toList_none, List.cons_append, List.nil_append, if_true, if_false, up2_k, ne_eq, not_false_eq_true, Nat.reduceEqDiff, reduceCtorEq]
  rw [rX5_append_37 h4 hc (by omega)]
  simp only [rX5_append_38, rX5_append_39, rX5_append_40, rX5_append_43, rX5_append_44, rX5_append_45, rX5_append_48, h1, h6, nI_add, up2_eq, va_rf, eq_self, or_true, true_or, Option.toList_some, Option.toList_none, List.cons_append, List.nil_append, if_true, if_false, up2_k, ne_eq, not_false_eq_true, Nat.reduceEqDiff, reduceCtorEq]
theorem k_Pieces_dropLast (hp : isP sh F R A o r v z s e ze (c + 1) E) (hE : okE E (c + 1) s) :
    rc_ (k + 1) mX5_dropLast [.ref o] (mkh n u sh F R A B) Q ↔ Q none (mkh n u sh (up2 (up2 F 502 o (nI c)) 101 r (nI (pst E c))) R A B) := by
  have hp2 : isP sh (up2 F 502 o (nI c)) R A o r v z s e ze c E := by
    obtain ⟨h1, h2, h3, h4, h5, h6, h7, h8, h9⟩ := hp
    exact ⟨h1, h2, h3, h4, h5, up2_eq, by omega, fun j hj => h8 j (by omega), h9.1, h9.2.1, h9.2.2.1, h9.2.2.2.1, by rw [up2_k (by decide)]; exact h9.2.2.2.2.1, h9.2.2.2.2.2⟩
  have hle := hE.pst_le (j := c) (by omega)
  obtain ⟨h1, h2, h3, h4, h5, h6, h7, h8, h9⟩ := hp
  rw [eX5_dropLast]
  have h10 : ¬ nI (c + 1) ≤ nI 0 := nI_ge (by omega) (by omega)
  have h11 : nI (c + 1) - nI 1 = nI c := by rw [pk_sub (by omega)]; rfl
  simp only [rX5_dropLast_0, rX5_dropLast_1, rX5_dropLast_4, rX5_dropLast_7, rX5_dropLast_8, rX5_dropLast_9, rX5_dropLast_12, rX5_dropLast_13, rX5_dropLast_14, rX5_dropLast_17, rX5_dropLast_18, rX5_dropLast_21, rX5_dropLast_22, rX5_dropLast_23, h1, h2, h6, h10, h11, up2_eq, va_rf, eq_self, or_true, true_or, Option.toList_some, Option.toList_none, List.cons_append, List.nil_append, if_true, if_false, up2_k, ne_eq, not_false_eq_true, Nat.reduceEqDiff, reduceCtorEq]
  rw [rX5_dropLast_26 h1, k_Pieces_start hp2 (Nat.le_refl c)]
  simp only [up2_eq, va_rf, eq_self, or_true, true_or, Option.toList_some, Option.toList_none, List.cons_append, List.nil_append, if_true, if_false]
  rw [rX5_dropLast_29 h9.1, k_Bytes_shorten hp2.2.2.2.2.2.2.2.2 hle]
  simp only [rX5_dropLast_32, up2_eq, va_rf, eq_self, or_true, true_or, Option.toList_some, Option.toList_none, List.cons_append, List.nil_append, if_true, if_false]
theorem k_Pieces_init (ho : sh o = some (0, 5, 0)) (hlt : o < n) (hz : z ≤ 134217728) (hze : ze ≤ 134217728) :
    rc_ (k + 2) mX5_init [.ref o, .int (nI z), .int (nI ze)] (mkh n u sh F R A B) Q ↔ Q none (mkh (n + 3) (u + 2 + z + ze) (up1 (up1 (up1 sh n (some (0, 1, 0))) (n + 1) (some (1, 0, z))) (n + 2) (some (1, 0, ze))) (zap F n 0) (up2 (up2 (up2 (zap R n none) 100 n (some (n + 1))) 500 o (some n)) 501 o (some (n + 2))) (up1 (up1 A (n + 1) (fun _ => 0)) (n + 2) (fun _ => 0)) B) := by
  rw [eX5_init]
  simp only [rX5_init_0, rX5_init_1, rX5_init_4, rX5_init_5, rX5_init_8, rX5_init_9]
  rw [rX5_init_10, k_Bytes_init up1_eq (by omega) hz]
  have h1 : (up1 (up1 sh n (some (0, 1, 0))) (n + 1) (some (1, 0, z))) o = some (0, 5, 0) := by rw [up1_ne (by omega), up1_ne (by omega)]; exact ho
  have hm : (if nI ze < nI 0 then nI 0 else nI ze) = nI ze := if_neg (nI_nlt (Nat.zero_le ze) (by omega))
  simp only [rX5_init_13, rX5_init_16, rX5_init_17, rX5_init_18, rX5_init_19, h1, hm, up2_eq, va_rf, eq_self, or_true, true_or, Option.toList_some, Option.toList_none, List.cons_append, List.nil_append, if_true, if_false]
  rw [rX5_init_22 hze]
  have h2 : (up1 (up1 (up1 sh n (some (0, 1, 0))) (n + 1) (some (1, 0, z))) (n + 1 + 1) (some (1, 0, ze))) o = some (0, 5, 0) := by rw [up1_ne (by omega)]; exact h1
  simp only [rX5_init_24, rX5_init_27, h2, up2_eq, va_rf, eq_self, or_true, true_or, Option.toList_some, Option.toList_none, List.cons_append, List.nil_append, if_true, if_false]
end PIE
theorem l_fill {k n u : Nat} {sh : hs_} {F : hF_} {R : hR_} {A : hF_} {B : hR_} {a z : Nat} {x : Int32} {Q : Option Value → pm_H → Prop} (ha : sh a = some (1, 0, z)) (hz : z < 2 ^ 30) :
    ∀ d i, i + d = z → (rw_ k mJ_fill 5 [.ref a, .int x, .int (nI i), .int (nI z)] [] (mkh n u sh F R (fun q j => if q = a ∧ j < i then x else A q j) B) Q ↔ Q none (mkh n u sh F R (fun q j => if q = a ∧ j < z then x else A q j) B)) := by
  intro d
  induction d with
  | zero =>
    intro i hi
    have e : i = z := by omega
    subst e
    have h1 : nI i ≤ nI i := nI_le (Nat.le_refl _) (by omega)
    simp only [rJ_fill_5, rJ_fill_6, rJ_fill_7, rJ_fill_20, h1, up2_eq, va_rf, eq_self, or_true, true_or, Option.toList_some, Option.toList_none, List.cons_append, List.nil_append, if_true, if_false]
  | succ d ih =>
    intro i hi
    have h1 : ¬ nI z ≤ nI i := nI_ge (by omega) (by omega)
    simp only [rJ_fill_5, rJ_fill_6, rJ_fill_7, rJ_fill_10, rJ_fill_10_n, rJ_fill_11, rJ_fill_12, h1, up2_eq, va_rf, eq_self, or_true, true_or, Option.toList_some, Option.toList_none, List.cons_append, List.nil_append, if_true, if_false]
    rw [rJ_fill_13 ha (by omega) (by omega)]
    simp only [rJ_fill_14, rJ_fill_17, nI_add]
    have e : up2 (fun q j => if q = a ∧ j < i then x else A q j) a i x = (fun q j => if q = a ∧ j < i + 1 then x else A q j) := by
      funext q j
      unfold up2
      dsimp only
      by_cases hq : q = a
      · subst hq
        by_cases hj : j = i
        · subst hj; simp
        · rw [if_pos rfl, if_neg hj]
          by_cases hl : j < i
          · rw [if_pos ⟨rfl, hl⟩, if_pos ⟨rfl, by omega⟩]
          · rw [if_neg (by omega), if_neg (by omega)]
      · rw [if_neg hq, if_neg (fun h => hq h.1), if_neg (fun h => hq h.1)]
    rw [e]
    exact ih (i + 1) (by omega)
theorem k_fill {k n u : Nat} {sh : hs_} {F : hF_} {R : hR_} {A : hF_} {B : hR_} {a z : Nat} {x : Int32} {Q : Option Value → pm_H → Prop} (ha : sh a = some (1, 0, z)) (hz : z < 2 ^ 30) :
    rc_ k mJ_fill [.ref a, .int x] (mkh n u sh F R A B) Q ↔ Q none (mkh n u sh F R (fun q j => if q = a ∧ j < z then x else A q j) B) := by
  rw [eJ_fill]
  simp only [rJ_fill_0, rJ_fill_1, rJ_fill_2, rJ_fill_2_n]
  rw [rJ_fill_3 ha]
  simp only [rJ_fill_4]
  have h := l_fill (k := k) (n := n) (u := u) (F := F) (R := R) (A := A) (B := B) (x := x) (Q := Q) ha hz z 0 (by omega)
  have e : (fun q j => if q = a ∧ j < 0 then x else A q j) = A := by
    funext q j
    rw [if_neg (by omega)]
  rw [e] at h
  exact h
theorem l_alike {k n u : Nat} {sh : hs_} {F : hF_} {R : hR_} {A : hF_} {B : hR_} {o v z s o2 v2 z2 s2 h t m0 m : Nat} {Q : Option Value → pm_H → Prop} (hb : isB sh F R o v z s) (hb2 : isB sh F R o2 v2 z2 s2) (hh : h ≤ s) (ht : t ≤ s2) (hm0 : m0 < 2 ^ 30) (hm : m = min m0 (min (s - h) (s2 - t))) :
    ∀ d i, i + d = m → (∀ j, j < i → A v (h + j) = A v2 (t + j)) → (rw_ k mX1_alike 13 [.ref o, .int (nI h), .ref o2, .int (nI t), .int (nI m0), .int (nI i)] [] (mkh n u sh F R A B) Q ↔ Q (some (.int (nI (cpl (fun j => A v (h + j)) (fun j => A v2 (t + j)) m)))) (mkh n u sh F R A B)) := by
  obtain ⟨g1, g2, g3, g4, g5, g6⟩ := hb
  obtain ⟨q1, q2, q3, q4, q5, q6⟩ := hb2
  intro d
  induction d with
  | zero =>
    intro i hi hj
    rw [cpl_uniq (c := i) (by omega) hj (fun h => absurd h (by omega))]
    by_cases c1 : m0 ≤ i
    · have h1 : nI m0 ≤ nI i := nI_le c1 (by omega)
      simp only [rX1_alike_13, rX1_alike_15, rX1_alike_17, rX1_alike_69, rX1_alike_71, h1, up2_eq, va_rf, eq_self, or_true, true_or, Option.toList_some, Option.toList_none, List.cons_append, List.nil_append, if_true, if_false]
    · have h1 : ¬ nI m0 ≤ nI i := nI_ge (by omega) (by omega)
      by_cases c2 : s ≤ h + i
      · have h2 : nI s ≤ nI (h + i) := nI_le c2 (by omega)
        simp only [rX1_alike_13, rX1_alike_15, rX1_alike_17, rX1_alike_20, rX1_alike_21, rX1_alike_23, rX1_alike_24, rX1_alike_25, rX1_alike_28, rX1_alike_69, rX1_alike_71, h1, h2, g1, g5, nI_add, up2_eq, va_rf, eq_self, or_true, true_or, Option.toList_some, Option.toList_none, List.cons_append, List.nil_append, if_true, if_false]
      · have h2 : ¬ nI s ≤ nI (h + i) := nI_ge (by omega) (by omega)
        have h3 : nI s2 ≤ nI (t + i) := nI_le (by omega) (by omega)
        simp only [rX1_alike_13, rX1_alike_15, rX1_alike_17, rX1_alike_20, rX1_alike_21, rX1_alike_23, rX1_alike_24, rX1_alike_25, rX1_alike_28, rX1_alike_31, rX1_alike_32, rX1_alike_34, rX1_alike_35, rX1_alike_35_n, rX1_alike_36, rX1_alike_39, rX1_alike_69, rX1_alike_71, h1, h2, h3, g1, g5, q1, q5, nI_add, up2_eq, va_rf, eq_self, or_true, true_or, Option.toList_some, Option.toList_none, List.cons_append, List.nil_append, if_true, if_false]
  | succ d ih =>
    intro i hi hj
    have h1 : ¬ nI m0 ≤ nI i := nI_ge (by omega) (by omega)
    have h2 : ¬ nI s ≤ nI (h + i) := nI_ge (by omega) (by omega)
    have h3 : ¬ nI s2 ≤ nI (t + i) := nI_ge (by omega) (by omega)
    simp only [rX1_alike_13, rX1_alike_15, rX1_alike_17, rX1_alike_20, rX1_alike_21, rX1_alike_23, rX1_alike_24, rX1_alike_25, rX1_alike_28, rX1_alike_31, rX1_alike_32, rX1_alike_34, rX1_alike_35, rX1_alike_35_n, rX1_alike_36, rX1_alike_39, rX1_alike_42, rX1_alike_43, rX1_alike_46, rX1_alike_47, rX1_alike_49, h1, h2, h3, g1, g2, g5, q1, q5, nI_add, up2_eq, va_rf, eq_self, or_true, true_or, Option.toList_some, Option.toList_none, List.cons_append, List.nil_append, if_true, if_false]
    rw [rX1_alike_50 g3 (by decide) (by omega) (by omega)]
    simp only [rX1_alike_51, rX1_alike_51_n, rX1_alike_52, rX1_alike_55, rX1_alike_56, rX1_alike_58, q1, q2, nI_add, up2_eq, va_rf, eq_self, or_true, true_or, Option.toList_some, Option.toList_none, List.cons_append, List.nil_append, if_true, if_false]
    rw [rX1_alike_59 q3 (by decide) (by omega) (by omega)]
    by_cases he : A v (h + i) = A v2 (t + i)
    · simp only [rX1_alike_60, rX1_alike_63, rX1_alike_66, he, nI_add, up2_eq, va_rf, eq_self, or_true, true_or, Option.toList_some, Option.toList_none, List.cons_append, List.nil_append, if_true, if_false]
      exact ih (i + 1) (by omega) (fun j hlt => by
        rcases Nat.lt_or_ge j i with h2 | h2
        · exact hj j h2
        · rw [show j = i by omega]; exact he)
    · simp only [rX1_alike_60, rX1_alike_69, rX1_alike_71, he, up2_eq, va_rf, eq_self, or_true, true_or, Option.toList_some, Option.toList_none, List.cons_append, List.nil_append, if_true, if_false]
      rw [cpl_uniq (c := i) (by omega) hj (fun _ => he)]
theorem k_Bytes_alike {k n u : Nat} {sh : hs_} {F : hF_} {R : hR_} {A : hF_} {B : hR_} {o v z s o2 v2 z2 s2 h t m0 : Nat} {Q : Option Value → pm_H → Prop} (hb : isB sh F R o v z s) (hb2 : isB sh F R o2 v2 z2 s2) (hh : h ≤ s) (ht : t ≤ s2) (hm0 : m0 < 2 ^ 30) :
    rc_ (k + 1) mX1_alike [.ref o, .int (nI h), .ref o2, .int (nI t), .int (nI m0)] (mkh n u sh F R A B) Q ↔ Q (some (.int (nI (cpl (fun j => A v (h + j)) (fun j => A v2 (t + j)) (min m0 (min (s - h) (s2 - t))))))) (mkh n u sh F R A B) := by
  have hz := hb.2.2.2.1
  have hz2 := hb2.2.2.2.1
  have hs := hb.2.2.2.2.2
  have hs2 := hb2.2.2.2.2.2
  rw [eX1_alike]
  have h0 : ¬ nI h < nI 0 := nI_nlt (Nat.zero_le _) (by omega)
  have h1 : nI 0 ≤ nI t := nI_le (Nat.zero_le _) (by omega)
  simp only [rX1_alike_0, rX1_alike_1, rX1_alike_4, rX1_alike_5, rX1_alike_10, rX1_alike_11, h0, h1, up2_eq, va_rf, eq_self, or_true, true_or, Option.toList_some, Option.toList_none, List.cons_append, List.nil_append, if_true, if_false]
  exact l_alike hb hb2 hh ht hm0 rfl _ 0 (Nat.zero_add _) (fun j hj => absurd hj (Nat.not_lt_zero j))
