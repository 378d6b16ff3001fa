/-! ===== the packer: offers ===== -/
/-- a packer's cells: the object, its eight rows behind it -/
def isK (sh : hs_) (R : hR_) (pk : Nat) : Prop := sh pk = some (0, 4, 0) ∧
  (R 400 pk = some (pk + 1) ∧ R 401 pk = some (pk + 2) ∧ R 402 pk = some (pk + 3) ∧ R 403 pk = some (pk + 4) ∧ R 404 pk = some (pk + 5) ∧ R 405 pk = some (pk + 6) ∧ R 406 pk = some (pk + 7) ∧ R 407 pk = some (pk + 8)) ∧
  (sh (pk + 1) = some (1, 0, 121) ∧ sh (pk + 2) = some (1, 0, 121) ∧ sh (pk + 3) = some (1, 0, 121) ∧ sh (pk + 4) = some (1, 0, 121) ∧ sh (pk + 5) = some (1, 0, 121) ∧ sh (pk + 6) = some (1, 0, 321) ∧ sh (pk + 7) = some (1, 0, 121) ∧ sh (pk + 8) = some (1, 0, 121))
/-- an offer, on the rows -/
def offA (A : hF_) (pk i : Nat) (kd pl : Int32) (n : Nat) (bits : Int32) : hF_ :=
  if bits + A (pk + 1) (i + n) < A (pk + 1) i ∨ (bits + A (pk + 1) (i + n) = A (pk + 1) i ∧ nI 1 + A (pk + 2) (i + n) < A (pk + 2) i) then
    up2 (up2 (up2 (up2 (up2 A (pk + 1) i (bits + A (pk + 1) (i + n))) (pk + 2) i (nI 1 + A (pk + 2) (i + n))) (pk + 3) i kd) (pk + 4) i pl) (pk + 5) i (nI n) else A
theorem offA_out {A : hF_} {pk i n a : Nat} {kd pl bits : Int32} (h : a < pk + 1 ∨ pk + 5 < a) : offA A pk i kd pl n bits a = A a := by
  unfold offA
  split
  · rw [up2_row (by omega), up2_row (by omega), up2_row (by omega), up2_row (by omega), up2_row (by omega)]
  · rfl
section PAK
variable {k n u : Nat} {sh : hs_} {F : hF_} {R : hR_} {A : hF_} {B : hR_} {pk : Nat} {Q : Option Value → pm_H → Prop}
theorem k_tryPart {i m : Nat} {kd pl bits : Int32} (hk : isK sh R pk) (hi : i + m ≤ 120) (hm : 0 < m) : rc_ k mX4_tryPart [.ref pk, .int (nI i), .int kd, .int pl, .int (nI m), .int bits] (mkh n u sh F R A B) Q ↔ Q none (mkh n u sh F R (offA A pk i kd pl m bits) B) := by
  obtain ⟨h0, ⟨r0, r1, r2, r3, r4, r5, r6, r7⟩, s0, s1, s2, s3, s4, s5, s6, s7⟩ := hk
  have n1 : pk + 2 ≠ pk + 1 := by omega
  rw [eX4_tryPart]
  simp only [rX4_tryPart_0, rX4_tryPart_2, rX4_tryPart_3, rX4_tryPart_6, rX4_tryPart_7, rX4_tryPart_9, h0, r0, nI_add, up2_eq, va_rf, eq_self, or_true, true_or, Option.toList_some, Option.toList_none, List.cons_append, List.nil_append, if_true, if_false]
  rw [rX4_tryPart_10 s0 (by decide) (by omega) (by omega)]
  simp only [rX4_tryPart_11, rX4_tryPart_12, rX4_tryPart_14, rX4_tryPart_15, rX4_tryPart_16, rX4_tryPart_19, rX4_tryPart_20, rX4_tryPart_22, h0, r1, nI_add, up2_eq, va_rf, eq_self, or_true, true_or, Option.toList_some, Option.toList_none, List.cons_append, List.nil_append, if_true, if_false]
  rw [rX4_tryPart_23 s1 (by decide) (by omega) (by omega)]
  simp only [rX4_tryPart_24, rX4_tryPart_25, rX4_tryPart_27, rX4_tryPart_29, rX4_tryPart_30, rX4_tryPart_33, h0, r0, up2_eq, va_rf, eq_self, or_true, true_or, Option.toList_some, Option.toList_none, List.cons_append, List.nil_append, if_true, if_false]
  rw [rX4_tryPart_34 s0 (by decide) (by omega) (by omega)]
  have good : ∀ (hc : bits + A (pk + 1) (i + m) < A (pk + 1) i ∨ (bits + A (pk + 1) (i + m) = A (pk + 1) i ∧ nI 1 + A (pk + 2) (i + m) < A (pk + 2) i)), (rw_ k mX4_tryPart 60 [.ref pk, .int (nI i), .int kd, .int pl, .int (nI m), .int bits, .int (bits + A (pk + 1) (i + m)), .int (nI 1 + A (pk + 2) (i + m))] [] (mkh n u sh F R A B) Q ↔ Q none (mkh n u sh F R (offA A pk i kd pl m bits) B)) := by
    intro hc
    unfold offA
    rw [if_pos hc]
    simp only [rX4_tryPart_60, rX4_tryPart_61, rX4_tryPart_64, rX4_tryPart_65, h0, r0, up2_eq, va_rf, eq_self, or_true, true_or, Option.toList_some, Option.toList_none, List.cons_append, List.nil_append, if_true, if_false]
    rw [rX4_tryPart_67 s0 (by omega) (by omega)]
    simp only [rX4_tryPart_68, rX4_tryPart_69, rX4_tryPart_72, rX4_tryPart_73, h0, r1, up2_eq, va_rf, eq_self, or_true, true_or, Option.toList_some, Option.toList_none, List.cons_append, List.nil_append, if_true, if_false]
    rw [rX4_tryPart_75 s1 (by omega) (by omega)]
    simp only [rX4_tryPart_76, rX4_tryPart_77, rX4_tryPart_80, rX4_tryPart_81, h0, r2, up2_eq, va_rf, eq_self, or_true, true_or, Option.toList_some, Option.toList_none, List.cons_append, List.nil_append, if_true, if_false]
    rw [rX4_tryPart_82 s2 (by omega) (by omega)]
    simp only [rX4_tryPart_83, rX4_tryPart_84, rX4_tryPart_87, rX4_tryPart_88, h0, r3, up2_eq, va_rf, eq_self, or_true, true_or, Option.toList_some, Option.toList_none, List.cons_append, List.nil_append, if_true, if_false]
    rw [rX4_tryPart_89 s3 (by omega) (by omega)]
    simp only [rX4_tryPart_90, rX4_tryPart_91, rX4_tryPart_94, rX4_tryPart_95, h0, r4, up2_eq, va_rf, eq_self, or_true, true_or, Option.toList_some, Option.toList_none, List.cons_append, List.nil_append, if_true, if_false]
    rw [rX4_tryPart_97 s4 (by omega) (by omega), rX4_tryPart_98]
  by_cases c1 : bits + A (pk + 1) (i + m) < A (pk + 1) i
  · simp only [rX4_tryPart_35, c1, up2_eq, va_rf, eq_self, or_true, true_or, Option.toList_some, Option.toList_none, List.cons_append, List.nil_append, if_true, if_false]
    exact good (Or.inl c1)
  · simp only [rX4_tryPart_35, rX4_tryPart_38, rX4_tryPart_40, rX4_tryPart_41, rX4_tryPart_44, c1, h0, r0, up2_eq, va_rf, eq_self, or_true, true_or, Option.toList_some, Option.toList_none, List.cons_append, List.nil_append, if_true, if_false]
    rw [rX4_tryPart_45 s0 (by decide) (by omega) (by omega)]
    by_cases c2 : bits + A (pk + 1) (i + m) = A (pk + 1) i
    · simp only [rX4_tryPart_46, rX4_tryPart_49, rX4_tryPart_51, rX4_tryPart_52, rX4_tryPart_55, c2, h0, r1, up2_eq, va_rf, eq_self, or_true, true_or, Option.toList_some, Option.toList_none, List.cons_append, List.nil_append, if_true, if_false]
      rw [rX4_tryPart_56 s1 (by decide) (by omega) (by omega)]
      by_cases c3 : nI 1 + A (pk + 2) (i + m) < A (pk + 2) i
      · have c4 : ¬ A (pk + 2) i ≤ nI 1 + A (pk + 2) (i + m) := Int32.not_le.mpr c3
        simp only [rX4_tryPart_57, c4, up2_eq, va_rf, eq_self, or_true, true_or, Option.toList_some, Option.toList_none, List.cons_append, List.nil_append, if_true, if_false]
        have := good (Or.inr ⟨c2, c3⟩)
        rw [c2] at this
        exact this
      · have c4 : A (pk + 2) i ≤ nI 1 + A (pk + 2) (i + m) := Int32.not_lt.mp c3
        have hc : ¬ (bits + A (pk + 1) (i + m) < A (pk + 1) i ∨ (bits + A (pk + 1) (i + m) = A (pk + 1) i ∧ nI 1 + A (pk + 2) (i + m) < A (pk + 2) i)) := fun q => q.elim c1 (fun q => c3 q.2)
        unfold offA
        rw [if_neg hc]
        simp only [rX4_tryPart_57, rX4_tryPart_98, c4, up2_eq, va_rf, eq_self, or_true, true_or, Option.toList_some, Option.toList_none, List.cons_append, List.nil_append, if_true, if_false]
    · have hc : ¬ (bits + A (pk + 1) (i + m) < A (pk + 1) i ∨ (bits + A (pk + 1) (i + m) = A (pk + 1) i ∧ nI 1 + A (pk + 2) (i + m) < A (pk + 2) i)) := fun q => q.elim c1 (fun q => c2 q.1)
      unfold offA
      rw [if_neg hc]
      simp only [rX4_tryPart_46, rX4_tryPart_98, c2, up2_eq, va_rf, eq_self, or_true, true_or, Option.toList_some, Option.toList_none, List.cons_append, List.nil_append, if_true, if_false]
/-- offers of OWN: c of them -/
def ownA (A : hF_) (pk i : Nat) : Nat → hF_
  | 0 => A
  | c + 1 => offA (ownA A pk i c) pk i (nI 0) (-1) (c + 1) (nI 2 + A (pk + 8) (c + 1) + nI 8 * nI (c + 1))
theorem ownA_out {A : hF_} {pk i a : Nat} (h : a < pk + 1 ∨ pk + 5 < a) : ∀ c, ownA A pk i c a = A a
  | 0 => rfl
  | c + 1 => by
    unfold ownA
    rw [offA_out h, ownA_out h c]
theorem l_tryOwn {i m : Nat} (hk : isK sh R pk) (hs : F 410 pk = nI m) (hm : m ≤ 120) (hi : i < m) : ∀ d c, c + d = m - i → (rw_ (k + 1) mX4_tryOwn 2 [.ref pk, .int (nI i), .int (nI (c + 1))] [] (mkh n u sh F R (ownA A pk i c) B) Q ↔ Q none (mkh n u sh F R (ownA A pk i (m - i)) B)) := by
  have h0 := hk.1
  have r7 := hk.2.1.2.2.2.2.2.2.2
  have s7 := hk.2.2.2.2.2.2.2.2.2
  intro d
  induction d with
  | zero =>
    intro c hc
    have e1 : c = m - i := by omega
    subst e1
    have g1 : nI (m - i) < nI (m - i + 1) := nI_lt (by omega) (by omega)
    simp only [rX4_tryOwn_2, rX4_tryOwn_3, rX4_tryOwn_4, rX4_tryOwn_7, rX4_tryOwn_8, rX4_tryOwn_9, rX4_tryOwn_39, h0, hs, pk_sub (Nat.le_of_lt hi), g1, up2_eq, va_rf, eq_self, or_true, true_or, Option.toList_some, Option.toList_none, List.cons_append, List.nil_append, if_true, if_false]
  | succ d ih =>
    intro c hc
    have g1 : ¬ nI (m - i) < nI (c + 1) := nI_nlt (by omega) (by omega)
    simp only [rX4_tryOwn_2, rX4_tryOwn_3, rX4_tryOwn_4, rX4_tryOwn_7, rX4_tryOwn_8, rX4_tryOwn_9, rX4_tryOwn_12, rX4_tryOwn_13, rX4_tryOwn_14, rX4_tryOwn_15, rX4_tryOwn_16, rX4_tryOwn_17, rX4_tryOwn_18, rX4_tryOwn_19, rX4_tryOwn_22, h0, hs, r7, pk_sub (Nat.le_of_lt hi), g1, up2_eq, va_rf, eq_self, or_true, true_or, Option.toList_some, Option.toList_none, List.cons_append, List.nil_append, if_true, if_false]
    rw [rX4_tryOwn_23 s7 (by decide) (by omega) (by omega), ownA_out (by omega)]
    simp only [rX4_tryOwn_24, rX4_tryOwn_25, rX4_tryOwn_27, rX4_tryOwn_28, rX4_tryOwn_29]
    rw [rX4_tryOwn_30 h0, k_tryPart hk (by omega) (by omega)]
    simp only [rX4_tryOwn_33, rX4_tryOwn_36, nI_add, up2_eq, va_rf, eq_self, or_true, true_or, Option.toList_some, Option.toList_none, List.cons_append, List.nil_append, if_true, if_false]
    exact ih (c + 1) (by omega)
theorem k_tryOwn {i m : Nat} (hk : isK sh R pk) (hs : F 410 pk = nI m) (hm : m ≤ 120) (hi : i < m) : rc_ (k + 1) mX4_tryOwn [.ref pk, .int (nI i)] (mkh n u sh F R A B) Q ↔ Q none (mkh n u sh F R (ownA A pk i (m - i)) B) := by
  rw [eX4_tryOwn]
  simp only [rX4_tryOwn_0, rX4_tryOwn_1]
  exact l_tryOwn hk hs hm hi (m - i) 0 (by omega)
/-- offers of one place: sizes from n0 on, d of them -/
def cinA (A : hF_) (pk i : Nat) (kd pl head : Int32) (n0 : Nat) : Nat → hF_
  | 0 => A
  | d + 1 => offA (cinA A pk i kd pl head n0 d) pk i kd pl (n0 + d) (head + A (pk + 8) (n0 + d - 2))
theorem cinA_out {A : hF_} {pk i a n0 : Nat} {kd pl head : Int32} (h : a < pk + 1 ∨ pk + 5 < a) : ∀ d, cinA A pk i kd pl head n0 d a = A a
  | 0 => rfl
  | d + 1 => by
    unfold cinA
    rw [offA_out h, cinA_out h d]
end PAK
