/-! ===== the packer: copies, wholes, runs ===== -/
theorem nI_min {a b : Nat} (ha : a < 2 ^ 31) (hb : b < 2 ^ 31) : (if nI b < nI a then nI b else nI a) = nI (min a b) := by
  by_cases hlt : b < a
  · rw [if_pos (nI_lt hlt ha), Nat.min_eq_right (by omega)]
  · rw [if_neg (nI_nlt (by omega) hb), Nat.min_eq_left (by omega)]
theorem nI_max {a b : Nat} (ha : a < 2 ^ 31) (hb : b < 2 ^ 31) : (if nI a < nI b then nI b else nI a) = nI (max a b) := by
  by_cases hlt : a < b
  · rw [if_pos (nI_lt hlt hb), Nat.max_eq_right (by omega)]
  · rw [if_neg (nI_nlt (by omega) ha), Nat.max_eq_left (by omega)]
def mostF (kd i : Nat) (rr : Nat → Nat) (p : Nat) : Nat := if kd = 2 then min (rr p) (i - p) else rr p
theorem mostF_le {kd i p : Nat} {rr : Nat → Nat} : mostF kd i rr p ≤ rr p := by
  unfold mostF
  split <;> omega
/-- offers of copies: the rows, and the greatest size tried, behind p places -/
def copA (A : hF_) (pk i kd : Nat) (head : Int32) (rr : Nat → Nat) : Nat → hF_ × Nat
  | 0 => (A, 2)
  | p + 1 => (cinA (copA A pk i kd head rr p).1 pk i (nI kd) (nI p) head ((copA A pk i kd head rr p).2 + 1) (mostF kd i rr p - (copA A pk i kd head rr p).2), max (copA A pk i kd head rr p).2 (mostF kd i rr p))
theorem copA_out {A : hF_} {pk i kd a : Nat} {head : Int32} {rr : Nat → Nat} (h : a < pk + 1 ∨ pk + 5 < a) : ∀ p, (copA A pk i kd head rr p).1 a = A a
  | 0 => rfl
  | p + 1 => by
    unfold copA
    dsimp only
    rw [cinA_out h, copA_out h p]
theorem copA_2 {A : hF_} {pk i kd : Nat} {head : Int32} {rr : Nat → Nat} : ∀ p, 2 ≤ (copA A pk i kd head rr p).2
  | 0 => Nat.le_refl _
  | p + 1 => by
    unfold copA
    have := copA_2 (A := A) (pk := pk) (i := i) (kd := kd) (head := head) (rr := rr) p
    dsimp only
    omega
theorem copA_le {A : hF_} {pk i kd m : Nat} {head : Int32} {rr : Nat → Nat} (hm : 2 ≤ m) : ∀ p, (∀ j, j < p → rr j ≤ m) → (copA A pk i kd head rr p).2 ≤ m
  | 0, _ => hm
  | p + 1, h => by
    unfold copA
    have h1 := copA_le (A := A) (pk := pk) (i := i) (kd := kd) (head := head) (rr := rr) hm p (fun j hj => h j (by omega))
    have h2 := mostF_le (kd := kd) (i := i) (p := p) (rr := rr)
    have h3 := h p (by omega)
    dsimp only
    omega
section COP
variable {k n u : Nat} {sh : hs_} {F : hF_} {R : hR_} {A : hF_} {B : hR_} {pk : Nat} {Q : Option Value → pm_H → Prop}
theorem l_cin {i t m : Nat} {kd pl head : Int32} {x3 x4 : Value} (hk : isK sh R pk) (hi : i + m ≤ 120) (ht : 2 ≤ t) (htl : t ≤ 120) : ∀ d j, j + d = m - t → (rw_ (k + 1) mX4_tryCopies 44 [.ref pk, .int (nI i), .int kd, x3, x4, .int head, .int (nI t), .int pl, .int (nI m), .int (nI (t + 1 + j))] [] (mkh n u sh F R (cinA A pk i kd pl head (t + 1) j) B) Q ↔ rw_ (k + 1) mX4_tryCopies 79 [.ref pk, .int (nI i), .int kd, x3, x4, .int head, .int (nI t), .int pl, .int (nI m), .int (nI (t + 1 + (m - t)))] [] (mkh n u sh F R (cinA A pk i kd pl head (t + 1) (m - t)) B) Q) := by
  have h0 := hk.1
  have r7 := hk.2.1.2.2.2.2.2.2.2
  have s7 := hk.2.2.2.2.2.2.2.2.2
  intro d
  induction d with
  | zero =>
    intro j hj
    have e1 : j = m - t := by omega
    subst e1
    have g1 : nI m < nI (t + 1 + (m - t)) := nI_lt (by omega) (by omega)
    simp only [rX4_tryCopies_44, rX4_tryCopies_46, rX4_tryCopies_48, g1, up2_eq, va_rf, eq_self, or_true, true_or, Option.toList_some, Option.toList_none, List.cons_append, List.nil_append, if_true, if_false]
  | succ d ih =>
    intro j hj
    have g1 : ¬ nI m < nI (t + 1 + j) := nI_nlt (by omega) (by omega)
    have g2 : nI (t + 1 + j) - nI 2 = nI (t + 1 + j - 2) := pk_sub (by omega)
    simp only [rX4_tryCopies_44, rX4_tryCopies_46, rX4_tryCopies_48, rX4_tryCopies_51, rX4_tryCopies_52, rX4_tryCopies_53, rX4_tryCopies_54, rX4_tryCopies_56, rX4_tryCopies_58, rX4_tryCopies_60, rX4_tryCopies_61, rX4_tryCopies_64, rX4_tryCopies_66, rX4_tryCopies_67, h0, r7, g1, g2, up2_eq, va_rf, eq_self, or_true, true_or, Option.toList_some, Option.toList_none, List.cons_append, List.nil_append, if_true, if_false]
    rw [rX4_tryCopies_68 s7 (by decide) (by omega) (by omega), cinA_out (by omega)]
    simp only [rX4_tryCopies_69]
    rw [rX4_tryCopies_70 h0, k_tryPart hk (by omega) (by omega)]
    simp only [rX4_tryCopies_73, rX4_tryCopies_76, nI_add, up2_eq, va_rf, eq_self, or_true, true_or, Option.toList_some, Option.toList_none, List.cons_append, List.nil_append, if_true, if_false]
    exact ih (j + 1) (by omega)
theorem l_cop {i kd bh ra zr : Nat} {head : Int32} {rr : Nat → Nat} {x8 x9 : Value} (hk : isK sh R pk) (hi : i ≤ 120) (hkd : kd < 3) (hsr : sh ra = some (1, 0, zr)) (hzr : zr < 2 ^ 30) (hra : ra < pk + 1 ∨ pk + 5 < ra) (hbh : bh ≤ zr) (hfar : kd = 2 → bh ≤ i) (hrr : ∀ p, p < bh → A ra p = nI (rr p) ∧ i + rr p ≤ 120) : ∀ d p, p + d = bh → ∀ (y8 y9 : Value), (rw_ (k + 1) mX4_tryCopies 6 [.ref pk, .int (nI i), .int (nI kd), .ref ra, .int (nI bh), .int head, .int (nI (copA A pk i kd head rr p).2), .int (nI p), y8, y9] [] (mkh n u sh F R (copA A pk i kd head rr p).1 B) Q ↔ Q none (mkh n u sh F R (copA A pk i kd head rr bh).1 B)) := by
  intro d
  induction d with
  | zero =>
    intro p hp y8 y9
    have e1 : p = bh := by omega
    subst e1
    have g1 : nI p ≤ nI p := nI_le (Nat.le_refl _) (by omega)
    simp only [rX4_tryCopies_6, rX4_tryCopies_8, rX4_tryCopies_10, rX4_tryCopies_94, g1, up2_eq, va_rf, eq_self, or_true, true_or, Option.toList_some, Option.toList_none, List.cons_append, List.nil_append, if_true, if_false]
  | succ d ih =>
    intro p hp y8 y9
    have g1 : ¬ nI bh ≤ nI p := nI_ge (by omega) (by omega)
    obtain ⟨q1, q2⟩ := hrr p (by omega)
    have hm := mostF_le (kd := kd) (i := i) (p := p) (rr := rr)
    have ht2 := copA_2 (A := A) (pk := pk) (i := i) (kd := kd) (head := head) (rr := rr) p
    have htl := copA_le (A := A) (pk := pk) (i := i) (kd := kd) (head := head) (rr := rr) (m := 120) (by omega) p (fun j hj => by have := (hrr j (by omega)).2; omega)
    have tail : ∀ y9 : Value, (rw_ (k + 1) mX4_tryCopies 38 [.ref pk, .int (nI i), .int (nI kd), .ref ra, .int (nI bh), .int head, .int (nI (copA A pk i kd head rr p).2), .int (nI p), .int (nI (mostF kd i rr p)), y9] [] (mkh n u sh F R (copA A pk i kd head rr p).1 B) Q ↔ Q none (mkh n u sh F R (copA A pk i kd head rr bh).1 B)) := by
      intro y9
      simp only [rX4_tryCopies_38, rX4_tryCopies_40, rX4_tryCopies_41, rX4_tryCopies_42, nI_add]
      have hc := l_cin (k := k) (n := n) (u := u) (F := F) (A := (copA A pk i kd head rr p).1) (B := B) (kd := nI kd) (pl := nI p) (head := head) (x3 := .ref ra) (x4 := .int (nI bh)) (Q := Q) hk (i := i) (t := (copA A pk i kd head rr p).2) (m := mostF kd i rr p) (by omega) ht2 htl _ 0 (Nat.zero_add _)
      rw [Nat.add_zero] at hc
      refine hc.trans ?_
      simp only [rX4_tryCopies_79, rX4_tryCopies_81]
      rw [rX4_tryCopies_83, nI_max (by omega) (by omega)]
      simp only [rX4_tryCopies_86, rX4_tryCopies_88, rX4_tryCopies_91, nI_add]
      exact ih (p + 1) (by omega) _ _
    by_cases hk2 : kd = 2
    · subst hk2
      simp only [rX4_tryCopies_6, rX4_tryCopies_8, rX4_tryCopies_10, rX4_tryCopies_13, rX4_tryCopies_14, rX4_tryCopies_15, rX4_tryCopies_18, rX4_tryCopies_18_n, rX4_tryCopies_19, g1, up2_eq, va_rf, eq_self, or_true, true_or, Option.toList_some, Option.toList_none, List.cons_append, List.nil_append, if_true, if_false]
      have hbi := hfar rfl
      rw [rX4_tryCopies_21 hsr (by decide) (by omega) (by omega), copA_out hra, q1]
      simp only [rX4_tryCopies_22, rX4_tryCopies_23, rX4_tryCopies_25, pk_sub (show p ≤ i by omega)]
      rw [rX4_tryCopies_26, nI_min (by omega) (by omega)]
      simp only [rX4_tryCopies_29, rX4_tryCopies_32, rX4_tryCopies_32_n, rX4_tryCopies_33, rX4_tryCopies_35, rX4_tryCopies_36]
      have e2 : mostF 2 i rr p = min (rr p) (i - p) := rfl
      have := tail y9
      rw [e2] at this
      exact this
    · have g3 : ¬ nI kd = nI 2 := fun q => hk2 ((nI_eq (by omega) (by omega)).mp q)
      simp only [rX4_tryCopies_6, rX4_tryCopies_8, rX4_tryCopies_10, rX4_tryCopies_13, rX4_tryCopies_14, rX4_tryCopies_15, rX4_tryCopies_32, rX4_tryCopies_32_n, rX4_tryCopies_33, g1, g3, up2_eq, va_rf, eq_self, or_true, true_or, Option.toList_some, Option.toList_none, List.cons_append, List.nil_append, if_true, if_false]
      rw [rX4_tryCopies_35 hsr (by decide) (by omega) (by omega), copA_out hra, q1]
      simp only [rX4_tryCopies_36]
      have e2 : mostF kd i rr p = rr p := if_neg hk2
      have := tail y9
      rw [e2] at this
      exact this
theorem k_tryCopies {i kd bh ra zr : Nat} {head : Int32} {rr : Nat → Nat} (hk : isK sh R pk) (hi : i ≤ 120) (hkd : kd < 3) (hsr : sh ra = some (1, 0, zr)) (hzr : zr < 2 ^ 30) (hra : ra < pk + 1 ∨ pk + 5 < ra) (hbh : bh ≤ zr) (hfar : kd = 2 → bh ≤ i) (hrr : ∀ p, p < bh → A ra p = nI (rr p) ∧ i + rr p ≤ 120) :
    rc_ (k + 1) mX4_tryCopies [.ref pk, .int (nI i), .int (nI kd), .ref ra, .int (nI bh), .int head] (mkh n u sh F R A B) Q ↔ Q none (mkh n u sh F R (copA A pk i kd head rr bh).1 B) := by
  rw [eX4_tryCopies]
  simp only [rX4_tryCopies_0, rX4_tryCopies_1, rX4_tryCopies_3, rX4_tryCopies_4]
  exact l_cop (x8 := .null) (x9 := .null) hk hi hkd hsr hzr hra hbh hfar hrr bh 0 (by omega) _ _
end COP
