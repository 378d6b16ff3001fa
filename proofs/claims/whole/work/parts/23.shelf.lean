/-! ===== pieces: around, fits; candidates; the shelf ===== -/
/-- the end of the piece in which a place is: from piece i on, d of them -/
def ear (E : Nat → Nat) (p : Nat) : Nat → Nat → Nat
  | 0, _ => 0
  | d + 1, i => if p < E i then E i else ear E p d (i + 1)
/-- all pieces have 2 to 16 bytes -/
def fitL (E : Nat → Nat) : Nat → Bool
  | 0 => true
  | c + 1 => fitL E c && (decide (2 ≤ E c - pst E c) && decide (E c - pst E c ≤ 16))
theorem fitL_f {E : Nat → Nat} {i : Nat} (h : fitL E (i + 1) = false) : ∀ c, i < c → fitL E c = false
  | 0, hc => by omega
  | c + 1, hc => by
    by_cases e : i = c
    · subst e; exact h
    · have := fitL_f h c (by omega)
      unfold fitL
      rw [this]
      rfl
def fitB (E : Nat → Nat) (c kd : Nat) : Bool := if kd = 0 then decide (c ≤ 1) else fitL E c && decide (0 < c)
section SHE
variable {k n u : Nat} {sh : hs_} {F : hF_} {R : hR_} {A : hF_} {B : hR_} {o : Nat} {Q : Option Value → pm_H → Prop} {r v z s e ze c : Nat} {E : Nat → Nat}
theorem l_endAround {p : Nat} (hp : isP sh F R A o r v z s e ze c E) (hE : okE E c s) (hlt : p < 2 ^ 31) : ∀ d i, i + d = c → (rw_ k mX5_endAround 2 [.ref o, .int (nI p), .int (nI i)] [] (mkh n u sh F R A B) Q ↔ Q (some (.int (nI (ear E p d i)))) (mkh n u sh F R A B)) := by
  obtain ⟨h1, h2, h3, h4, h5, h6, h7, h8, h9⟩ := hp
  have hzz := h9.2.2.2.1
  have hss := h9.2.2.2.2.2
  intro d
  induction d with
  | zero =>
    intro i hi
    have e1 : i = c := by omega
    subst e1
    have g1 : nI i ≤ nI i := nI_le (Nat.le_refl _) (by omega)
    simp only [rX5_endAround_2, rX5_endAround_3, rX5_endAround_4, rX5_endAround_7, rX5_endAround_33, rX5_endAround_34, h1, h6, g1, up2_eq, va_rf, eq_self, or_true, true_or, Option.toList_some, Option.toList_none, List.cons_append, List.nil_append, if_true, if_false]
    rfl
  | succ d ih =>
    intro i hi
    have g1 : ¬ nI c ≤ nI i := nI_ge (by omega) (by omega)
    have hEi := hE.E_le (j := i) (by omega)
    simp only [rX5_endAround_2, rX5_endAround_3, rX5_endAround_4, rX5_endAround_7, rX5_endAround_10, rX5_endAround_11, rX5_endAround_12, rX5_endAround_15, h1, h3, h6, g1, up2_eq, va_rf, eq_self, or_true, true_or, Option.toList_some, Option.toList_none, List.cons_append, List.nil_append, if_true, if_false]
    rw [rX5_endAround_16 h4 (by decide) (by omega) (by omega), h8 i (by omega)]
    unfold ear
    by_cases hq : p < E i
    · have g2 : ¬ nI (E i) ≤ nI p := nI_ge hq (by omega)
      simp only [rX5_endAround_17, rX5_endAround_20, rX5_endAround_21, rX5_endAround_24, h1, h3, g2, hq, up2_eq, va_rf, eq_self, or_true, true_or, Option.toList_some, Option.toList_none, List.cons_append, List.nil_append, if_true, if_false]
      rw [rX5_endAround_25 h4 (by decide) (by omega) (by omega), h8 i (by omega)]
      simp only [rX5_endAround_26]
    · have g2 : nI (E i) ≤ nI p := nI_le (by omega) (by omega)
      simp only [rX5_endAround_17, rX5_endAround_27, rX5_endAround_30, g2, hq, nI_add, up2_eq, va_rf, eq_self, or_true, true_or, Option.toList_some, Option.toList_none, List.cons_append, List.nil_append, if_true, if_false]
      exact ih (i + 1) (by omega)
theorem k_Pieces_endAround {p : Nat} (hp : isP sh F R A o r v z s e ze c E) (hE : okE E c s) (hlt : p < 2 ^ 31) : rc_ k mX5_endAround [.ref o, .int (nI p)] (mkh n u sh F R A B) Q ↔ Q (some (.int (nI (ear E p c 0)))) (mkh n u sh F R A B) := by
  rw [eX5_endAround]
  simp only [rX5_endAround_0, rX5_endAround_1]
  exact l_endAround hp hE hlt c 0 (by omega)
theorem l_fits {kd : Nat} (hp : isP sh F R A o r v z s e ze c E) (hE : okE E c s) (hk : ¬ kd = 0) : ∀ d i, i + d = c → fitL E i = true → (rw_ (k + 1) mX5_fits 20 [.ref o, .int (nI kd), .int (nI i)] [] (mkh n u sh F R A B) Q ↔ Q (some (.int (if fitB E c kd = true then nI 1 else nI 0))) (mkh n u sh F R A B)) := by
  have h1 := hp.1
  have h6 := hp.2.2.2.2.2.1
  have h5 := hp.2.2.2.2.1
  have h7 := hp.2.2.2.2.2.2.1
  have h9 := hp.2.2.2.2.2.2.2.2
  have hzz := h9.2.2.2.1
  have hss := h9.2.2.2.2.2
  intro d
  induction d with
  | zero =>
    intro i hi hL
    have e1 : i = c := by omega
    subst e1
    have g1 : nI i ≤ nI i := nI_le (Nat.le_refl _) (by omega)
    simp only [rX5_fits_20, rX5_fits_21, rX5_fits_22, rX5_fits_25, rX5_fits_55, rX5_fits_56, h1, h6, g1, up2_eq, va_rf, eq_self, or_true, true_or, Option.toList_some, Option.toList_none, List.cons_append, List.nil_append, if_true, if_false]
    unfold fitB
    rw [if_neg hk, hL]
    by_cases h0 : i = 0
    · subst h0
      have g2 : nI 0 ≤ nI 0 := nI_le (Nat.le_refl _) (by omega)
      simp only [rX5_fits_59, rX5_fits_62, rX5_fits_63, rX5_fits_66, rX5_fits_67, g2, up2_eq, va_rf, eq_self, or_true, true_or, Option.toList_some, Option.toList_none, List.cons_append, List.nil_append, if_true, if_false]
      rfl
    · have g2 : ¬ nI i ≤ nI 0 := nI_ge (by omega) (by omega)
      have g3 : 0 < i := by omega
      simp only [rX5_fits_59, rX5_fits_62, rX5_fits_63, rX5_fits_66, rX5_fits_67, g2, g3, up2_eq, va_rf, eq_self, or_true, true_or, Option.toList_some, Option.toList_none, List.cons_append, List.nil_append, if_true, if_false]
      rfl
  | succ d ih =>
    intro i hi hL
    have g1 : ¬ nI c ≤ nI i := nI_ge (by omega) (by omega)
    have hEi := hE.E_le (j := i) (by omega)
    simp only [rX5_fits_20, rX5_fits_21, rX5_fits_22, rX5_fits_25, rX5_fits_28, rX5_fits_29, h1, h6, g1, up2_eq, va_rf, eq_self, or_true, true_or, Option.toList_some, Option.toList_none, List.cons_append, List.nil_append, if_true, if_false]
    rw [rX5_fits_30 h1, k_Pieces_length hp hE (by omega)]
    have bad : ¬ (2 ≤ E i - pst E i ∧ E i - pst E i ≤ 16) → (if fitB E c kd = true then nI 1 else nI 0) = nI 0 := by
      intro hb
      have hf : fitL E (i + 1) = false := by
        unfold fitL
        rw [hL]
        by_cases q1 : 2 ≤ E i - pst E i
        · have q2 : ¬ E i - pst E i ≤ 16 := fun q => hb ⟨q1, q⟩
          simp [q1, q2]
        · simp [q1]
      unfold fitB
      rw [if_neg hk, fitL_f hf c (by omega)]
      rfl
    by_cases q1 : 2 ≤ E i - pst E i
    · have g2 : ¬ nI (E i - pst E i) < nI 2 := nI_nlt q1 (by omega)
      simp only [rX5_fits_33, rX5_fits_34, rX5_fits_37, rX5_fits_38, g2, up2_eq, va_rf, eq_self, or_true, true_or, Option.toList_some, Option.toList_none, List.cons_append, List.nil_append, if_true, if_false]
      rw [rX5_fits_39 h1, k_Pieces_length hp hE (by omega)]
      by_cases q2 : E i - pst E i ≤ 16
      · have g3 : nI (E i - pst E i) ≤ nI 16 := nI_le q2 (by omega)
        simp only [rX5_fits_42, rX5_fits_44, rX5_fits_49, rX5_fits_52, g3, nI_add, up2_eq, va_rf, eq_self, or_true, true_or, Option.toList_some, Option.toList_none, List.cons_append, List.nil_append, if_true, if_false]
        exact ih (i + 1) (by omega) (by unfold fitL; rw [hL]; simp [q1, q2])
      · have g3 : ¬ nI (E i - pst E i) ≤ nI 16 := nI_ge (by omega) (by omega)
        rw [bad (fun q => q2 q.2)]
        simp only [rX5_fits_42, rX5_fits_44, rX5_fits_47, rX5_fits_48, g3, up2_eq, va_rf, eq_self, or_true, true_or, Option.toList_some, Option.toList_none, List.cons_append, List.nil_append, if_true, if_false]
    · have g2 : nI (E i - pst E i) < nI 2 := nI_lt (by omega) (by omega)
      rw [bad (fun q => q1 q.1)]
      simp only [rX5_fits_33, rX5_fits_34, rX5_fits_47, rX5_fits_48, g2, up2_eq, va_rf, eq_self, or_true, true_or, Option.toList_some, Option.toList_none, List.cons_append, List.nil_append, if_true, if_false]
theorem k_Pieces_fits {kd : Nat} (hp : isP sh F R A o r v z s e ze c E) (hE : okE E c s) (hkd : kd < 2 ^ 31) : rc_ (k + 1) mX5_fits [.ref o, .int (nI kd)] (mkh n u sh F R A B) Q ↔ Q (some (.int (if fitB E c kd = true then nI 1 else nI 0))) (mkh n u sh F R A B) := by
  have h1 := hp.1
  have h6 := hp.2.2.2.2.2.1
  have h5 := hp.2.2.2.2.1
  have h7 := hp.2.2.2.2.2.2.1
  rw [eX5_fits]
  by_cases hk : kd = 0
  · subst hk
    unfold fitB
    by_cases hc : c ≤ 1
    · have g1 : ¬ nI 1 < nI c := nI_nlt hc (by omega)
      simp only [rX5_fits_0, rX5_fits_1, rX5_fits_4, rX5_fits_5, rX5_fits_8, rX5_fits_9, rX5_fits_12, rX5_fits_13, rX5_fits_16, rX5_fits_17, h1, h6, g1, hc, decide_true, up2_eq, va_rf, eq_self, or_true, true_or, Option.toList_some, Option.toList_none, List.cons_append, List.nil_append, if_true, if_false]
    · have g1 : nI 1 < nI c := nI_lt (by omega) (by omega)
      simp only [rX5_fits_0, rX5_fits_1, rX5_fits_4, rX5_fits_5, rX5_fits_8, rX5_fits_9, rX5_fits_12, rX5_fits_13, rX5_fits_16, rX5_fits_17, h1, h6, g1, hc, decide_false, up2_eq, va_rf, eq_self, or_true, true_or, Option.toList_some, Option.toList_none, List.cons_append, List.nil_append, if_true, if_false]
      rfl
  · have g0 : ¬ nI kd = nI 0 := nI_ne0 (by omega) hkd
    simp only [rX5_fits_0, rX5_fits_1, rX5_fits_18, rX5_fits_19, g0, up2_eq, va_rf, eq_self, or_true, true_or, Option.toList_some, Option.toList_none, List.cons_append, List.nil_append, if_true, if_false]
    exact l_fits hp hE hk c 0 (by omega) rfl
/-- the shelf: its books bs, c of them, and the one that stands for none -/
def isS (sh : hs_) (F : hF_) (R : hR_) (B : hR_) (o bk nb c : Nat) (bs : Nat → Nat) : Prop :=
  sh o = some (0, 7, 0) ∧ R 700 o = some bk ∧ sh bk = some (2, 0, 24) ∧ F 701 o = nI c ∧ c ≤ 24 ∧ R 702 o = some nb ∧ sh nb = some (0, 0, 0) ∧ ∀ j, j < c → B bk j = some (bs j) ∧ sh (bs j) = some (0, 0, 0)
def fnd (bs : Nat → Nat) (c : Nat) (i : Int32) : Option Nat := if i < nI 0 then none else if nI c ≤ i then none else some (bs i.toNatClampNeg)
variable {bk nb : Nat} {bs : Nat → Nat}
theorem k_Shelf_isFull (hs : isS sh F R B o bk nb c bs) : rc_ k mX7_isFull [.ref o] (mkh n u sh F R A B) Q ↔ Q (some (.int (if c < 24 then nI 0 else nI 1))) (mkh n u sh F R A B) := by
  obtain ⟨h1, h2, h3, h4, h5, h6, h7, h8⟩ := hs
  rw [eX7_isFull]
  by_cases hc : c < 24
  · have g1 : nI c < nI 24 := nI_lt hc (by omega)
    simp only [rX7_isFull_0, rX7_isFull_1, rX7_isFull_4, rX7_isFull_6, rX7_isFull_9, rX7_isFull_10, rX7_isFull_13, rX7_isFull_14, h1, h4, g1, hc, up2_eq, va_rf, eq_self, or_true, true_or, Option.toList_some, Option.toList_none, List.cons_append, List.nil_append, if_true, if_false]
  · have g1 : ¬ nI c < nI 24 := nI_nlt (by omega) (by omega)
    simp only [rX7_isFull_0, rX7_isFull_1, rX7_isFull_4, rX7_isFull_6, rX7_isFull_9, rX7_isFull_10, rX7_isFull_13, rX7_isFull_14, h1, h4, g1, hc, up2_eq, va_rf, eq_self, or_true, true_or, Option.toList_some, Option.toList_none, List.cons_append, List.nil_append, if_true, if_false]
theorem k_Shelf_find {i : Int32} (hs : isS sh F R B o bk nb c bs) : rc_ k mX7_find [.ref o, .int i] (mkh n u sh F R A B) Q ↔ Q (some (va_rf (fnd bs c i))) (mkh n u sh F R A B) := by
  obtain ⟨h1, h2, h3, h4, h5, h6, h7, h8⟩ := hs
  rw [eX7_find]
  unfold fnd
  by_cases h0 : i < nI 0
  · simp only [rX7_find_0, rX7_find_1, rX7_find_4, rX7_find_5, rX7_find_6, rX7_find_9, rX7_find_12, rX7_find_13, rX7_find_16, rX7_find_17, rX7_find_18, rX7_find_21, rX7_find_22, rX7_find_22_n, h0, up2_eq, va_rf, eq_self, or_true, true_or, Option.toList_some, Option.toList_none, List.cons_append, List.nil_append, if_true, if_false]
  · simp only [rX7_find_0, rX7_find_1, rX7_find_4, rX7_find_5, rX7_find_6, rX7_find_9, h0, h1, h4, up2_eq, va_rf, eq_self, or_true, true_or, Option.toList_some, Option.toList_none, List.cons_append, List.nil_append, if_true, if_false]
    by_cases hq : nI c ≤ i
    · simp only [rX7_find_0, rX7_find_1, rX7_find_4, rX7_find_5, rX7_find_6, rX7_find_9, rX7_find_12, rX7_find_13, rX7_find_16, rX7_find_17, rX7_find_18, rX7_find_21, rX7_find_22, rX7_find_22_n, hq, up2_eq, va_rf, eq_self, or_true, true_or, Option.toList_some, Option.toList_none, List.cons_append, List.nil_append, if_true, if_false]
    · obtain ⟨j, hj, rfl⟩ := nI_of h0
      have hlt : j < c := Nat.not_le.mp fun q => hq (nI_le q hj)
      simp only [rX7_find_12, rX7_find_13, rX7_find_16, hq, h1, h2, up2_eq, va_rf, eq_self, or_true, true_or, Option.toList_some, Option.toList_none, List.cons_append, List.nil_append, if_true, if_false]
      rw [rX7_find_17 h3 (by omega) (by omega), (h8 j hlt).1, nI_clamp hj]
      simp only [rX7_find_0, rX7_find_1, rX7_find_4, rX7_find_5, rX7_find_6, rX7_find_9, rX7_find_12, rX7_find_13, rX7_find_16, rX7_find_17, rX7_find_18, rX7_find_21, rX7_find_22, rX7_find_22_n, up2_eq, va_rf, eq_self, or_true, true_or, Option.toList_some, Option.toList_none, List.cons_append, List.nil_append, if_true, if_false]
theorem k_Shelf_findOr {i : Int32} (hs : isS sh F R B o bk nb c bs) : rc_ (k + 1) mX7_findOrNothing [.ref o, .int i] (mkh n u sh F R A B) Q ↔ Q (some (va_rf (if i = -1 then some nb else fnd bs c i))) (mkh n u sh F R A B) := by
  have h1 := hs.1
  have h6 := hs.2.2.2.2.2.1
  rw [eX7_findOrNothing]
  by_cases h0 : i = -1
  · simp only [rX7_findOrNothing_0, rX7_findOrNothing_1, rX7_findOrNothing_2, rX7_findOrNothing_5, rX7_findOrNothing_6, rX7_findOrNothing_9, rX7_findOrNothing_12, rX7_findOrNothing_13, rX7_findOrNothing_14, rX7_findOrNothing_17, rX7_findOrNothing_17_n, h0, h1, h6, up2_eq, va_rf, eq_self, or_true, true_or, Option.toList_some, Option.toList_none, List.cons_append, List.nil_append, if_true, if_false]
  · simp only [rX7_findOrNothing_0, rX7_findOrNothing_1, rX7_findOrNothing_2, rX7_findOrNothing_12, rX7_findOrNothing_13, h0, up2_eq, va_rf, eq_self, or_true, true_or, Option.toList_some, Option.toList_none, List.cons_append, List.nil_append, if_true, if_false]
    rw [rX7_findOrNothing_14 h1, k_Shelf_find hs]
    cases hf : fnd bs c i with
    | none => simp only [rX7_findOrNothing_0, rX7_findOrNothing_1, rX7_findOrNothing_2, rX7_findOrNothing_5, rX7_findOrNothing_6, rX7_findOrNothing_9, rX7_findOrNothing_12, rX7_findOrNothing_13, rX7_findOrNothing_14, rX7_findOrNothing_17, rX7_findOrNothing_17_n, up2_eq, va_rf, eq_self, or_true, true_or, Option.toList_some, Option.toList_none, List.cons_append, List.nil_append, if_true, if_false]
    | some b => simp only [rX7_findOrNothing_0, rX7_findOrNothing_1, rX7_findOrNothing_2, rX7_findOrNothing_5, rX7_findOrNothing_6, rX7_findOrNothing_9, rX7_findOrNothing_12, rX7_findOrNothing_13, rX7_findOrNothing_14, rX7_findOrNothing_17, rX7_findOrNothing_17_n, up2_eq, va_rf, eq_self, or_true, true_or, Option.toList_some, Option.toList_none, List.cons_append, List.nil_append, if_true, if_false]
/-- how many are held -/
def hct (F : hF_) (bs : Nat → Nat) : Nat → Nat
  | 0 => 0
  | j + 1 => hct F bs j + (if F 5 (bs j) = nI 0 then 0 else 1)
theorem hct_le {F : hF_} {bs : Nat → Nat} : ∀ j, hct F bs j ≤ j
  | 0 => Nat.le_refl _
  | j + 1 => by
    have := hct_le (F := F) (bs := bs) j
    unfold hct
    split <;> omega
theorem l_Shelf_held (hs : isS sh F R B o bk nb c bs) : ∀ d i, i + d = c → (rw_ k mX7_heldBooks 4 [.ref o, .int (nI (hct F bs i)), .int (nI i)] [] (mkh n u sh F R A B) Q ↔ Q (some (.int (nI (hct F bs c)))) (mkh n u sh F R A B)) := by
  obtain ⟨h1, h2, h3, h4, h5, h6, h7, h8⟩ := hs
  intro d
  induction d with
  | zero =>
    intro i hi
    have e1 : i = c := by omega
    subst e1
    have g1 : nI i ≤ nI i := nI_le (Nat.le_refl _) (by omega)
    simp only [rX7_heldBooks_4, rX7_heldBooks_5, rX7_heldBooks_6, rX7_heldBooks_9, rX7_heldBooks_33, rX7_heldBooks_34, h1, h4, g1, up2_eq, va_rf, eq_self, or_true, true_or, Option.toList_some, Option.toList_none, List.cons_append, List.nil_append, if_true, if_false]
  | succ d ih =>
    intro i hi
    have g1 : ¬ nI c ≤ nI i := nI_ge (by omega) (by omega)
    have hb := h8 i (by omega)
    have hI := ih (i + 1) (by omega)
    simp only [rX7_heldBooks_4, rX7_heldBooks_5, rX7_heldBooks_6, rX7_heldBooks_9, rX7_heldBooks_12, rX7_heldBooks_13, rX7_heldBooks_16, h1, h2, h4, g1, up2_eq, va_rf, eq_self, or_true, true_or, Option.toList_some, Option.toList_none, List.cons_append, List.nil_append, if_true, if_false]
    rw [rX7_heldBooks_17 h3 (by omega) (by omega), hb.1]
    rw [show hct F bs (i + 1) = hct F bs i + (if F 5 (bs i) = nI 0 then 0 else 1) from rfl] at hI
    by_cases hq : F 5 (bs i) = nI 0
    · rw [if_pos hq, Nat.add_zero] at hI
      simp only [rX7_heldBooks_18, rX7_heldBooks_21, rX7_heldBooks_27, rX7_heldBooks_30, hb.2, hq, nI_add, up2_eq, va_rf, eq_self, or_true, true_or, Option.toList_some, Option.toList_none, List.cons_append, List.nil_append, if_true, if_false]
      exact hI
    · rw [if_neg hq] at hI
      simp only [rX7_heldBooks_18, rX7_heldBooks_21, rX7_heldBooks_24, rX7_heldBooks_27, rX7_heldBooks_30, hb.2, hq, nI_add, up2_eq, va_rf, eq_self, or_true, true_or, Option.toList_some, Option.toList_none, List.cons_append, List.nil_append, if_true, if_false]
      exact hI
theorem k_Shelf_held (hs : isS sh F R B o bk nb c bs) : rc_ k mX7_heldBooks [.ref o] (mkh n u sh F R A B) Q ↔ Q (some (.int (nI (hct F bs c)))) (mkh n u sh F R A B) := by
  rw [eX7_heldBooks]
  simp only [rX7_heldBooks_0, rX7_heldBooks_1, rX7_heldBooks_2, rX7_heldBooks_3]
  exact l_Shelf_held hs c 0 (by omega)
end SHE
