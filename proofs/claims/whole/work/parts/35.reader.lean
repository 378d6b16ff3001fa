/-! ===== the reader: bits, numbers ===== -/
/-- where it reads, the fault, its place -/
abbrev rst : Type := Nat × Nat × Nat
def rdF (F : hF_) (rd : Nat) (st : rst) : hF_ := up2 (up2 (up2 F 603 rd (nI st.1)) 606 rd (nI st.2.1)) 607 rd (nI st.2.2)
def rdN (st : rst) (code wh : Nat) : rst := if st.2.1 = 0 then (st.1, code, wh) else st
/-- it can't read so many bits -/
def rdX (st : rst) (nb N : Nat) : Bool := decide (¬ st.2.1 = 0) || decide (N < st.1 + nb)
def rdB (st : rst) (nb N : Nat) : rst := if rdX st nb N = true then rdN st 1 N else (st.1 + nb, st.2.1, st.2.2)
def bv (b : Nat → Nat) (p : Nat) : Nat → Nat
  | 0 => 0
  | nb + 1 => 2 * bv b p nb + b (p + nb)
theorem bv_lt {b : Nat → Nat} {p : Nat} (hb : ∀ j, b j < 2) : ∀ nb, bv b p nb < 2 ^ nb
  | 0 => Nat.one_pos
  | nb + 1 => by
    unfold bv
    have h1 := bv_lt (p := p) hb nb
    have h2 := hb (p + nb)
    rw [Nat.pow_succ]
    omega
/-- the bits of bytes -/
def bof (by_ : Nat → Nat) (j : Nat) : Nat := by_ (j / 8) / 2 ^ (7 - j % 8) % 2
theorem bof_lt {by_ : Nat → Nat} : ∀ j, bof by_ j < 2 := fun j => Nat.mod_lt _ (by omega)
theorem rdF_603 {F : hF_} {rd : Nat} {st : rst} : rdF F rd st 603 rd = nI st.1 := by unfold rdF; rw [up2_k (by decide), up2_k (by decide), up2_eq]
theorem rdF_606 {F : hF_} {rd : Nat} {st : rst} : rdF F rd st 606 rd = nI st.2.1 := by unfold rdF; rw [up2_k (by decide), up2_eq]
theorem rdF_607 {F : hF_} {rd : Nat} {st : rst} : rdF F rd st 607 rd = nI st.2.2 := by unfold rdF; rw [up2_eq]
theorem rdF_o {F : hF_} {rd q a : Nat} {st : rst} (h1 : q ≠ 603) (h2 : q ≠ 606) (h3 : q ≠ 607) : rdF F rd st q a = F q a := by unfold rdF; rw [up2_k h3, up2_k h2, up2_k h1]
theorem isB.rd {sh : hs_} {F : hF_} {R : hR_} {o v z s rd : Nat} {st : rst} (h : isB sh F R o v z s) : isB sh (rdF F rd st) R o v z s := ((h.F (by decide)).F (by decide)).F (by decide)
theorem shl_1 : ∀ t : Fin 8, nI 1 <<< (nI t.val &&& 31) = nI (2 ^ t.val) := by decide +kernel
section RDR
variable {k n u : Nat} {sh : hs_} {F : hF_} {R : hR_} {A : hF_} {B : hR_} {Q : Option Value → pm_H → Prop} {rd so sv sz ss N : Nat} {by_ : Nat → Nat} {st : rst}
theorem k_note {code wh : Nat} (hs : sh rd = some (0, 6, 0)) (hf : st.2.1 < 2 ^ 31) : rc_ k mX6_note [.ref rd, .int (nI code), .int (nI wh)] (mkh n u sh (rdF F rd st) R A B) Q ↔ Q none (mkh n u sh (rdF F rd (rdN st code wh)) R A B) := by
  rw [eX6_note]
  unfold rdN
  by_cases h : st.2.1 = 0
  · have g1 : nI st.2.1 = nI 0 := by rw [h]
    simp only [rX6_note_0, rX6_note_1, rX6_note_4, rX6_note_7, rX6_note_8, rX6_note_9, rX6_note_12, rX6_note_13, rX6_note_14, rX6_note_17, hs, rdF_606, g1, h, up2_eq, va_rf, eq_self, or_true, true_or, Option.toList_some, Option.toList_none, List.cons_append, List.nil_append, if_true, if_false]
    unfold rdF
    dsimp only
    rw [up2_sw (k := 607) (k' := 606) (by decide), up2_up2, up2_up2]
  · have g1 : ¬ nI st.2.1 = nI 0 := nI_ne0 (by omega) hf
    simp only [rX6_note_0, rX6_note_1, rX6_note_4, rX6_note_7, rX6_note_8, rX6_note_9, rX6_note_12, rX6_note_13, rX6_note_14, rX6_note_17, hs, rdF_606, g1, h, up2_eq, va_rf, eq_self, or_true, true_or, Option.toList_some, Option.toList_none, List.cons_append, List.nil_append, if_true, if_false]
/-- what the reader reads: its source's bytes -/
def isR (sh : hs_) (F : hF_) (R : hR_) (A : hF_) (rd so sv sz ss : Nat) (by_ : Nat → Nat) : Prop := sh rd = some (0, 6, 0) ∧ R 602 rd = some so ∧ isB sh F R so sv sz ss ∧ ss ≤ 240 ∧ F 604 rd = nI (8 * ss) ∧ ∀ j, j < ss → A sv j = nI (by_ j) ∧ by_ j < 256
theorem l_readBits {nb : Nat} (hr : isR sh F R A rd so sv sz ss by_) (hf : st.2.1 = 0) (hn : st.1 + nb ≤ 8 * ss) (hnb : nb ≤ 30) : ∀ d j, j + d = nb → ∀ y4 : Value, (rw_ (k + 1) mX6_readBits 35 [.ref rd, .int (nI nb), .int (nI (bv (bof by_) st.1 j)), .int (nI j), y4] [] (mkh n u sh (rdF F rd (st.1 + j, st.2.1, st.2.2)) R A B) Q ↔ Q (some (.int (nI (bv (bof by_) st.1 nb)))) (mkh n u sh (rdF F rd (st.1 + nb, st.2.1, st.2.2)) R A B)) := by
  obtain ⟨h1, h2, h3, h4, h5, h6⟩ := hr
  intro d
  induction d with
  | zero =>
    intro j hj y4
    have e1 : j = nb := by omega
    subst e1
    have g1 : nI j ≤ nI j := nI_le (Nat.le_refl _) (by omega)
    simp only [rX6_readBits_35, rX6_readBits_36, rX6_readBits_37, rX6_readBits_91, rX6_readBits_92, g1, up2_eq, va_rf, eq_self, or_true, true_or, Option.toList_some, Option.toList_none, List.cons_append, List.nil_append, if_true, if_false]
  | succ d ih =>
    intro j hj y4
    have g1 : ¬ nI nb ≤ nI j := nI_ge (by omega) (by omega)
    obtain ⟨q1, q2⟩ := h6 ((st.1 + j) / 8) (by omega)
    have hm8 : (st.1 + j) % 8 < 8 := Nat.mod_lt _ (by omega)
    have e3 : nI (st.1 + j) >>> (nI 3 &&& 31) = nI ((st.1 + j) / 8) := nI_shr (by omega) (by omega)
    simp only [rX6_readBits_35, rX6_readBits_36, rX6_readBits_37, rX6_readBits_40, rX6_readBits_41, rX6_readBits_44, rX6_readBits_45, rX6_readBits_48, rX6_readBits_49, h1, h2, g1, rdF_603, e3, up2_eq, va_rf, eq_self, or_true, true_or, Option.toList_some, Option.toList_none, List.cons_append, List.nil_append, if_true, if_false]
    rw [rX6_readBits_50 h3.1, k_Bytes_at (isB.rd h3), bat_in (by omega) (by omega), q1]
    have e4 : nI 7 - nI ((st.1 + j) % 8) = nI (7 - (st.1 + j) % 8) := pk_sub (by omega)
    have e5 : nI (by_ ((st.1 + j) / 8)) >>> (nI (7 - (st.1 + j) % 8) &&& 31) = nI (by_ ((st.1 + j) / 8) / 2 ^ (7 - (st.1 + j) % 8)) := nI_shr (by omega) (by omega)
    have e6 : nI (by_ ((st.1 + j) / 8) / 2 ^ (7 - (st.1 + j) % 8)) &&& nI 1 = nI (bof by_ (st.1 + j)) := nI_and1 (Nat.lt_of_le_of_lt (Nat.div_le_self _ _) (by omega))
    simp only [rX6_readBits_53, rX6_readBits_55, rX6_readBits_56, rX6_readBits_59, rX6_readBits_61, rX6_readBits_62, rX6_readBits_63, rX6_readBits_64, rX6_readBits_65, rX6_readBits_66, rX6_readBits_68, rX6_readBits_69, rX6_readBits_70, rX6_readBits_71, rX6_readBits_73, rX6_readBits_74, rX6_readBits_75, rX6_readBits_76, rX6_readBits_77, rX6_readBits_80, rX6_readBits_81, rX6_readBits_82, rX6_readBits_85, h1, rdF_603, nI_and7 (show st.1 + j < 2 ^ 31 by omega), e4, e5, e6, pk_mul, nI_add, up2_eq, va_rf, eq_self, or_true, true_or, Option.toList_some, Option.toList_none, List.cons_append, List.nil_append, if_true, if_false]
    simp only [rX6_readBits_88]
    have eF : up2 (rdF F rd (st.1 + j, st.2.1, st.2.2)) 603 rd (nI (st.1 + j + 1)) = rdF F rd (st.1 + (j + 1), st.2.1, st.2.2) := by
      unfold rdF
      dsimp only
      rw [up2_sw (k := 607) (k' := 603) (by decide), up2_sw (k := 606) (k' := 603) (by decide), up2_up2]
      rfl
    rw [eF]
    exact ih (j + 1) (by omega) _
theorem k_readBits {nb : Nat} (hr : isR sh F R A rd so sv sz ss by_) (hf : st.2.1 < 2 ^ 31) (hat : st.1 ≤ 8 * ss) (hnb : nb ≤ 30) :
    rc_ (k + 1) mX6_readBits [.ref rd, .int (nI nb)] (mkh n u sh (rdF F rd st) R A B) Q ↔ Q (some (.int (if rdX st nb (8 * ss) = true then -1 else nI (bv (bof by_) st.1 nb)))) (mkh n u sh (rdF F rd (rdB st nb (8 * ss))) R A B) := by
  have h1 := hr.1
  have h4 := hr.2.2.2.1
  have h5 : rdF F rd st 604 rd = nI (8 * ss) := by rw [rdF_o (by decide) (by decide) (by decide)]; exact hr.2.2.2.2.1
  rw [eX6_readBits]
  unfold rdB
  have bad : rdX st nb (8 * ss) = true → (rw_ (k + 1) mX6_readBits 20 [.ref rd, .int (nI nb), .retAddr 0, .retAddr 0, .retAddr 0] [] (mkh n u sh (rdF F rd st) R A B) Q ↔ Q (some (.int (if rdX st nb (8 * ss) = true then -1 else nI (bv (bof by_) st.1 nb)))) (mkh n u sh (rdF F rd (if rdX st nb (8 * ss) = true then rdN st 1 (8 * ss) else (st.1 + nb, st.2.1, st.2.2))) R A B)) := by
    intro hx
    simp only [rX6_readBits_20, rX6_readBits_21, rX6_readBits_22, rX6_readBits_23, h1, h5, up2_eq, va_rf, eq_self, or_true, true_or, Option.toList_some, Option.toList_none, List.cons_append, List.nil_append, if_true, if_false]
    rw [rX6_readBits_26 h1, k_note h1 hf, if_pos hx, if_pos hx]
    simp only [rX6_readBits_29, rX6_readBits_30, up2_eq, va_rf, eq_self, or_true, true_or, Option.toList_some, Option.toList_none, List.cons_append, List.nil_append, if_true, if_false]
  by_cases c1 : st.2.1 = 0
  · have g1 : nI st.2.1 = nI 0 := by rw [c1]
    simp only [rX6_readBits_0, rX6_readBits_1, rX6_readBits_4, rX6_readBits_7, rX6_readBits_8, rX6_readBits_9, rX6_readBits_12, rX6_readBits_13, rX6_readBits_16, h1, h5, rdF_603, rdF_606, g1, pk_sub hat, up2_eq, va_rf, eq_self, or_true, true_or, Option.toList_some, Option.toList_none, List.cons_append, List.nil_append, if_true, if_false]
    by_cases c2 : st.1 + nb ≤ 8 * ss
    · have g2 : nI nb ≤ nI (8 * ss - st.1) := nI_le (by omega) (by omega)
      have hx : rdX st nb (8 * ss) = false := by unfold rdX; simp [c1, c2]
      simp only [rX6_readBits_17, rX6_readBits_31, rX6_readBits_32, rX6_readBits_33, rX6_readBits_34, g2, up2_eq, va_rf, eq_self, or_true, true_or, Option.toList_some, Option.toList_none, List.cons_append, List.nil_append, if_true, if_false]
      rw [if_neg (by rw [hx]; decide), if_neg (by rw [hx]; decide)]
      exact l_readBits hr c1 c2 hnb nb 0 (by omega) _
    · have g2 : ¬ nI nb ≤ nI (8 * ss - st.1) := nI_ge (by omega) (by omega)
      have hx : rdX st nb (8 * ss) = true := by unfold rdX; simp [c1]; omega
      simp only [rX6_readBits_17, g2, up2_eq, va_rf, eq_self, or_true, true_or, Option.toList_some, Option.toList_none, List.cons_append, List.nil_append, if_true, if_false]
      exact bad hx
  · have g1 : ¬ nI st.2.1 = nI 0 := nI_ne0 (by omega) hf
    have hx : rdX st nb (8 * ss) = true := by unfold rdX; simp [c1]
    simp only [rX6_readBits_0, rX6_readBits_1, rX6_readBits_4, h1, rdF_606, g1, up2_eq, va_rf, eq_self, or_true, true_or, Option.toList_some, Option.toList_none, List.cons_append, List.nil_append, if_true, if_false]
    exact bad hx
end RDR
