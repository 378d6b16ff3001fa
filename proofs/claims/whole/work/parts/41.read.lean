/-! ===== the reader: the book, the size, what fills, a letter ===== -/
theorem rdF_sw {F : hF_} {rd q a : Nat} {st : rst} {x : Int32} (h1 : q ≠ 603) (h2 : q ≠ 606) (h3 : q ≠ 607) : up2 (rdF F rd st) q a x = rdF (up2 F q a x) rd st := by
  unfold rdF
  rw [up2_sw (k := 607) (k' := q) (Ne.symm h3), up2_sw (k := 606) (k' := q) (Ne.symm h2), up2_sw (k := 603) (k' := q) (Ne.symm h1)]
/-- the size as read, and the state -/
def rsz (b : Nat → Nat) (N : Nat) (st : rst) : Int32 × rst :=
  ((rgL b N st.1 8 0 st).1 - nI 1, if (rgL b N st.1 8 0 st).1 - nI 1 ≤ nI 120 then rgS b N st else rdN (rgS b N st) 4 5)
/-- the bits that fill: d of them -/
def rfL (b : Nat → Nat) (N : Nat) : Nat → rst → rst × Bool
  | 0, st => (st, true)
  | d + 1, st => if bv b st.1 1 = 0 then rfL b N d (rdB st 1 N) else (rdB st 1 N, false)
def rfS (b : Nat → Nat) (N : Nat) (st : rst) : rst :=
  if N - st.1 < 8 then (if (rfL b N (N - st.1) st).2 = true then (rfL b N (N - st.1) st).1 else rdN (rfL b N (N - st.1) st).1 6 st.1) else rdN st 6 st.1
/-- parts, d at the most -/
def rpL (b : Nat → Nat) (N zs s c : Nat) (E src : Nat → Nat) (rk : Bool) : Nat → rss → rss
  | 0, S => S
  | d + 1, S => if S.1.2.1 = 0 ∧ S.2.1 < zs then rpL b N zs s c E src rk d (rpP b N zs S.1 S.2.1 S.2.2 s c E src rk) else S
abbrev bkd : Type := Nat × Nat × (Nat → Nat) × (Nat → Nat) × Bool
/-- a letter behind its size: the parts, what fills -/
def rdP (b : Nat → Nat) (N : Nat) (bd : bkd) (zs : Nat) (st : rst) (L : Nat → Nat) : rss :=
  if (rpL b N zs bd.1 bd.2.1 bd.2.2.1 bd.2.2.2.1 bd.2.2.2.2 120 (st, 0, L)).1.2.1 = 0 then (rfS b N (rpL b N zs bd.1 bd.2.1 bd.2.2.1 bd.2.2.2.1 bd.2.2.2.2 120 (st, 0, L)).1, (rpL b N zs bd.1 bd.2.1 bd.2.2.1 bd.2.2.2.1 bd.2.2.2.2 120 (st, 0, L)).2) else rpL b N zs bd.1 bd.2.1 bd.2.2.1 bd.2.2.2.1 bd.2.2.2.2 120 (st, 0, L)
section RD7
variable {k n u : Nat} {sh : hs_} {F : hF_} {R : hR_} {A : hF_} {B : hR_} {Q : Option Value → pm_H → Prop} {rd so sv sz ss N lt lv lz l0 m zs : Nat} {by_ L : Nat → Nat} {st : rst} {o r v z s e ze c bo : Nat} {E : Nat → Nat}
theorem k_readSize (hr : isR sh F R A rd so sv sz ss by_) (hok : okR st (8 * ss)) :
    rc_ (k + 3) mX6_readSize [.ref rd] (mkh n u sh (rdF F rd st) R A B) Q ↔ Q none (mkh n u sh (rdF (up2 F 605 rd (rsz (bof by_) (8 * ss) st).1) rd (rsz (bof by_) (8 * ss) st).2) R A B) := by
  have h1 := hr.1
  have hok1 : okR (rgS (bof by_) (8 * ss) st) (8 * ss) := okR_G hok.2.1 8 0 _ hok
  have o1 := hok1.1
  rw [eX6_readSize]
  simp only [rX6_readSize_0, rX6_readSize_1]
  rw [rX6_readSize_2 h1, k_readGamma hr hok]
  have e5 : (5 : Int32) = nI 5 := by decide
  unfold rsz
  dsimp only
  have hsw : ∀ x, up2 (rdF F rd (rgL (bof by_) (8 * ss) st.1 8 0 st).2) 605 rd x = rdF (up2 F 605 rd x) rd (rgS (bof by_) (8 * ss) st) := fun x => rdF_sw (by decide) (by decide) (by decide)
  have hget : ∀ (x : Int32) (st' : rst), rdF (up2 F 605 rd x) rd st' 605 rd = x := fun x st' => by rw [rdF_o (by decide) (by decide) (by decide), up2_eq]
  simp only [rX6_readSize_5, rX6_readSize_6, rX6_readSize_7, rX6_readSize_10, rX6_readSize_11, rX6_readSize_14, h1, hsw, hget, up2_eq, va_rf, eq_self, or_true, true_or, Option.toList_some, Option.toList_none, List.cons_append, List.nil_append, if_true, if_false]
  by_cases c1 : (rgL (bof by_) (8 * ss) st.1 8 0 st).1 - nI 1 ≤ nI 120
  · simp only [rX6_readSize_16, rX6_readSize_25, c1, up2_eq, va_rf, eq_self, or_true, true_or, Option.toList_some, Option.toList_none, List.cons_append, List.nil_append, if_true, if_false]
  · simp only [rX6_readSize_16, rX6_readSize_19, rX6_readSize_20, rX6_readSize_21, c1, up2_eq, va_rf, eq_self, or_true, true_or, Option.toList_some, Option.toList_none, List.cons_append, List.nil_append, if_true, if_false]
    rw [rX6_readSize_22 h1, k_note h1 (by omega)]
    simp only [rX6_readSize_25, up2_eq, va_rf, eq_self, or_true, true_or, Option.toList_some, Option.toList_none, List.cons_append, List.nil_append, if_true, if_false]
theorem k_readBook {shf bk nb bc : Nat} {bs : Nat → Nat} (hr : isR sh F R A rd so sv sz ss by_) (hok : okR st (8 * ss)) (hS : R 600 rd = some shf) (hs : isS sh F R B shf bk nb bc bs) :
    rc_ (k + 2) mX6_readBook [.ref rd] (mkh n u sh (rdF F rd st) R A B) Q ↔ (if (rdB st 5 (8 * ss)).2.1 = 0 then (Q (some (va_rf (if nI (bv (bof by_) st.1 5) - nI 1 = -1 then some nb else fnd bs bc (nI (bv (bof by_) st.1 5) - nI 1)))) (mkh n u sh (rdF F rd (if (if nI (bv (bof by_) st.1 5) - nI 1 = -1 then some nb else fnd bs bc (nI (bv (bof by_) st.1 5) - nI 1)) = none then rdN (rdB st 5 (8 * ss)) 2 0 else rdB st 5 (8 * ss))) R A B)) else Q (some (va_rf none)) (mkh n u sh (rdF F rd (rdB st 5 (8 * ss))) R A B)) := by
  have h1 := hr.1
  have hok1 : okR (rdB st 5 (8 * ss)) (8 * ss) := okR_B hok
  have o1 := hok1.1
  have hs2 : isS sh (rdF F rd (rdB st 5 (8 * ss))) R B shf bk nb bc bs := by
    obtain ⟨a1, a2, a3, a4, a5⟩ := hs
    exact ⟨a1, a2, a3, by rw [rdF_o (by decide) (by decide) (by decide)]; exact a4, a5⟩
  rw [eX6_readBook]
  simp only [rX6_readBook_0, rX6_readBook_1]
  rw [rX6_readBook_2 h1, k_readBits hr (by have := hok.1; omega) hok.2.1 (by omega)]
  simp only [rX6_readBook_5, rX6_readBook_6, rX6_readBook_7, h1, rdF_606, up2_eq, va_rf, eq_self, or_true, true_or, Option.toList_some, Option.toList_none, List.cons_append, List.nil_append, if_true, if_false]
  by_cases c1 : (rdB st 5 (8 * ss)).2.1 = 0
  · have cX : ¬ rdX st 5 (8 * ss) = true := fun hx => rdB_f hx c1
    have g1 : nI (rdB st 5 (8 * ss)).2.1 = nI 0 := by rw [c1]
    rw [if_pos c1, if_neg cX]
    simp only [rX6_readBook_10, rX6_readBook_15, rX6_readBook_16, rX6_readBook_19, rX6_readBook_20, rX6_readBook_21, h1, hS, g1, up2_eq, va_rf, eq_self, or_true, true_or, Option.toList_some, Option.toList_none, List.cons_append, List.nil_append, if_true, if_false]
    rw [rX6_readBook_22 hs.1, k_Shelf_findOr hs2]
    generalize (if nI (bv (bof by_) st.1 5) - nI 1 = -1 then some nb else fnd bs bc (nI (bv (bof by_) st.1 5) - nI 1)) = ob
    cases ob with
    | none =>
      simp only [rX6_readBook_25, rX6_readBook_25_n, rX6_readBook_26, rX6_readBook_26_n, rX6_readBook_27, rX6_readBook_27_n, rX6_readBook_30, rX6_readBook_31, rX6_readBook_32, up2_eq, va_rf, eq_self, or_true, true_or, Option.toList_some, Option.toList_none, List.cons_append, List.nil_append, if_true, if_false]
      rw [rX6_readBook_33 h1, k_note h1 (by omega)]
      simp only [rX6_readBook_36, rX6_readBook_36_n, rX6_readBook_37, rX6_readBook_37_n, up2_eq, va_rf, eq_self, or_true, true_or, Option.toList_some, Option.toList_none, List.cons_append, List.nil_append, if_true, if_false]
    | some b =>
      simp only [rX6_readBook_25, rX6_readBook_25_n, rX6_readBook_26, rX6_readBook_26_n, rX6_readBook_27, rX6_readBook_27_n, rX6_readBook_36, rX6_readBook_36_n, rX6_readBook_37, rX6_readBook_37_n, reduceCtorEq, up2_eq, va_rf, eq_self, or_true, true_or, Option.toList_some, Option.toList_none, List.cons_append, List.nil_append, if_true, if_false]
  · have g1 : ¬ nI (rdB st 5 (8 * ss)).2.1 = nI 0 := nI_ne0 (by omega) (by omega)
    rw [if_neg c1]
    simp only [rX6_readBook_10, rX6_readBook_13, rX6_readBook_14, rX6_readBook_14_n, g1, up2_eq, va_rf, eq_self, or_true, true_or, Option.toList_some, Option.toList_none, List.cons_append, List.nil_append, if_true, if_false]
theorem l_readFill {first : Nat} (hr : isR sh F R A rd so sv sz ss by_) (hf : first ≤ 8 * ss) : ∀ d i (st : rst), i + d = 8 * ss → okR st (8 * ss) → st.2.1 = 0 → st.1 = i →
    (rw_ (k + 2) mX6_readFill 24 [.ref rd, .int (nI first), .int (nI 1), .int (nI i)] [] (mkh n u sh (rdF F rd st) R A B) Q ↔ Q none (mkh n u sh (rdF F rd (if (rfL (bof by_) (8 * ss) d st).2 = true then (rfL (bof by_) (8 * ss) d st).1 else rdN (rfL (bof by_) (8 * ss) d st).1 6 first)) R A B)) := by
  have h1 := hr.1
  have h604 : ∀ st', rdF F rd st' 604 rd = nI (8 * ss) := fun st' => by rw [rdF_o (by decide) (by decide) (by decide)]; exact hr.2.2.2.2.1
  have hss := hr.2.2.2.1
  have e10 : ¬ nI 1 = nI 0 := by decide
  intro d
  induction d with
  | zero =>
    intro i st hi hok hz hst
    have g1 : nI (8 * ss) ≤ nI i := nI_le (by omega) (by omega)
    unfold rfL
    simp only [rX6_readFill_24, rX6_readFill_25, rX6_readFill_26, rX6_readFill_29, rX6_readFill_56, rX6_readFill_57, rX6_readFill_67, h1, h604, g1, e10, up2_eq, va_rf, eq_self, or_true, true_or, Option.toList_some, Option.toList_none, List.cons_append, List.nil_append, if_true, if_false]
  | succ d ih =>
    intro i st hi hok hz hst
    have g1 : ¬ nI (8 * ss) ≤ nI i := nI_ge (by omega) (by omega)
    simp only [rX6_readFill_24, rX6_readFill_25, rX6_readFill_26, rX6_readFill_29, rX6_readFill_32, rX6_readFill_33, rX6_readFill_36, rX6_readFill_37, h1, h604, g1, e10, up2_eq, va_rf, eq_self, or_true, true_or, Option.toList_some, Option.toList_none, List.cons_append, List.nil_append, if_true, if_false]
    have cX : ¬ rdX st 1 (8 * ss) = true := by unfold rdX; simp [hz]; omega
    have hok1 : okR (rdB st 1 (8 * ss)) (8 * ss) := okR_B hok
    have o1 := hok1.1
    rw [rX6_readFill_38 h1, k_readBits hr (by have := hok.1; omega) hok.2.1 (by omega), if_neg cX]
    unfold rfL
    have hb2 := bv_lt (b := bof by_) (p := st.1) bof_lt 1
    by_cases c1 : bv (bof by_) st.1 1 = 0
    · rw [if_pos c1, c1]
      simp only [rX6_readFill_41, rX6_readFill_44, rX6_readFill_45, rX6_readFill_48, rX6_readFill_49, rX6_readFill_50, rX6_readFill_53, nI_add, up2_eq, va_rf, eq_self, or_true, true_or, Option.toList_some, Option.toList_none, List.cons_append, List.nil_append, if_true, if_false]
      have hat : (rdB st 1 (8 * ss)).1 = i + 1 := by unfold rdB; rw [if_neg cX, hst]
      exact ih (i + 1) _ (by omega) hok1 (rdB_0 cX) hat
    · rw [if_neg c1]
      have g2 : ¬ nI (bv (bof by_) st.1 1) = nI 0 := nI_ne0 (by omega) (by omega)
      simp only [rX6_readFill_41, rX6_readFill_44, rX6_readFill_45, rX6_readFill_48, rX6_readFill_49, rX6_readFill_50, rX6_readFill_53, g2, up2_eq, va_rf, eq_self, or_true, true_or, Option.toList_some, Option.toList_none, List.cons_append, List.nil_append, if_true, if_false]
      rw [rX6_readFill_24, rX6_readFill_25, rX6_readFill_26 h1, h604, rX6_readFill_29]
      have key : rw_ (k + 2) mX6_readFill 56 [.ref rd, .int (nI first), .int (nI 0), .int (nI i + nI 1)] [] (mkh n u sh (rdF F rd (rdB st 1 (8 * ss))) R A B) Q ↔ Q none (mkh n u sh (rdF F rd (rdN (rdB st 1 (8 * ss)) 6 first)) R A B) := by
        simp only [rX6_readFill_56, rX6_readFill_57, rX6_readFill_60, rX6_readFill_61, rX6_readFill_63, up2_eq, va_rf, eq_self, or_true, true_or, Option.toList_some, Option.toList_none, List.cons_append, List.nil_append, if_true, if_false]
        rw [rX6_readFill_64 h1, k_note h1 (by omega)]
        simp only [rX6_readFill_67, up2_eq, va_rf, eq_self, or_true, true_or, Option.toList_some, Option.toList_none, List.cons_append, List.nil_append, if_true, if_false]
      split
      · rw [key]
        simp
      · rw [rX6_readFill_32, rX6_readFill_33, if_pos rfl, key]
        simp
theorem k_readFill (hr : isR sh F R A rd so sv sz ss by_) (hok : okR st (8 * ss)) (hf : st.2.1 = 0) :
    rc_ (k + 2) mX6_readFill [.ref rd] (mkh n u sh (rdF F rd st) R A B) Q ↔ Q none (mkh n u sh (rdF F rd (rfS (bof by_) (8 * ss) st)) R A B) := by
  have h1 := hr.1
  have h604 : rdF F rd st 604 rd = nI (8 * ss) := by rw [rdF_o (by decide) (by decide) (by decide)]; exact hr.2.2.2.2.1
  have hss := hr.2.2.2.1
  have o1 := hok.1
  have o2 := hok.2.1
  have e1 : nI (8 * ss) - nI st.1 = nI (8 * ss - st.1) := pk_sub hok.2.1
  rw [eX6_readFill]
  unfold rfS
  by_cases c1 : 8 * ss - st.1 < 8
  · have g1 : ¬ nI 8 ≤ nI (8 * ss - st.1) := nI_ge c1 (by omega)
    simp only [rX6_readFill_0, rX6_readFill_1, rX6_readFill_4, rX6_readFill_5, rX6_readFill_6, rX6_readFill_9, rX6_readFill_10, rX6_readFill_11, rX6_readFill_13, rX6_readFill_16, rX6_readFill_17, rX6_readFill_20, rX6_readFill_21, rX6_readFill_22, rX6_readFill_23, h1, h604, rdF_603, e1, g1, up2_eq, va_rf, eq_self, or_true, true_or, Option.toList_some, Option.toList_none, List.cons_append, List.nil_append, if_true, if_false]
    rw [l_readFill hr hok.2.1 (8 * ss - st.1) st.1 st (by omega) hok hf rfl, if_pos c1]
  · have g1 : nI 8 ≤ nI (8 * ss - st.1) := nI_le (by omega) (by omega)
    have g2 : ¬ nI (8 * ss) ≤ nI st.1 := nI_ge (by omega) (by omega)
    rw [if_neg c1]
    simp only [rX6_readFill_0, rX6_readFill_1, rX6_readFill_4, rX6_readFill_5, rX6_readFill_6, rX6_readFill_9, rX6_readFill_10, rX6_readFill_11, rX6_readFill_13, rX6_readFill_16, rX6_readFill_17, rX6_readFill_20, rX6_readFill_21, rX6_readFill_22, rX6_readFill_23, h1, h604, rdF_603, e1, g1, up2_eq, va_rf, eq_self, or_true, true_or, Option.toList_some, Option.toList_none, List.cons_append, List.nil_append, if_true, if_false]
    simp only [rX6_readFill_24, rX6_readFill_25, rX6_readFill_26, rX6_readFill_29, rX6_readFill_32, rX6_readFill_33, rX6_readFill_56, rX6_readFill_57, rX6_readFill_60, rX6_readFill_61, rX6_readFill_63, h1, h604, g2, up2_eq, va_rf, eq_self, or_true, true_or, Option.toList_some, Option.toList_none, List.cons_append, List.nil_append, if_true, if_false]
    rw [rX6_readFill_64 h1, k_note h1 (by omega)]
    simp only [rX6_readFill_67, up2_eq, va_rf, eq_self, or_true, true_or, Option.toList_some, Option.toList_none, List.cons_append, List.nil_append, if_true, if_false]
end RD7
