/-! ===== the reader: copies, own bytes ===== -/
theorem nI_byte {x : Nat} (h : x < 256) : nI x &&& nI 255 = nI x := by
  rw [pk_andN (by omega) 8 (by decide), Nat.mod_eq_of_lt h]
/-- the fields when m bytes of the letter are read; the rows -/
def rsF (F : hF_) (rd lt : Nat) (st : rst) (m : Nat) : hF_ := rdF (up2 F 101 lt (nI m)) rd st
def rsA (A : hF_) (lv : Nat) (L : Nat → Nat) (m : Nat) : hF_ := pfx A lv (fun j => nI (L j)) m
theorem acp_rs {A : hF_} {lv m v2 fr c : Nat} {g g' : Nat → Int32} (h1 : ∀ j, j < m → g' j = g j) (h2 : ∀ i, i < c → g' (m + i) = pfx A lv g m v2 (fr + i)) : acp (pfx A lv g m) lv m v2 fr c = pfx A lv g' (m + c) := by
  funext a j
  by_cases ha : a = lv
  · subst ha
    by_cases hj : j < m
    · rw [acp_out (by omega), pfx_new hj, pfx_new (by omega), h1 j hj]
    · by_cases hj2 : j < m + c
      · rw [acp_in (by omega) hj2, pfx_new hj2, ← h2 (j - m) (by omega), show m + (j - m) = j by omega]
      · rw [acp_out (by omega), pfx_old (by omega), pfx_old (by omega)]
  · rw [acp_out (Or.inl ha), pfx_out ha, pfx_out ha]
theorem rsF_sw {F : hF_} {rd lt m m' : Nat} {st : rst} : up2 (rsF F rd lt st m) 101 lt (nI m') = rsF F rd lt st m' := by
  unfold rsF rdF
  rw [up2_sw (k := 607) (k' := 101) (by decide), up2_sw (k := 606) (k' := 101) (by decide), up2_sw (k := 603) (k' := 101) (by decide), up2_up2]
/-- the letter with more bytes behind it -/
def lcp (L src : Nat → Nat) (m fr : Nat) : Nat → Nat := fun j => if j < m then L j else src (fr + (j - m))
section RD3
variable {k n u : Nat} {sh : hs_} {F : hF_} {R : hR_} {A : hF_} {B : hR_} {Q : Option Value → pm_H → Prop} {rd so sv sz ss N lt lv lz l0 m zs : Nat} {by_ L : Nat → Nat} {st : rst}
theorem rs_isB (hb : isB sh F R lt lv lz l0) (hm : m ≤ lz) : isB sh (rsF F rd lt st m) R lt lv lz m := isB.rd (hb.size hm)
theorem k_takeCopy0 {fi x3 x4 x5 : Int32} {ro : Nat} (hs : sh rd = some (0, 6, 0)) (hf : ¬ st.2.1 = 0) (hf2 : st.2.1 < 7) :
    rc_ k mX6_takeCopy [.ref rd, .int fi, .ref ro, .int x3, .int x4, .int x5] (mkh n u sh (rsF F rd lt st m) R A B) Q ↔ Q none (mkh n u sh (rsF F rd lt st m) R A B) := by
  rw [eX6_takeCopy]
  have g1 : ¬ nI st.2.1 = nI 0 := nI_ne0 (by omega) (by omega)
  have g2 : rsF F rd lt st m 606 rd = nI st.2.1 := rdF_606
  simp only [rX6_takeCopy_0, rX6_takeCopy_1, rX6_takeCopy_4, rX6_takeCopy_7, hs, g1, g2, up2_eq, va_rf, eq_self, or_true, true_or, Option.toList_some, Option.toList_none, List.cons_append, List.nil_append, if_true, if_false]
theorem k_takeCopy {first fr nn bh ro v2 z2 s2 : Nat} {src : Nat → Nat} (hs : sh rd = some (0, 6, 0)) (hR : R 601 rd = some lt) (hb : isB sh F R lt lv lz l0) (hlz : lz = 120) (hzs : F 605 rd = nI zs) (hz120 : zs ≤ 120) (hm : m ≤ zs) (hf : st.2.1 = 0) (hb2 : isB sh (rsF F rd lt st m) R ro v2 z2 s2) (hsrc : ∀ j, j < s2 → rsA A lv L m v2 j = nI (src j) ∧ src j < 256) (hbh : bh ≤ s2) (hself : v2 = lv → s2 ≤ m) (hfr : fr < 2 ^ 20) (hnn : nn < 2 ^ 20) (hs2 : s2 < 2 ^ 20) :
    rc_ (k + 2) mX6_takeCopy [.ref rd, .int (nI first), .ref ro, .int (nI fr), .int (nI nn), .int (nI bh)] (mkh n u sh (rsF F rd lt st m) R (rsA A lv L m) B) Q ↔ (if bh < fr + nn ∨ zs - m < nn then Q none (mkh n u sh (rsF F rd lt (rdN st 5 first) m) R (rsA A lv L m) B) else Q none (mkh n u sh (rsF F rd lt st (m + nn)) R (rsA A lv (lcp L src m fr) (m + nn)) B)) := by
  rw [eX6_takeCopy]
  have g1 : nI st.2.1 = nI 0 := by rw [hf]
  have g2 : rsF F rd lt st m 606 rd = nI st.2.1 := rdF_606
  have hbL : isB sh (rsF F rd lt st m) R lt lv lz m := rs_isB hb (by omega)
  have g3 : rsF F rd lt st m 605 rd = nI zs := by
    unfold rsF
    rw [rdF_o (by decide) (by decide) (by decide), up2_k (by decide)]
    exact hzs
  have g4 := hbL.2.2.2.2.1
  simp only [rX6_takeCopy_0, rX6_takeCopy_1, rX6_takeCopy_4, rX6_takeCopy_8, rX6_takeCopy_9, rX6_takeCopy_11, rX6_takeCopy_12, hs, g1, g2, nI_add, up2_eq, va_rf, eq_self, or_true, true_or, Option.toList_some, Option.toList_none, List.cons_append, List.nil_append, if_true, if_false]
  have bad : (rw_ (k + 2) mX6_takeCopy 34 [.ref rd, .int (nI first), .ref ro, .int (nI fr), .int (nI nn), .int (nI bh)] [] (mkh n u sh (rsF F rd lt st m) R (rsA A lv L m) B) Q ↔ Q none (mkh n u sh (rsF F rd lt (rdN st 5 first) m) R (rsA A lv L m) B)) := by
    simp only [rX6_takeCopy_34, rX6_takeCopy_35, rX6_takeCopy_36]
    have hn := k_note (k := k + 1) (n := n) (u := u) (F := up2 F 101 lt (nI m)) (R := R) (A := rsA A lv L m) (B := B) (st := st) (code := 5) (wh := first) (Q := fun r hp' => rw_ (k + 2) mX6_takeCopy 40 [.ref rd, .int (nI first), .ref ro, .int (nI fr), .int (nI nn), .int (nI bh)] (r.toList ++ []) hp' Q) hs (by omega)
    refine (rX6_takeCopy_37 hs).trans (hn.trans ?_)
    simp only [rX6_takeCopy_40, up2_eq, va_rf, eq_self, or_true, true_or, Option.toList_some, Option.toList_none, List.cons_append, List.nil_append, if_true, if_false]
    rfl
  by_cases c1 : bh < fr + nn
  · have g5 : nI bh < nI (fr + nn) := nI_lt c1 (by omega)
    simp only [rX6_takeCopy_14, g5, up2_eq, va_rf, eq_self, or_true, true_or, Option.toList_some, Option.toList_none, List.cons_append, List.nil_append, if_true, if_false]
    rw [if_pos (Or.inl c1)]
    exact bad
  · have g5 : ¬ nI bh < nI (fr + nn) := nI_nlt (by omega) (by omega)
    simp only [rX6_takeCopy_14, rX6_takeCopy_17, rX6_takeCopy_19, rX6_takeCopy_20, rX6_takeCopy_23, rX6_takeCopy_24, rX6_takeCopy_27, rX6_takeCopy_30, hs, hR, hb.1, g3, g4, g5, pk_sub hm, up2_eq, va_rf, eq_self, or_true, true_or, Option.toList_some, Option.toList_none, List.cons_append, List.nil_append, if_true, if_false]
    by_cases c2 : zs - m < nn
    · have g6 : ¬ nI nn ≤ nI (zs - m) := nI_ge c2 (by omega)
      simp only [rX6_takeCopy_31, g6, up2_eq, va_rf, eq_self, or_true, true_or, Option.toList_some, Option.toList_none, List.cons_append, List.nil_append, if_true, if_false]
      rw [if_pos (Or.inr c2)]
      exact bad
    · have g6 : nI nn ≤ nI (zs - m) := nI_le (by omega) (by omega)
      simp only [rX6_takeCopy_31, rX6_takeCopy_41, rX6_takeCopy_42, rX6_takeCopy_45, rX6_takeCopy_45_n, rX6_takeCopy_46, rX6_takeCopy_47, hs, hR, g6, up2_eq, va_rf, eq_self, or_true, true_or, Option.toList_some, Option.toList_none, List.cons_append, List.nil_append, if_true, if_false]
      rw [if_neg (fun x => x.elim c1 c2)]
      rw [rX6_takeCopy_49 hb.1, k_Bytes_append hbL hb2 (by omega) (by omega) (fun e => by have := hself e; omega) (fun j hj => by rw [(hsrc j hj).1]; exact nI_byte (hsrc j hj).2), rsF_sw]
      simp only [rX6_takeCopy_52, up2_eq, va_rf, eq_self, or_true, true_or, Option.toList_some, Option.toList_none, List.cons_append, List.nil_append, if_true, if_false]
      have e : acp (rsA A lv L m) lv m v2 fr nn = rsA A lv (lcp L src m fr) (m + nn) := by
        unfold rsA
        refine acp_rs (fun j hj => ?_) (fun i hi => ?_)
        · unfold lcp
          rw [if_pos hj]
        · have h9 := (hsrc (fr + i) (by omega)).1
          unfold rsA at h9
          rw [h9]
          unfold lcp
          rw [if_neg (by omega), show m + i - m = i by omega]
      rw [e]
/-- own bytes: d of them yet -/
def roL (b : Nat → Nat) (N : Nat) : Nat → rst → Nat → (Nat → Nat) → rst × Nat × (Nat → Nat)
  | 0, st, m, L => (st, m, L)
  | d + 1, st, m, L => if st.2.1 = 0 then (if rdX st 8 N = true then roL b N d (rdB st 8 N) m L else roL b N d (rdB st 8 N) (m + 1) (fun j => if j = m then bv b st.1 8 else L j)) else (st, m, L)
theorem l_readOwn {fi : Int32} {c : Nat} (hr : isR sh F R A rd so sv sz ss by_) (hso : so ≠ lt) (hsv : sv ≠ lv) (hR : R 601 rd = some lt) (hb : isB sh F R lt lv lz l0) (hlz : lz = 120) (hc : c ≤ 120) :
    ∀ d i (st : rst) (m : Nat) (L : Nat → Nat), i + d = c → okR st (8 * ss) → m + d ≤ 120 → ∀ y4 : Value, (rw_ (k + 2) mX6_readOwn 43 [.ref rd, .int fi, .int (nI c), .int (nI i), y4] [] (mkh n u sh (rsF F rd lt st m) R (rsA A lv L m) B) Q ↔ Q none (mkh n u sh (rsF F rd lt (roL (bof by_) (8 * ss) d st m L).1 (roL (bof by_) (8 * ss) d st m L).2.1) R (rsA A lv (roL (bof by_) (8 * ss) d st m L).2.2 (roL (bof by_) (8 * ss) d st m L).2.1) B)) := by
  obtain ⟨h1, h2, h3, h4, h5, h6⟩ := hr
  intro d
  induction d with
  | zero =>
    intro i st m L hi hok hm y4
    have e1 : i = c := by omega
    subst e1
    have g1 : nI i ≤ nI i := nI_le (Nat.le_refl _) (by omega)
    simp only [rX6_readOwn_43, rX6_readOwn_44, rX6_readOwn_45, rX6_readOwn_85, g1, up2_eq, va_rf, eq_self, or_true, true_or, Option.toList_some, Option.toList_none, List.cons_append, List.nil_append, if_true, if_false]
    rfl
  | succ d ih =>
    intro i st m L hi hok hm y4
    have o1 := hok.1
    have g1 : ¬ nI c ≤ nI i := nI_ge (by omega) (by omega)
    have g2 : ∀ st : rst, ∀ m, rsF F rd lt st m 606 rd = nI st.2.1 := fun st m => rdF_606
    have hr2 : isR sh (up2 F 101 lt (nI m)) R (rsA A lv L m) rd so sv sz ss by_ := ⟨h1, h2, h3.other hso, h4, by rw [up2_k (by decide)]; exact h5, fun j hj => by unfold rsA; rw [pfx_out hsv]; exact h6 j hj⟩
    unfold roL
    by_cases c1 : st.2.1 = 0
    · have g3 : nI st.2.1 = nI 0 := by rw [c1]
      simp only [rX6_readOwn_43, rX6_readOwn_44, rX6_readOwn_45, rX6_readOwn_48, rX6_readOwn_49, rX6_readOwn_52, rX6_readOwn_55, rX6_readOwn_56, h1, g1, g2, g3, c1, up2_eq, va_rf, eq_self, or_true, true_or, Option.toList_some, Option.toList_none, List.cons_append, List.nil_append, if_true, if_false]
      have hrb := k_readBits (k := k) (n := n) (u := u) (B := B) (st := st) (nb := 8) (Q := fun r hp' => rw_ (k + 2) mX6_readOwn 61 [.ref rd, .int fi, .int (nI c), .int (nI i), y4] (r.toList ++ []) hp' Q) hr2 (by omega) hok.2.1 (by omega)
      refine (rX6_readOwn_58 h1).trans (hrb.trans ?_)
      have hokB : okR (rdB st 8 (8 * ss)) (8 * ss) := okR_B hok
      have o2 := hokB.1
      by_cases c2 : rdX st 8 (8 * ss) = true
      · have hfx : ¬ (rdB st 8 (8 * ss)).2.1 = 0 := by
          unfold rdB
          rw [if_pos c2]
          unfold rdN
          rw [if_pos c1]
          show ¬ (1 : Nat) = 0
          decide
        have g4 : ¬ nI (rdB st 8 (8 * ss)).2.1 = nI 0 := nI_ne0 (by omega) (by omega)
        have g5 : rdF (up2 F 101 lt (nI m)) rd (rdB st 8 (8 * ss)) 606 rd = nI (rdB st 8 (8 * ss)).2.1 := rdF_606
        simp only [rX6_readOwn_61, rX6_readOwn_63, rX6_readOwn_64, rX6_readOwn_67, rX6_readOwn_79, rX6_readOwn_82, h1, c2, g4, g5, nI_add, up2_eq, va_rf, eq_self, or_true, true_or, Option.toList_some, Option.toList_none, List.cons_append, List.nil_append, if_true, if_false]
        exact ih (i + 1) (rdB st 8 (8 * ss)) m L (by omega) hokB (by omega) _
      · have hfx : (rdB st 8 (8 * ss)).2.1 = 0 := by
          unfold rdB
          rw [if_neg c2]
          exact c1
        have g4 : nI (rdB st 8 (8 * ss)).2.1 = nI 0 := by rw [hfx]
        have g5 : rdF (up2 F 101 lt (nI m)) rd (rdB st 8 (8 * ss)) 606 rd = nI (rdB st 8 (8 * ss)).2.1 := rdF_606
        have hb8 := bv_lt (b := bof by_) (p := st.1) bof_lt 8
        simp only [rX6_readOwn_61, rX6_readOwn_63, rX6_readOwn_64, rX6_readOwn_67, rX6_readOwn_70, rX6_readOwn_71, rX6_readOwn_74, h1, hR, c2, g4, g5, Bool.false_eq_true, up2_eq, va_rf, eq_self, or_true, true_or, Option.toList_some, Option.toList_none, List.cons_append, List.nil_append, if_true, if_false]
        have hbL : isB sh (rdF (up2 F 101 lt (nI m)) rd (rdB st 8 (8 * ss))) R lt lv lz m := isB.rd (hb.size (by omega))
        rw [rX6_readOwn_76 hb.1, k_Bytes_add hbL (by omega), nI_byte hb8]
        simp only [rX6_readOwn_79, rX6_readOwn_82, nI_add, up2_eq, va_rf, eq_self, or_true, true_or, Option.toList_some, Option.toList_none, List.cons_append, List.nil_append, if_true, if_false]
        have eF : up2 (rdF (up2 F 101 lt (nI m)) rd (rdB st 8 (8 * ss))) 101 lt (nI (m + 1)) = rsF F rd lt (rdB st 8 (8 * ss)) (m + 1) := rsF_sw
        have eA : up2 (rsA A lv L m) lv m (nI (bv (bof by_) st.1 8)) = rsA A lv (fun j => if j = m then bv (bof by_) st.1 8 else L j) (m + 1) := by
          unfold rsA
          have hs := pfx_s (A := A) (a := lv) (P := m) (g := fun j => nI (if j = m then bv (bof by_) st.1 8 else L j))
          rw [← hs]
          have e2 : pfx A lv (fun j => nI (L j)) m = pfx A lv (fun j => nI (if j = m then bv (bof by_) st.1 8 else L j)) m := by
            funext a j
            unfold pfx
            by_cases hh : a = lv ∧ j < m
            · rw [if_pos hh, if_pos hh]
              dsimp only
              rw [if_neg (by omega)]
            · rw [if_neg hh, if_neg hh]
          rw [e2]
          simp
        rw [eF, eA]
        exact ih (i + 1) (rdB st 8 (8 * ss)) (m + 1) _ (by omega) hokB (by omega) _
    · have g3 : ¬ nI st.2.1 = nI 0 := nI_ne0 (by omega) (by omega)
      simp only [rX6_readOwn_43, rX6_readOwn_44, rX6_readOwn_45, rX6_readOwn_48, rX6_readOwn_49, rX6_readOwn_52, rX6_readOwn_85, h1, g1, g2, g3, c1, up2_eq, va_rf, eq_self, or_true, true_or, Option.toList_some, Option.toList_none, List.cons_append, List.nil_append, if_true, if_false]
end RD3
