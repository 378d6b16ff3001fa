/-! ===== the writer: numbers, bytes, parts, a letter ===== -/
abbrev wst : Type := (Nat → Bool) × Nat
def okW (st : wst) : Prop := ∀ j, st.2 ≤ j → st.1 j = false
def wS (st : wst) (a nb : Nat) : wst := (wb st.1 st.2 a nb nb, st.2 + nb)
theorem okW.wS {st : wst} {a nb : Nat} (h : okW st) : okW (wS st a nb) := by
  intro j hj
  have hj2 : st.2 + nb ≤ j := hj
  show wb st.1 st.2 a nb nb j = false
  rw [wb_out nb nb (Or.inr hj2)]
  exact h j (by omega)
def pbS (st : wst) (bl : Nat → Nat) (p : Nat) : Nat → wst
  | 0 => st
  | i + 1 => wS (pbS st bl p i) (bl (p + i)) 8
theorem pbS_2 {st : wst} {bl : Nat → Nat} {p : Nat} : ∀ i, (pbS st bl p i).2 = st.2 + 8 * i
  | 0 => rfl
  | i + 1 => by
    show (pbS st bl p i).2 + 8 = _
    rw [pbS_2 i]
    omega
theorem okW.pbS {st : wst} {bl : Nat → Nat} {p : Nat} (h : okW st) : ∀ i, okW (pbS st bl p i)
  | 0 => h
  | i + 1 => (okW.pbS h i).wS
/-- a part: its kind, its place, its size, where it is, the row's size, the letter's bytes -/
def ptS (st : wst) (kd p nn at_ s : Nat) (bl : Nat → Nat) : wst :=
  if kd = 0 then pbS (wS (wS st kd 2) nn (gm nn)) bl at_ nn else if kd = 1 then wS (wS (wS st kd 2) p (wd s)) (nn - 2) (gm (nn - 2)) else if kd = 2 then wS (wS (wS st kd 2) p (wd at_)) (nn - 2) (gm (nn - 2)) else wS (wS st kd 2) (p + 1) (gm (p + 1))
def ptW (kd p nn at_ s : Nat) : Nat := if kd = 0 then 2 + gm nn + 8 * nn else if kd = 1 then 2 + wd s + gm (nn - 2) else if kd = 2 then 2 + wd at_ + gm (nn - 2) else 2 + gm (p + 1)
theorem ptS_2 {st : wst} {kd p nn at_ s : Nat} {bl : Nat → Nat} : (ptS st kd p nn at_ s bl).2 = st.2 + ptW kd p nn at_ s := by
  unfold ptS ptW
  split
  · rw [pbS_2]
    show st.2 + 2 + gm nn + 8 * nn = _
    omega
  · split
    · show st.2 + 2 + wd s + gm (nn - 2) = _
      omega
    · split
      · show st.2 + 2 + wd at_ + gm (nn - 2) = _
        omega
      · show st.2 + 2 + gm (p + 1) = _
        omega
theorem okW_ptS {st : wst} {kd p nn at_ s : Nat} {bl : Nat → Nat} (h : okW st) : okW (ptS st kd p nn at_ s bl) := by
  unfold ptS
  split
  · exact okW.pbS (h.wS.wS) nn
  · split
    · exact h.wS.wS.wS
    · split
      · exact h.wS.wS.wS
      · exact h.wS.wS
theorem gm_le {a : Nat} (h : a < 2 ^ 15) : gm a ≤ 29 := by
  unfold gm
  have := wd_le 15 a h
  omega
section WR2
variable {k n u : Nat} {sh : hs_} {F : hF_} {R : hR_} {A : hF_} {B : hR_} {Q : Option Value → pm_H → Prop} {wr tb tv tz ts : Nat} {st : wst}
theorem k_putS {a nb : Nat} (hs : sh wr = some (0, 10, 0)) (hR : R 1000 wr = some tb) (hb : isB sh F R tb tv tz ts) (hw : st.2 + nb < 2 ^ 30) (hcap : (st.2 + nb + 7) / 8 ≤ tz) (hbt : okW st) (ha : a < 2 ^ 31) (hnb : nb ≤ 31) :
    rc_ (k + 1) mX10_put [.ref wr, .int (nI a), .int (nI nb)] (mkh n u sh (wrF F wr tb st.2) R (wrA A tv st.1 st.2) B) Q ↔ Q none (mkh n u sh (wrF F wr tb (wS st a nb).2) R (wrA A tv (wS st a nb).1 (wS st a nb).2) B) := k_put hw hs hR hb hcap hbt ha hnb
theorem k_putGamma {a : Nat} (hs : sh wr = some (0, 10, 0)) (hR : R 1000 wr = some tb) (hb : isB sh F R tb tv tz ts) (hw : st.2 + gm a < 2 ^ 30) (hcap : (st.2 + gm a + 7) / 8 ≤ tz) (hbt : okW st) (h0 : 0 < a) (ha : a < 2 ^ 15) :
    rc_ (k + 2) mX10_putGamma [.ref wr, .int (nI a)] (mkh n u sh (wrF F wr tb st.2) R (wrA A tv st.1 st.2) B) Q ↔ Q none (mkh n u sh (wrF F wr tb (wS st a (gm a)).2) R (wrA A tv (wS st a (gm a)).1 (wS st a (gm a)).2) B) := by
  rw [eX10_putGamma]
  simp only [rX10_putGamma_0, rX10_putGamma_1, rX10_putGamma_2]
  rw [rX10_putGamma_3, k_gamma h0 (by omega)]
  simp only [up2_eq, va_rf, eq_self, or_true, true_or, Option.toList_some, Option.toList_none, List.cons_append, List.nil_append, if_true, if_false]
  have := gm_le ha
  rw [rX10_putGamma_6 hs, k_putS hs hR hb hw hcap hbt (by omega) (by omega)]
  simp only [rX10_putGamma_9, up2_eq, va_rf, eq_self, or_true, true_or, Option.toList_some, Option.toList_none, List.cons_append, List.nil_append, if_true, if_false]
theorem l_putBytes {lb lv lz m p c : Nat} {bl : Nat → Nat} (hs : sh wr = some (0, 10, 0)) (hR : R 1000 wr = some tb) (hb : isB sh F R tb tv tz ts) (hlb : isB sh F R lb lv lz m) (hne : lb ≠ tb) (hnv : lv ≠ tv) (hp : p + c ≤ m) (hbl : ∀ j, j < m → A lv j = nI (bl j) ∧ bl j < 256) (hw : st.2 + 8 * c < 2 ^ 30) (hcap : (st.2 + 8 * c + 7) / 8 ≤ tz) (hbt : okW st) :
    ∀ d i, i + d = c → (rw_ (k + 2) mX10_putBytes 3 [.ref wr, .ref lb, .int (nI p), .int (nI c), .int (nI i)] [] (mkh n u sh (wrF F wr tb (pbS st bl p i).2) R (wrA A tv (pbS st bl p i).1 (pbS st bl p i).2) B) Q ↔ Q none (mkh n u sh (wrF F wr tb (pbS st bl p c).2) R (wrA A tv (pbS st bl p c).1 (pbS st bl p c).2) B)) := by
  have hz := hlb.2.2.2.1
  have hm := hlb.2.2.2.2.2
  intro d
  induction d with
  | zero =>
    intro i hi
    have e1 : i = c := by omega
    subst e1
    have g1 : nI i ≤ nI i := nI_le (Nat.le_refl _) (by omega)
    simp only [rX10_putBytes_3, rX10_putBytes_5, rX10_putBytes_6, rX10_putBytes_29, g1, up2_eq, va_rf, eq_self, or_true, true_or, Option.toList_some, Option.toList_none, List.cons_append, List.nil_append, if_true, if_false]
  | succ d ih =>
    intro i hi
    have g1 : ¬ nI c ≤ nI i := nI_ge (by omega) (by omega)
    have hlb2 : isB sh (wrF F wr tb (pbS st bl p i).2) R lb lv lz m := (hlb.other hne).F (by decide)
    obtain ⟨q1, q2⟩ := hbl (p + i) (by omega)
    have h2 := pbS_2 (st := st) (bl := bl) (p := p) i
    simp only [rX10_putBytes_3, rX10_putBytes_5, rX10_putBytes_6, rX10_putBytes_9, rX10_putBytes_10, rX10_putBytes_10_n, rX10_putBytes_11, rX10_putBytes_12, rX10_putBytes_14, g1, nI_add, up2_eq, va_rf, eq_self, or_true, true_or, Option.toList_some, Option.toList_none, List.cons_append, List.nil_append, if_true, if_false]
    rw [rX10_putBytes_15 hlb.1, k_Bytes_at hlb2, bat_in (by omega) (by omega)]
    have q3 : wrA A tv (pbS st bl p i).1 (pbS st bl p i).2 lv (p + i) = nI (bl (p + i)) := by unfold wrA; rw [pfx_out hnv, q1]
    rw [q3]
    simp only [rX10_putBytes_18, up2_eq, va_rf, eq_self, or_true, true_or, Option.toList_some, Option.toList_none, List.cons_append, List.nil_append, if_true, if_false]
    rw [rX10_putBytes_20 hs, k_putS (st := pbS st bl p i) hs hR hb (by omega) (by omega) (okW.pbS hbt i) (by omega) (by omega)]
    simp only [rX10_putBytes_23, rX10_putBytes_26, nI_add, up2_eq, va_rf, eq_self, or_true, true_or, Option.toList_some, Option.toList_none, List.cons_append, List.nil_append, if_true, if_false]
    exact ih (i + 1) (by omega)
theorem k_putBytes {lb lv lz m p c : Nat} {bl : Nat → Nat} (hs : sh wr = some (0, 10, 0)) (hR : R 1000 wr = some tb) (hb : isB sh F R tb tv tz ts) (hlb : isB sh F R lb lv lz m) (hne : lb ≠ tb) (hnv : lv ≠ tv) (hp : p + c ≤ m) (hbl : ∀ j, j < m → A lv j = nI (bl j) ∧ bl j < 256) (hw : st.2 + 8 * c < 2 ^ 30) (hcap : (st.2 + 8 * c + 7) / 8 ≤ tz) (hbt : okW st) :
    rc_ (k + 2) mX10_putBytes [.ref wr, .ref lb, .int (nI p), .int (nI c)] (mkh n u sh (wrF F wr tb st.2) R (wrA A tv st.1 st.2) B) Q ↔ Q none (mkh n u sh (wrF F wr tb (pbS st bl p c).2) R (wrA A tv (pbS st bl p c).1 (pbS st bl p c).2) B) := by
  rw [eX10_putBytes]
  simp only [rX10_putBytes_0, rX10_putBytes_1]
  exact l_putBytes hs hR hb hlb hne hnv hp hbl hw hcap hbt c 0 (by omega)
theorem wrF_o {q a w : Nat} (h1 : q ≠ 101) (h2 : q ≠ 1001) : wrF F wr tb w q a = F q a := by
  unfold wrF
  rw [up2_k h2, up2_k h1]
/-- what a plan holds, as numbers -/
def isPl (A : hF_) (pk m : Nat) (kd pp ln : Nat → Nat) : Prop := ∀ j, j < m → A (pk + 3) j = nI (kd j) ∧ kd j < 4 ∧ (kd j ≠ 0 → A (pk + 4) j = nI (pp j) ∧ pp j < 2 ^ 14) ∧ A (pk + 5) j = nI (ln j) ∧ 1 ≤ ln j ∧ j + ln j ≤ m ∧ (kd j = 1 ∨ kd j = 2 → 3 ≤ ln j)
theorem k_putPart {lb lv lz m at_ o r v z s e ze c pk : Nat} {E kd pp ln bl : Nat → Nat} (hs : sh wr = some (0, 10, 0)) (hR : R 1000 wr = some tb) (hb : isB sh F R tb tv tz ts) (hlb : isB sh F R lb lv lz m) (hne : lb ≠ tb) (hnv : lv ≠ tv) (hbl : ∀ j, j < m → A lv j = nI (bl j) ∧ bl j < 256)
    (hp : isP sh F R A o r v z s e ze c E) (hrt : r ≠ tb) (hs320 : s ≤ 320) (hk : isK sh R pk) (hm : F 410 pk = nI m) (hm2 : m ≤ 120) (htv : tv < pk + 1 ∨ pk + 8 < tv) (hpl : isPl A pk m kd pp ln) (hat : at_ < m) (hw : st.2 + ptW (kd at_) (pp at_) (ln at_) at_ s < 2 ^ 30) (hcap : (st.2 + ptW (kd at_) (pp at_) (ln at_) at_ s + 7) / 8 ≤ tz) (hbt : okW st) :
    rc_ (k + 3) mX10_putPart [.ref wr, .ref lb, .ref o, .ref pk, .int (nI at_)] (mkh n u sh (wrF F wr tb st.2) R (wrA A tv st.1 st.2) B) Q ↔ Q none (mkh n u sh (wrF F wr tb (ptS st (kd at_) (pp at_) (ln at_) at_ s bl).2) R (wrA A tv (ptS st (kd at_) (pp at_) (ln at_) at_ s bl).1 (ptS st (kd at_) (pp at_) (ln at_) at_ s bl).2) B) := by
  obtain ⟨p1, p2, p3, p4, p5, p6, p7⟩ := hpl at_ hat
  have hmw : wrF F wr tb st.2 410 pk = nI m := by rw [wrF_o (by decide) (by decide)]; exact hm
  have a3 : wrA A tv st.1 st.2 (pk + 3) at_ = nI (kd at_) := by unfold wrA; rw [pfx_out (by omega), p1]
  have a5 : wrA A tv st.1 st.2 (pk + 5) at_ = nI (ln at_) := by unfold wrA; rw [pfx_out (by omega), p4]
  have ho := hp.1
  have hro := hp.2.1
  have hrb := hp.2.2.2.2.2.2.2.2
  rw [eX10_putPart]
  simp only [rX10_putPart_0, rX10_putPart_0_n, rX10_putPart_1]
  rw [rX10_putPart_3 hk.1, k_kindAt hk hmw hm2 hat, a3]
  simp only [rX10_putPart_6, rX10_putPart_8, rX10_putPart_8_n, rX10_putPart_9, up2_eq, va_rf, eq_self, or_true, true_or, Option.toList_some, Option.toList_none, List.cons_append, List.nil_append, if_true, if_false]
  rw [rX10_putPart_11 hk.1, k_placeAt hk hmw hm2 hat]
  generalize hpl4 : wrA A tv st.1 st.2 (pk + 4) at_ = pv
  simp only [rX10_putPart_14, rX10_putPart_16, rX10_putPart_16_n, rX10_putPart_17, up2_eq, va_rf, eq_self, or_true, true_or, Option.toList_some, Option.toList_none, List.cons_append, List.nil_append, if_true, if_false]
  rw [rX10_putPart_19 hk.1, k_lengthAt hk hmw hm2 hat, a5]
  simp only [rX10_putPart_22, rX10_putPart_24, rX10_putPart_25, rX10_putPart_27, up2_eq, va_rf, eq_self, or_true, true_or, Option.toList_some, Option.toList_none, List.cons_append, List.nil_append, if_true, if_false]
  have hW2 : st.2 + 2 ≤ st.2 + ptW (kd at_) (pp at_) (ln at_) at_ s := by
    unfold ptW
    split
    · omega
    · split
      · omega
      · split <;> omega
  rw [rX10_putPart_28 hs, k_putS hs hR hb (by omega) (by omega) hbt (by omega) (by omega)]
  have hok := hbt.wS (a := kd at_) (nb := 2)
  have hS2 : (wS st (kd at_) 2).2 = st.2 + 2 := rfl
  have hpv : kd at_ ≠ 0 → pv = nI (pp at_) := fun h => by rw [← hpl4]; unfold wrA; rw [pfx_out (by omega)]; exact (p3 h).1
  unfold ptS
  unfold ptW at hw hcap
  rcases (by omega : kd at_ = 0 ∨ kd at_ = 1 ∨ kd at_ = 2 ∨ kd at_ = 3) with h | h | h | h
  · rw [h] at hw hcap hok hS2 ⊢
    simp only [if_true] at hw hcap
    simp only [rX10_putPart_31, rX10_putPart_33, rX10_putPart_60, rX10_putPart_61, up2_eq, va_rf, eq_self, or_true, true_or, Option.toList_some, Option.toList_none, List.cons_append, List.nil_append, if_true, if_false]
    rw [rX10_putPart_63 hs, k_putGamma (st := wS st 0 2) hs hR hb (by omega) (by omega) hok (by omega) (by omega)]
    simp only [rX10_putPart_66, rX10_putPart_67, rX10_putPart_67_n, rX10_putPart_68, rX10_putPart_70, up2_eq, va_rf, eq_self, or_true, true_or, Option.toList_some, Option.toList_none, List.cons_append, List.nil_append, if_true, if_false]
    have hS3 : (wS (wS st 0 2) (ln at_) (gm (ln at_))).2 = st.2 + 2 + gm (ln at_) := rfl
    rw [rX10_putPart_72 hs, k_putBytes (st := wS (wS st 0 2) (ln at_) (gm (ln at_))) hs hR hb hlb hne hnv p6 hbl (by omega) (by omega) hok.wS]
    simp only [rX10_putPart_75, rX10_putPart_135, up2_eq, va_rf, eq_self, or_true, true_or, Option.toList_some, Option.toList_none, List.cons_append, List.nil_append, if_true, if_false]
  · have hpv1 := hpv (by omega)
    have hpb := (p3 (by omega)).2
    have hl3 := p7 (by omega)
    subst hpv1
    rw [h] at hw hcap hok hS2 ⊢
    have n10 : ¬ (1 : Nat) = 0 := by decide
    simp only [n10, if_true, if_false] at hw hcap
    have g0 : ¬ nI 1 = nI 0 := by decide
    have hsz : wrF F wr tb (wS st 1 2).2 101 r = nI s := by unfold wrF; rw [up2_k (by decide), up2_a hrt]; exact hrb.2.2.2.2.1
    simp only [rX10_putPart_31, rX10_putPart_33, rX10_putPart_78, rX10_putPart_79, rX10_putPart_81, rX10_putPart_81_n, rX10_putPart_82, rX10_putPart_85, g0, ho, hro, hrb.1, hsz, n10, up2_eq, va_rf, eq_self, or_true, true_or, Option.toList_some, Option.toList_none, List.cons_append, List.nil_append, if_true, if_false]
    have hwd := wd_le 9 s (by omega)
    rw [rX10_putPart_88, k_width (by omega)]
    simp only [up2_eq, va_rf, eq_self, or_true, true_or, Option.toList_some, Option.toList_none, List.cons_append, List.nil_append, if_true, if_false]
    rw [rX10_putPart_91 hs, k_putS (st := wS st 1 2) hs hR hb (by omega) (by omega) hok (by omega) (by omega)]
    simp only [rX10_putPart_94, rX10_putPart_95, rX10_putPart_97, rX10_putPart_98, pk_sub (show 2 ≤ ln at_ by omega), up2_eq, va_rf, eq_self, or_true, true_or, Option.toList_some, Option.toList_none, List.cons_append, List.nil_append, if_true, if_false]
    have hS3 : (wS (wS st 1 2) (pp at_) (wd s)).2 = st.2 + 2 + wd s := rfl
    rw [rX10_putPart_99 hs, k_putGamma (st := wS (wS st 1 2) (pp at_) (wd s)) hs hR hb (by omega) (by omega) hok.wS (by omega) (by omega)]
    simp only [rX10_putPart_102, rX10_putPart_135, up2_eq, va_rf, eq_self, or_true, true_or, Option.toList_some, Option.toList_none, List.cons_append, List.nil_append, if_true, if_false]
  · have hpv1 := hpv (by omega)
    have hpb := (p3 (by omega)).2
    have hl3 := p7 (by omega)
    subst hpv1
    rw [h] at hw hcap hok hS2 ⊢
    have n10 : ¬ (2 : Nat) = 0 := by decide
    have n11 : ¬ (2 : Nat) = 1 := by decide
    simp only [n10, n11, if_true, if_false] at hw hcap
    have g0 : ¬ nI 2 = nI 0 := by decide
    have g1 : ¬ nI 2 = nI 1 := by decide
    simp only [rX10_putPart_31, rX10_putPart_33, rX10_putPart_105, rX10_putPart_106, rX10_putPart_108, g0, g1, n10, n11, up2_eq, va_rf, eq_self, or_true, true_or, Option.toList_some, Option.toList_none, List.cons_append, List.nil_append, if_true, if_false]
    have hwd := wd_le 9 at_ (by omega)
    rw [rX10_putPart_110, k_width (by omega)]
    simp only [up2_eq, va_rf, eq_self, or_true, true_or, Option.toList_some, Option.toList_none, List.cons_append, List.nil_append, if_true, if_false]
    rw [rX10_putPart_113 hs, k_putS (st := wS st 2 2) hs hR hb (by omega) (by omega) hok (by omega) (by omega)]
    simp only [rX10_putPart_116, rX10_putPart_117, rX10_putPart_119, rX10_putPart_120, pk_sub (show 2 ≤ ln at_ by omega), up2_eq, va_rf, eq_self, or_true, true_or, Option.toList_some, Option.toList_none, List.cons_append, List.nil_append, if_true, if_false]
    have hS3 : (wS (wS st 2 2) (pp at_) (wd at_)).2 = st.2 + 2 + wd at_ := rfl
    rw [rX10_putPart_121 hs, k_putGamma (st := wS (wS st 2 2) (pp at_) (wd at_)) hs hR hb (by omega) (by omega) hok.wS (by omega) (by omega)]
    simp only [rX10_putPart_124, rX10_putPart_135, up2_eq, va_rf, eq_self, or_true, true_or, Option.toList_some, Option.toList_none, List.cons_append, List.nil_append, if_true, if_false]
  · have hpv1 := hpv (by omega)
    have hpb := (p3 (by omega)).2
    subst hpv1
    rw [h] at hw hcap hok hS2 ⊢
    have n10 : ¬ (3 : Nat) = 0 := by decide
    have n11 : ¬ (3 : Nat) = 1 := by decide
    have n12 : ¬ (3 : Nat) = 2 := by decide
    simp only [n10, n11, n12, if_false] at hw hcap
    have g0 : ¬ nI 3 = nI 0 := by decide
    have g1 : ¬ nI 3 = nI 1 := by decide
    have g2 : ¬ nI 3 = nI 2 := by decide
    simp only [rX10_putPart_31, rX10_putPart_33, rX10_putPart_127, rX10_putPart_128, rX10_putPart_130, rX10_putPart_131, g0, g1, g2, n10, n11, n12, nI_add, up2_eq, va_rf, eq_self, or_true, true_or, Option.toList_some, Option.toList_none, List.cons_append, List.nil_append, if_true, if_false]
    rw [rX10_putPart_132 hs, k_putGamma (st := wS st 3 2) hs hR hb (by omega) (by omega) hok (by omega) (by omega)]
    simp only [rX10_putPart_135, up2_eq, va_rf, eq_self, or_true, true_or, Option.toList_some, Option.toList_none, List.cons_append, List.nil_append, if_true, if_false]
end WR2
