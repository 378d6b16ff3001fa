/-! ===== the writer: a letter; the packer: startOfPart, making ===== -/
def wrL (kd pp ln bl : Nat → Nat) (s m : Nat) : Nat → Nat → wst → wst
  | 0, _, st => st
  | d + 1, at_, st => if at_ < m then wrL kd pp ln bl s m d (at_ + ln at_) (ptS st (kd at_) (pp at_) (ln at_) at_ s bl) else st
theorem wrL_le {kd pp ln bl : Nat → Nat} {s m : Nat} : ∀ d at_ st, st.2 ≤ (wrL kd pp ln bl s m d at_ st).2
  | 0, _, _ => Nat.le_refl _
  | d + 1, at_, st => by
    unfold wrL
    split
    · have h1 := wrL_le (kd := kd) (pp := pp) (ln := ln) (bl := bl) (s := s) (m := m) d (at_ + ln at_) (ptS st (kd at_) (pp at_) (ln at_) at_ s bl)
      rw [ptS_2] at h1
      omega
    · exact Nat.le_refl _
theorem wrL_end {kd pp ln bl : Nat → Nat} {s m at_ : Nat} {st : wst} (h : ¬ at_ < m) : ∀ d, wrL kd pp ln bl s m d at_ st = st
  | 0 => rfl
  | d + 1 => by
    unfold wrL
    rw [if_neg h]
section WR3
variable {k n u : Nat} {sh : hs_} {F : hF_} {R : hR_} {A : hF_} {B : hR_} {Q : Option Value → pm_H → Prop} {wr tb tv tz ts : Nat}
theorem l_write {lb lv lz m o r v z s e ze c pk bo : Nat} {E kd pp ln bl : Nat → Nat} {x4 : Value} (hs : sh wr = some (0, 10, 0)) (hR : R 1000 wr = some tb) (hb : isB sh F R tb tv tz ts) (hlb : isB sh F R lb lv lz m) (hne : lb ≠ tb) (hnv : lv ≠ tv) (hbl : ∀ j, j < m → A lv j = nI (bl j) ∧ bl j < 256) (hbo : sh bo = some (0, 0, 0)) (hbp : R 2 bo = some o)
    (hp : isP sh F R A o r v z s e ze c E) (hrt : r ≠ tb) (hs320 : s ≤ 320) (hk : isK sh R pk) (hm : F 410 pk = nI m) (hm2 : m ≤ 120) (htv : tv < pk + 1 ∨ pk + 8 < tv) (hpl : isPl A pk m kd pp ln) :
    ∀ d j at_ (st : wst), j + d = 120 → j ≤ at_ → at_ ≤ 240 → okW st → (wrL kd pp ln bl s m d at_ st).2 < 2 ^ 30 → ((wrL kd pp ln bl s m d at_ st).2 + 7) / 8 ≤ tz → (rw_ (k + 4) mX10_write 45 [.ref wr, .ref lb, .ref bo, .ref pk, x4, .int (nI at_), .int (nI j)] [] (mkh n u sh (wrF F wr tb st.2) R (wrA A tv st.1 st.2) B) Q ↔ Q none (mkh n u sh (wrF F wr tb (wrL kd pp ln bl s m d at_ st).2) R (wrA A tv (wrL kd pp ln bl s m d at_ st).1 (wrL kd pp ln bl s m d at_ st).2) B)) := by
  intro d
  induction d with
  | zero =>
    intro j at_ st hj hja hat hok hlt hcap
    have e1 : j = 120 := by omega
    subst e1
    have g1 : nI 120 ≤ nI 120 := nI_le (Nat.le_refl _) (by omega)
    simp only [rX10_write_45, rX10_write_47, rX10_write_49, rX10_write_90, g1, up2_eq, va_rf, eq_self, or_true, true_or, Option.toList_some, Option.toList_none, List.cons_append, List.nil_append, if_true, if_false]
    rfl
  | succ d ih =>
    intro j at_ st hj hja hat hok hlt hcap
    have g1 : ¬ nI 120 ≤ nI j := nI_ge (by omega) (by omega)
    have hmw : ∀ w, wrF F wr tb w 410 pk = nI m := fun w => by rw [wrF_o (by decide) (by decide)]; exact hm
    by_cases hlm : at_ < m
    · have g2 : ¬ nI m ≤ nI at_ := nI_ge hlm (by omega)
      obtain ⟨p1, p2, p3, p4, p5, p6, p7⟩ := hpl at_ hlm
      have hw1 : wrL kd pp ln bl s m (d + 1) at_ st = wrL kd pp ln bl s m d (at_ + ln at_) (ptS st (kd at_) (pp at_) (ln at_) at_ s bl) := by rw [wrL, if_pos hlm]
      rw [hw1] at hlt hcap ⊢
      have hle := wrL_le (kd := kd) (pp := pp) (ln := ln) (bl := bl) (s := s) (m := m) d (at_ + ln at_) (ptS st (kd at_) (pp at_) (ln at_) at_ s bl)
      rw [ptS_2] at hle
      simp only [rX10_write_45, rX10_write_47, rX10_write_49, rX10_write_52, rX10_write_54, rX10_write_54_n, rX10_write_55, rX10_write_58, rX10_write_61, rX10_write_62, rX10_write_62_n, rX10_write_63, rX10_write_63_n, rX10_write_64, rX10_write_67, rX10_write_67_n, rX10_write_68, hk.1, hmw, hbo, hbp, g1, g2, up2_eq, va_rf, eq_self, or_true, true_or, Option.toList_some, Option.toList_none, List.cons_append, List.nil_append, if_true, if_false]
      rw [rX10_write_70 hs, k_putPart (st := st) hs hR hb hlb hne hnv hbl hp hrt hs320 hk hm hm2 htv hpl hlm (by omega) (by omega) hok]
      simp only [rX10_write_73, rX10_write_75, rX10_write_75_n, rX10_write_76, up2_eq, va_rf, eq_self, or_true, true_or, Option.toList_some, Option.toList_none, List.cons_append, List.nil_append, if_true, if_false]
      rw [rX10_write_78 hk.1, k_lengthAt hk (hmw _) hm2 hlm]
      have a5 : ∀ (bt : Nat → Bool) (w : Nat), wrA A tv bt w (pk + 5) at_ = nI (ln at_) := fun bt w => by unfold wrA; rw [pfx_out (by omega), p4]
      rw [a5]
      simp only [rX10_write_81, rX10_write_82, rX10_write_84, rX10_write_87, nI_add, up2_eq, va_rf, eq_self, or_true, true_or, Option.toList_some, Option.toList_none, List.cons_append, List.nil_append, if_true, if_false]
      exact ih (j + 1) (at_ + ln at_) _ (by omega) (by omega) (by omega) (okW_ptS hok) hlt hcap
    · have g2 : nI m ≤ nI at_ := nI_le (by omega) (by omega)
      rw [wrL_end hlm]
      simp only [rX10_write_45, rX10_write_47, rX10_write_49, rX10_write_52, rX10_write_54, rX10_write_54_n, rX10_write_55, rX10_write_58, rX10_write_90, hk.1, hmw, g1, g2, up2_eq, va_rf, eq_self, or_true, true_or, Option.toList_some, Option.toList_none, List.cons_append, List.nil_append, if_true, if_false]
theorem k_write {lb lv lz m o r v z s e ze c pk bo a5 : Nat} {E kd pp ln bl : Nat → Nat} {S : wst} (hs : sh wr = some (0, 10, 0)) (hb : isB sh F R tb tv tz ts) (hlb : isB sh F R lb lv lz m) (hne : lb ≠ tb) (hnv : lv ≠ tv) (hbl : ∀ j, j < m → A lv j = nI (bl j) ∧ bl j < 256) (hbo : sh bo = some (0, 0, 0)) (hbp : R 2 bo = some o) (hbn : F 0 bo + nI 1 = nI a5) (ha5 : a5 < 32)
    (hp : isP sh F R A o r v z s e ze c E) (hrt : r ≠ tb) (hs320 : s ≤ 320) (hk : isK sh R pk) (hm : F 410 pk = nI m) (hm2 : m ≤ 120) (htv : tv < pk + 1 ∨ pk + 8 < tv) (hpl : isPl A pk m kd pp ln)
    (hS : S = wrL kd pp ln bl s m 120 0 (wS (wS ((fun _ => false), 0) a5 5) (m + 1) (gm (m + 1)))) (hlt : S.2 < 2 ^ 30) (hcap : (S.2 + 7) / 8 ≤ tz) :
    rc_ (k + 4) mX10_write [.ref wr, .ref lb, .ref bo, .ref pk, .ref tb] (mkh n u sh F R A B) Q ↔ Q none (mkh n u sh (wrF F wr tb S.2) (up2 R 1000 wr (some tb)) (wrA A tv S.1 S.2) B) := by
  have hle := wrL_le (kd := kd) (pp := pp) (ln := ln) (bl := bl) (s := s) (m := m) 120 0 (wS (wS ((fun _ => false), 0) a5 5) (m + 1) (gm (m + 1)))
  rw [← hS] at hle
  have hle2 : 0 + 5 + gm (m + 1) ≤ S.2 := hle
  have hR1 : up2 R 1000 wr (some tb) 1000 wr = some tb := up2_eq
  have hb1 : isB sh F (up2 R 1000 wr (some tb)) tb tv tz ts := hb.R (by decide)
  have hlb1 : isB sh F (up2 R 1000 wr (some tb)) lb lv lz m := hlb.R (by decide)
  have hp1 : isP sh F (up2 R 1000 wr (some tb)) A o r v z s e ze c E := hp.R (by decide) (by decide) (by decide)
  have hk1 : isK sh (up2 R 1000 wr (some tb)) pk := hk.R (by omega)
  have hbp1 : up2 R 1000 wr (some tb) 2 bo = some o := by rw [up2_k (by decide)]; exact hbp
  rw [eX10_write]
  simp only [rX10_write_0, rX10_write_1, rX10_write_1_n, rX10_write_3, rX10_write_6, rX10_write_7, hs, up2_eq, va_rf, eq_self, or_true, true_or, Option.toList_some, Option.toList_none, List.cons_append, List.nil_append, if_true, if_false]
  rw [rX10_write_10 hb.1, k_Bytes_clear hb.1]
  have hn1 : (up2 (up2 F 101 tb (nI 0)) 1001 wr (nI 0)) 0 bo = F 0 bo := by rw [up2_k (by decide), up2_k (by decide)]
  simp only [rX10_write_13, rX10_write_14, rX10_write_15, rX10_write_18, rX10_write_19, rX10_write_19_n, rX10_write_20, rX10_write_23, rX10_write_24, rX10_write_25, hs, hbo, hn1, hbn, up2_eq, va_rf, eq_self, or_true, true_or, Option.toList_some, Option.toList_none, List.cons_append, List.nil_append, if_true, if_false]
  have e0 : up2 (up2 F 101 tb (nI 0)) 1001 wr (nI 0) = wrF F wr tb ((fun _ => false, 0) : wst).2 := rfl
  have e1 : mkh n u sh (up2 (up2 F 101 tb (nI 0)) 1001 wr (nI 0)) (up2 R 1000 wr (some tb)) A B = mkh n u sh (wrF F wr tb ((fun _ => false, 0) : wst).2) (up2 R 1000 wr (some tb)) (wrA A tv ((fun _ => false, 0) : wst).1 ((fun _ => false, 0) : wst).2) B := by
    rw [e0]
    congr 1
    unfold wrA
    exact pfx_0.symm
  rw [e1]
  have ok0 : okW ((fun _ => false, 0) : wst) := fun j _ => rfl
  have c5 : ((fun _ => false, 0) : wst).2 + 5 = 5 := rfl
  rw [rX10_write_26 hs, k_putS (st := (fun _ => false, 0)) hs hR1 hb1 (by rw [c5]; omega) (by rw [c5]; omega) ok0 (by omega) (by omega)]
  have hmw : ∀ w, wrF F wr tb w 410 pk = nI m := fun w => by rw [wrF_o (by decide) (by decide)]; exact hm
  simp only [rX10_write_29, rX10_write_30, rX10_write_30_n, rX10_write_31, rX10_write_34, rX10_write_35, hk.1, hmw, nI_add, up2_eq, va_rf, eq_self, or_true, true_or, Option.toList_some, Option.toList_none, List.cons_append, List.nil_append, if_true, if_false]
  have c6 : (wS ((fun _ => false), 0) a5 5).2 = 5 := rfl
  rw [rX10_write_36 hs, k_putGamma (st := wS ((fun _ => false), 0) a5 5) hs hR1 hb1 (by rw [c6]; omega) (by rw [c6]; omega) ok0.wS (by omega) (by omega)]
  simp only [rX10_write_39, rX10_write_40, rX10_write_42, rX10_write_43, up2_eq, va_rf, eq_self, or_true, true_or, Option.toList_some, Option.toList_none, List.cons_append, List.nil_append, if_true, if_false]
  have hfin := l_write (k := k) (n := n) (u := u) (B := B) (Q := Q) (x4 := .ref tb) hs hR1 hb1 hlb1 hne hnv hbl hbo hbp1 hp1 hrt hs320 hk1 hm hm2 htv hpl 120 0 0 (wS (wS ((fun _ => false), 0) a5 5) (m + 1) (gm (m + 1))) (by omega) (Nat.le_refl _) (by omega) ok0.wS.wS (by rw [← hS]; exact hlt) (by rw [← hS]; exact hcap)
  rw [← hS] at hfin
  exact hfin
end WR3
section STP
variable {k n u : Nat} {sh : hs_} {F : hF_} {R : hR_} {A : hF_} {B : hR_} {Q : Option Value → pm_H → Prop} {pk m : Nat} {ln : Nat → Nat}
/-- where part j begins (m and beyond: nowhere) -/
def sop (ln : Nat → Nat) (m : Nat) : Nat → Nat
  | 0 => 0
  | j + 1 => if sop ln m j < m then sop ln m j + ln (sop ln m j) else sop ln m j
theorem sop_le {hl : ∀ j, j < m → j + ln j ≤ m} : ∀ j, sop ln m j ≤ m
  | 0 => Nat.zero_le _
  | j + 1 => by
    unfold sop
    split
    · rename_i h
      exact hl _ h
    · exact sop_le (hl := hl) j
theorem sop_end {j : Nat} (h : ¬ sop ln m j < m) : ∀ d, sop ln m (j + d) = sop ln m j
  | 0 => rfl
  | d + 1 => by
    show sop ln m (j + d + 1) = _
    rw [show sop ln m (j + d + 1) = (if sop ln m (j + d) < m then sop ln m (j + d) + ln (sop ln m (j + d)) else sop ln m (j + d)) from rfl, sop_end h d, if_neg h]
theorem l_startOf {q : Nat} (hk : isK sh R pk) (hm : F 410 pk = nI m) (hm2 : m ≤ 120) (hq : q < m) (hl : ∀ j, j < m → A (pk + 5) j = nI (ln j) ∧ j + ln j ≤ m) :
    ∀ d j, j + d = q → (rw_ k mX4_startOfPart 18 [.ref pk, .int (nI q), .int (nI (sop ln m j)), .int (nI j)] [] (mkh n u sh F R A B) Q ↔ Q (some (.int (if sop ln m q < m then nI (sop ln m q) else -1))) (mkh n u sh F R A B)) := by
  obtain ⟨h0, ⟨r0, r1, r2, r3, r4, r5, r6, r7⟩, s0, s1, s2, s3, s4, s5, s6, s7⟩ := id hk
  have fin : ∀ j (y3 : Value), sop ln m j = sop ln m q → (rw_ k mX4_startOfPart 46 [.ref pk, .int (nI q), .int (nI (sop ln m j)), y3] [] (mkh n u sh F R A B) Q ↔ Q (some (.int (if sop ln m q < m then nI (sop ln m q) else -1))) (mkh n u sh F R A B)) := by
    intro j y3 e
    have hle := sop_le (ln := ln) (m := m) (hl := fun j hj => (hl j hj).2) q
    rw [e]
    by_cases c1 : sop ln m q < m
    · have g1 : ¬ nI m ≤ nI (sop ln m q) := nI_ge c1 (by omega)
      simp only [rX4_startOfPart_46, rX4_startOfPart_47, rX4_startOfPart_48, rX4_startOfPart_51, rX4_startOfPart_54, rX4_startOfPart_55, rX4_startOfPart_58, rX4_startOfPart_59, h0, hm, g1, c1, up2_eq, va_rf, eq_self, or_true, true_or, Option.toList_some, Option.toList_none, List.cons_append, List.nil_append, if_true, if_false]
    · have g1 : nI m ≤ nI (sop ln m q) := nI_le (by omega) (by omega)
      simp only [rX4_startOfPart_46, rX4_startOfPart_47, rX4_startOfPart_48, rX4_startOfPart_51, rX4_startOfPart_54, rX4_startOfPart_55, rX4_startOfPart_58, rX4_startOfPart_59, h0, hm, g1, c1, up2_eq, va_rf, eq_self, or_true, true_or, Option.toList_some, Option.toList_none, List.cons_append, List.nil_append, if_true, if_false]
  intro d
  induction d with
  | zero =>
    intro j hj
    have e1 : j = q := by omega
    subst e1
    have g1 : nI j ≤ nI j := nI_le (Nat.le_refl _) (by omega)
    simp only [rX4_startOfPart_18, rX4_startOfPart_19, rX4_startOfPart_20, g1, up2_eq, va_rf, eq_self, or_true, true_or, Option.toList_some, Option.toList_none, List.cons_append, List.nil_append, if_true, if_false]
    exact fin j _ rfl
  | succ d ih =>
    intro j hj
    have g1 : ¬ nI q ≤ nI j := nI_ge (by omega) (by omega)
    have hle := sop_le (ln := ln) (m := m) (hl := fun j hj => (hl j hj).2) j
    by_cases c1 : sop ln m j < m
    · have g2 : ¬ nI m ≤ nI (sop ln m j) := nI_ge c1 (by omega)
      simp only [rX4_startOfPart_18, rX4_startOfPart_19, rX4_startOfPart_20, rX4_startOfPart_23, rX4_startOfPart_24, rX4_startOfPart_25, rX4_startOfPart_28, rX4_startOfPart_31, rX4_startOfPart_32, rX4_startOfPart_33, rX4_startOfPart_36, h0, hm, r4, g1, g2, up2_eq, va_rf, eq_self, or_true, true_or, Option.toList_some, Option.toList_none, List.cons_append, List.nil_append, if_true, if_false]
      rw [rX4_startOfPart_37 s4 (by decide) (by omega) (by omega), (hl _ c1).1]
      simp only [rX4_startOfPart_38, rX4_startOfPart_39, rX4_startOfPart_40, rX4_startOfPart_43, nI_add]
      have hI := ih (j + 1) (by omega)
      rw [show sop ln m (j + 1) = sop ln m j + ln (sop ln m j) by rw [sop, if_pos c1]] at hI
      exact hI
    · have g2 : nI m ≤ nI (sop ln m j) := nI_le (by omega) (by omega)
      simp only [rX4_startOfPart_18, rX4_startOfPart_19, rX4_startOfPart_20, rX4_startOfPart_23, rX4_startOfPart_24, rX4_startOfPart_25, rX4_startOfPart_28, h0, hm, g1, g2, up2_eq, va_rf, eq_self, or_true, true_or, Option.toList_some, Option.toList_none, List.cons_append, List.nil_append, if_true, if_false]
      refine fin j _ ?_
      have := sop_end c1 (q - j)
      rw [show j + (q - j) = q by omega] at this
      exact this.symm
theorem k_startOf {q : Nat} (hk : isK sh R pk) (hm : F 410 pk = nI m) (hm2 : m ≤ 120) (hq : q < m) (hl : ∀ j, j < m → A (pk + 5) j = nI (ln j) ∧ j + ln j ≤ m) :
    rc_ k mX4_startOfPart [.ref pk, .int (nI q)] (mkh n u sh F R A B) Q ↔ Q (some (.int (if sop ln m q < m then nI (sop ln m q) else -1))) (mkh n u sh F R A B) := by
  rw [eX4_startOfPart]
  have g0 : ¬ nI q < nI 0 := nI_nlt (Nat.zero_le _) (by omega)
  have g1 : nI q < nI m := nI_lt hq (by omega)
  simp only [rX4_startOfPart_0, rX4_startOfPart_1, rX4_startOfPart_4, rX4_startOfPart_5, rX4_startOfPart_6, rX4_startOfPart_9, rX4_startOfPart_12, rX4_startOfPart_13, rX4_startOfPart_14, rX4_startOfPart_15, rX4_startOfPart_16, rX4_startOfPart_17, hk.1, hm, g0, g1, up2_eq, va_rf, eq_self, or_true, true_or, Option.toList_some, Option.toList_none, List.cons_append, List.nil_append, if_true, if_false]
  exact l_startOf hk hm hm2 hq hl q 0 (by omega)
end STP
