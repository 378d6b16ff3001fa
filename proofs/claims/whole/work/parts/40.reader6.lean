/-! ===== the reader: wholes, a part ===== -/
section RD6
variable {k n u : Nat} {sh : hs_} {F : hF_} {R : hR_} {A : hF_} {B : hR_} {Q : Option Value → pm_H → Prop} {rd so sv sz ss N lt lv lz l0 m zs : Nat} {by_ L : Nat → Nat} {st : rst} {o r v z s e ze c bo : Nat} {E : Nat → Nat}
theorem rsF_o {q a : Nat} (h1 : q ≠ 603) (h2 : q ≠ 606) (h3 : q ≠ 607) (h4 : q ≠ 101) : rsF F rd lt st m q a = F q a := by
  unfold rsF
  rw [rdF_o h1 h2 h3, up2_k h4]
theorem k_readWhole {first : Nat} {src : Nat → Nat} (h : isD sh F R A rd so sv sz ss lt lv l0 zs by_) (hok : okR st (8 * ss)) (hf : st.2.1 = 0) (hfi : first ≤ 8 * ss) (hm : m ≤ zs) (hbo : sh bo = some (0, 0, 0)) (hbp : R 2 bo = some o) (hp : isP sh F R A o r v z s e ze c E) (hE : okE E c s) (hr : r ≠ lt) (he : e ≠ lv) (hv : v ≠ lv) (hs : s ≤ 320) (hsrc : isSrc A v s src) :
    rc_ (k + 3) mX6_readWhole [.ref rd, .int (nI first), .ref bo] (mkh n u sh (rsF F rd lt st m) R (rsA A lv L m) B) Q ↔ Q none (mkh n u sh (rsF F rd lt (rpW (bof by_) (8 * ss) zs st m L first c E src (decide (F 1 bo = nI 2))).1 (rpW (bof by_) (8 * ss) zs st m L first c E src (decide (F 1 bo = nI 2))).2.1) R (rsA A lv (rpW (bof by_) (8 * ss) zs st m L first c E src (decide (F 1 bo = nI 2))).2.2 (rpW (bof by_) (8 * ss) zs st m L first c E src (decide (F 1 bo = nI 2))).2.1) B) := by
  obtain ⟨hr0, hso, hsv, hR, hb, hz1, hz2⟩ := id h
  have h1 := hr0.1
  have hF1 : rsF F rd lt st m 1 bo = F 1 bo := rsF_o (by decide) (by decide) (by decide) (by decide)
  rw [eX6_readWhole]
  simp only [rX6_readWhole_0, rX6_readWhole_0_n]
  rw [rX6_readWhole_1 hbo, k_Book_isRanked hbo, hF1]
  unfold rpW
  by_cases c0 : F 1 bo = nI 2
  · have e10 : ¬ nI 1 = nI 0 := by decide
    have hok1 : okR (rgS (bof by_) (8 * ss) st) (8 * ss) := okR_G hok.2.1 8 0 _ hok
    have o2 := hok1.1
    have hp2 := hp.rs (rd := rd) (lt := lt) (lv := lv) (st := rgS (bof by_) (8 * ss) st) (m := m) (L := L) hr he
    have p1 := hp2.1
    have p2 := hp2.2.2.2.2.2.1
    have pc := hp2.2.2.2.2.2.2.1
    have pz := hp2.2.2.2.2.1
    simp only [rX6_readWhole_4, rX6_readWhole_14, c0, e10, decide_true, up2_eq, va_rf, eq_self, or_true, true_or, Option.toList_some, Option.toList_none, List.cons_append, List.nil_append, if_true, if_false]
    rw [rX6_readWhole_15 h1, k_gammaD h hok]
    by_cases c1 : (rgS (bof by_) (8 * ss) st).2.1 = 0
    · obtain ⟨v1, v2, v3⟩ := rgV_ok bof_lt c1
      rw [v3, if_pos c1]
      have e1 : nI (rgV (bof by_) (8 * ss) st) - nI 1 = nI (rgV (bof by_) (8 * ss) st - 1) := pk_sub v1
      simp only [rX6_readWhole_18, rX6_readWhole_19, rX6_readWhole_20, rX6_readWhole_21, rX6_readWhole_22, rX6_readWhole_25, rX6_readWhole_28, rX6_readWhole_29, rX6_readWhole_30, rX6_readWhole_30_n, rX6_readWhole_31, rX6_readWhole_34, h1, hbo, hbp, e1, p1, p2, rsF_606, c1, up2_eq, va_rf, eq_self, or_true, true_or, Option.toList_some, Option.toList_none, List.cons_append, List.nil_append, if_true, if_false]
      by_cases c2 : c ≤ rgV (bof by_) (8 * ss) st - 1
      · have g1 : nI c ≤ nI (rgV (bof by_) (8 * ss) st - 1) := nI_le c2 (by omega)
        simp only [rX6_readWhole_37, rX6_readWhole_63, rX6_readWhole_64, rX6_readWhole_65, g1, up2_eq, va_rf, eq_self, or_true, true_or, Option.toList_some, Option.toList_none, List.cons_append, List.nil_append, if_true, if_false]
        rw [rX6_readWhole_66 h1, k_noteD h hok1]
        simp only [rX6_readWhole_69, c2, up2_eq, va_rf, eq_self, or_true, true_or, Option.toList_some, Option.toList_none, List.cons_append, List.nil_append, if_true, if_false]
      · have g1 : ¬ nI c ≤ nI (rgV (bof by_) (8 * ss) st - 1) := nI_ge (by omega) (by omega)
        have hlt : rgV (bof by_) (8 * ss) st - 1 < c := by omega
        simp only [rX6_readWhole_37, rX6_readWhole_40, rX6_readWhole_40_n, rX6_readWhole_41, rX6_readWhole_44, g1, hbo, hbp, up2_eq, va_rf, eq_self, or_true, true_or, Option.toList_some, Option.toList_none, List.cons_append, List.nil_append, if_true, if_false]
        rw [rX6_readWhole_45 p1, k_Pieces_length hp2 hE hlt]
        have e2 : nI zs - nI m = nI (zs - m) := pk_sub hm
        have le1 := hE.E_le hlt
        have le0 := hE.1 _ hlt
        simp only [rX6_readWhole_48, rX6_readWhole_49, rX6_readWhole_52, rX6_readWhole_53, rX6_readWhole_56, rX6_readWhole_59, h1, hR, hb.1, rsF_605 hz1, rsF_101, e2, up2_eq, va_rf, eq_self, or_true, true_or, Option.toList_some, Option.toList_none, List.cons_append, List.nil_append, if_true, if_false]
        by_cases c3 : zs - m < E (rgV (bof by_) (8 * ss) st - 1) - pst E (rgV (bof by_) (8 * ss) st - 1)
        · have g2 : ¬ nI (E (rgV (bof by_) (8 * ss) st - 1) - pst E (rgV (bof by_) (8 * ss) st - 1)) ≤ nI (zs - m) := nI_ge c3 (by omega)
          simp only [rX6_readWhole_60, rX6_readWhole_63, rX6_readWhole_64, rX6_readWhole_65, g2, up2_eq, va_rf, eq_self, or_true, true_or, Option.toList_some, Option.toList_none, List.cons_append, List.nil_append, if_true, if_false]
          rw [rX6_readWhole_66 h1, k_noteD h hok1]
          simp only [rX6_readWhole_69, c3, up2_eq, va_rf, eq_self, or_true, true_or, Option.toList_some, Option.toList_none, List.cons_append, List.nil_append, if_true, if_false]
        · have g2 : nI (E (rgV (bof by_) (8 * ss) st - 1) - pst E (rgV (bof by_) (8 * ss) st - 1)) ≤ nI (zs - m) := nI_le (by omega) (by omega)
          simp only [rX6_readWhole_60, rX6_readWhole_70, rX6_readWhole_71, rX6_readWhole_74, rX6_readWhole_74_n, rX6_readWhole_75, rX6_readWhole_78, rX6_readWhole_81, rX6_readWhole_81_n, rX6_readWhole_82, rX6_readWhole_85, g2, h1, hR, hbo, hbp, p1, hp.2.1, up2_eq, va_rf, eq_self, or_true, true_or, Option.toList_some, Option.toList_none, List.cons_append, List.nil_append, if_true, if_false]
          rw [rX6_readWhole_86 p1, k_Pieces_start hp2 (by omega)]
          simp only [rX6_readWhole_89, rX6_readWhole_89_n, rX6_readWhole_90, rX6_readWhole_93, hbo, hbp, up2_eq, va_rf, eq_self, or_true, true_or, Option.toList_some, Option.toList_none, List.cons_append, List.nil_append, if_true, if_false]
          rw [rX6_readWhole_94 p1, k_Pieces_length hp2 hE hlt]
          simp only [up2_eq, va_rf, eq_self, or_true, true_or, Option.toList_some, Option.toList_none, List.cons_append, List.nil_append, if_true, if_false]
          have hbi := rs_isB (rd := rd) (st := rgS (bof by_) (8 * ss) st) (m := m) hb (by omega)
          rw [rX6_readWhole_97 hb.1, k_Bytes_append hbi hp2.2.2.2.2.2.2.2.2 (by omega) (by omega) (fun x => absurd x hv) (fun j hj => by unfold rsA; rw [pfx_out hv, (hsrc j hj).1, nI_byte (hsrc j hj).2])]
          have hA : acp (rsA A lv L m) lv m v (pst E (rgV (bof by_) (8 * ss) st - 1)) (E (rgV (bof by_) (8 * ss) st - 1) - pst E (rgV (bof by_) (8 * ss) st - 1)) = rsA A lv (lcp L src m (pst E (rgV (bof by_) (8 * ss) st - 1))) (m + (E (rgV (bof by_) (8 * ss) st - 1) - pst E (rgV (bof by_) (8 * ss) st - 1))) := by
            refine acp_rs (fun j hj => ?_) (fun i hi => ?_)
            · unfold lcp
              rw [if_pos hj]
            · unfold lcp
              rw [if_neg (by omega), pfx_out hv, (hsrc _ (by omega)).1, show m + i - m = i by omega]
          rw [hA, rsF_sw]
          simp only [rX6_readWhole_100, c2, c3, or_self, up2_eq, va_rf, eq_self, or_true, true_or, Option.toList_some, Option.toList_none, List.cons_append, List.nil_append, if_true, if_false]
    · have g1 : ¬ nI (rgS (bof by_) (8 * ss) st).2.1 = nI 0 := nI_ne0 (by omega) (by omega)
      rw [if_neg c1]
      simp only [rX6_readWhole_18, rX6_readWhole_19, rX6_readWhole_20, rX6_readWhole_21, rX6_readWhole_22, rX6_readWhole_25, rX6_readWhole_28, h1, rsF_606, g1, up2_eq, va_rf, eq_self, or_true, true_or, Option.toList_some, Option.toList_none, List.cons_append, List.nil_append, if_true, if_false]
  · simp only [rX6_readWhole_4, rX6_readWhole_7, rX6_readWhole_8, rX6_readWhole_9, c0, decide_false, Bool.false_eq_true, up2_eq, va_rf, eq_self, or_true, true_or, Option.toList_some, Option.toList_none, List.cons_append, List.nil_append, if_true, if_false]
    rw [rX6_readWhole_10 h1, k_noteD h hok]
    simp only [rX6_readWhole_13, up2_eq, va_rf, eq_self, or_true, true_or, Option.toList_some, Option.toList_none, List.cons_append, List.nil_append, if_true, if_false]
/-- a part -/
def rpP (b : Nat → Nat) (N zs : Nat) (st : rst) (m : Nat) (L : Nat → Nat) (s c : Nat) (E src : Nat → Nat) (rk : Bool) : rss :=
  if (rdB st 2 N).2.1 = 0 then (if bv b st.1 2 = 0 then rpO b N zs (rdB st 2 N) m L st.1 else if bv b st.1 2 = 1 then rpC b N zs (rdB st 2 N) m L st.1 (wd s) src (fun p => ear E p c 0) else if bv b st.1 2 = 2 then rpC b N zs (rdB st 2 N) m L st.1 (wd m) L (fun _ => m) else rpW b N zs (rdB st 2 N) m L st.1 c E src rk) else (rdB st 2 N, m, L)
theorem k_readPart {src : Nat → Nat} (h : isD sh F R A rd so sv sz ss lt lv l0 zs by_) (hok : okR st (8 * ss)) (hm : m ≤ zs) (hL : ∀ j, j < m → L j < 256) (hbo : sh bo = some (0, 0, 0)) (hbp : R 2 bo = some o) (hp : isP sh F R A o r v z s e ze c E) (hE : okE E c s) (hr : r ≠ lt) (he : e ≠ lv) (hv : v ≠ lv) (hs : s ≤ 320) (hsrc : isSrc A v s src) :
    rc_ (k + 4) mX6_readPart [.ref rd, .ref bo] (mkh n u sh (rsF F rd lt st m) R (rsA A lv L m) B) Q ↔ Q none (mkh n u sh (rsF F rd lt (rpP (bof by_) (8 * ss) zs st m L s c E src (decide (F 1 bo = nI 2))).1 (rpP (bof by_) (8 * ss) zs st m L s c E src (decide (F 1 bo = nI 2))).2.1) R (rsA A lv (rpP (bof by_) (8 * ss) zs st m L s c E src (decide (F 1 bo = nI 2))).2.2 (rpP (bof by_) (8 * ss) zs st m L s c E src (decide (F 1 bo = nI 2))).2.1) B) := by
  obtain ⟨hr0, hso, hsv, hR, hb, hz1, hz2⟩ := id h
  have h1 := hr0.1
  have hat : rsF F rd lt st m 603 rd = nI st.1 := rdF_603
  have hok1 : okR (rdB st 2 (8 * ss)) (8 * ss) := okR_B hok
  have o1 := hok1.1
  rw [eX6_readPart]
  simp only [rX6_readPart_0, rX6_readPart_1, rX6_readPart_4, rX6_readPart_5, rX6_readPart_6, h1, hat, up2_eq, va_rf, eq_self, or_true, true_or, Option.toList_some, Option.toList_none, List.cons_append, List.nil_append, if_true, if_false]
  rw [rX6_readPart_7 h1, k_bitsD h hok (by omega)]
  simp only [rX6_readPart_10, rX6_readPart_11, rX6_readPart_12, h1, rsF_606, up2_eq, va_rf, eq_self, or_true, true_or, Option.toList_some, Option.toList_none, List.cons_append, List.nil_append, if_true, if_false]
  unfold rpP
  by_cases c1 : (rdB st 2 (8 * ss)).2.1 = 0
  · have cX : ¬ rdX st 2 (8 * ss) = true := fun hx => rdB_f hx c1
    have g1 : nI (rdB st 2 (8 * ss)).2.1 = nI 0 := by rw [c1]
    have hb8 := bv_lt (b := bof by_) (p := st.1) bof_lt 2
    rw [if_neg cX, if_pos c1]
    simp only [rX6_readPart_15, rX6_readPart_18, rX6_readPart_19, g1, up2_eq, va_rf, eq_self, or_true, true_or, Option.toList_some, Option.toList_none, List.cons_append, List.nil_append, if_true, if_false]
    have hcs : bv (bof by_) st.1 2 = 0 ∨ bv (bof by_) st.1 2 = 1 ∨ bv (bof by_) st.1 2 = 2 ∨ bv (bof by_) st.1 2 = 3 := by omega
    rcases hcs with hh | hh | hh | hh
    · rw [hh]
      simp only [rX6_readPart_20, rX6_readPart_48, rX6_readPart_49, up2_eq, va_rf, eq_self, or_true, true_or, Option.toList_some, Option.toList_none, List.cons_append, List.nil_append, if_true, if_false]
      rw [rX6_readPart_50 h1, k_readOwn h hok1 hok.2.1 hm]
      simp only [rX6_readPart_53, rX6_readPart_82, up2_eq, va_rf, eq_self, or_true, true_or, Option.toList_some, Option.toList_none, List.cons_append, List.nil_append, if_true, if_false]
    · rw [hh]
      have e1 : ¬ nI 1 = nI 0 := by decide
      simp only [rX6_readPart_20, rX6_readPart_56, rX6_readPart_57, rX6_readPart_58, rX6_readPart_58_n, rX6_readPart_59, e1, hbo, hbp, up2_eq, va_rf, eq_self, or_true, true_or, Option.toList_some, Option.toList_none, List.cons_append, List.nil_append, if_true, if_false]
      rw [rX6_readPart_62 h1, k_readTold h hok1 c1 hok.2.1 hm hp hE hr he hv hs hsrc]
      simp only [rX6_readPart_65, rX6_readPart_82, up2_eq, va_rf, eq_self, or_true, true_or, Option.toList_some, Option.toList_none, List.cons_append, List.nil_append, if_true, if_false, up2_k, ne_eq, not_false_eq_true, Nat.reduceEqDiff, reduceCtorEq]
    · rw [hh]
      have e1 : ¬ nI 2 = nI 0 := by decide
      have e2 : ¬ nI 2 = nI 1 := by decide
      simp only [rX6_readPart_20, rX6_readPart_68, rX6_readPart_69, e1, e2, up2_eq, va_rf, eq_self, or_true, true_or, Option.toList_some, Option.toList_none, List.cons_append, List.nil_append, if_true, if_false]
      rw [rX6_readPart_70 h1, k_readFar h hok1 c1 hok.2.1 hm hL]
      simp only [rX6_readPart_73, rX6_readPart_82, up2_eq, va_rf, eq_self, or_true, true_or, Option.toList_some, Option.toList_none, List.cons_append, List.nil_append, if_true, if_false, up2_k, ne_eq, not_false_eq_true, Nat.reduceEqDiff, reduceCtorEq]
    · rw [hh]
      have e1 : ¬ nI 3 = nI 0 := by decide
      have e2 : ¬ nI 3 = nI 1 := by decide
      have e3 : ¬ nI 3 = nI 2 := by decide
      simp only [rX6_readPart_20, rX6_readPart_76, rX6_readPart_77, rX6_readPart_78, rX6_readPart_78_n, e1, e2, e3, up2_eq, va_rf, eq_self, or_true, true_or, Option.toList_some, Option.toList_none, List.cons_append, List.nil_append, if_true, if_false]
      rw [rX6_readPart_79 h1, k_readWhole h hok1 c1 hok.2.1 hm hbo hbp hp hE hr he hv hs hsrc]
      simp only [rX6_readPart_82, up2_eq, va_rf, eq_self, or_true, true_or, Option.toList_some, Option.toList_none, List.cons_append, List.nil_append, if_true, if_false, up2_k, ne_eq, not_false_eq_true, Nat.reduceEqDiff, reduceCtorEq]
  · have g1 : ¬ nI (rdB st 2 (8 * ss)).2.1 = nI 0 := nI_ne0 (by omega) (by omega)
    rw [if_neg c1]
    simp only [rX6_readPart_15, rX6_readPart_18, g1, up2_eq, va_rf, eq_self, or_true, true_or, Option.toList_some, Option.toList_none, List.cons_append, List.nil_append, if_true, if_false]
end RD6
