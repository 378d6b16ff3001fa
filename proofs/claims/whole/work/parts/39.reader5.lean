/-! ===== the reader: copies and wholes as read, a part ===== -/
section RD5
variable {k n u : Nat} {sh : hs_} {F : hF_} {R : hR_} {A : hF_} {B : hR_} {Q : Option Value → pm_H → Prop} {rd so sv sz ss N lt lv lz l0 m zs : Nat} {by_ L : Nat → Nat} {st : rst} {o r v z s e ze c : Nat} {E : Nat → Nat}
theorem k_endAroundM (hp : isP sh F R A o r v z s e ze c E) (hE : okE E c s) : rc_ k mX5_endAround [.ref o, .int (-1)] (mkh n u sh F R A B) Q ↔ Q (some (.int (if c = 0 then nI 0 else nI (E 0)))) (mkh n u sh F R A B) := by
  obtain ⟨h1, h2, h3, h4, h5, h6, h7, h8, h9⟩ := hp
  have hzz := h9.2.2.2.1
  have hss := h9.2.2.2.2.2
  rw [eX5_endAround]
  by_cases c0 : c = 0
  · subst c0
    have g1 : nI 0 ≤ nI 0 := nI_le (Nat.le_refl _) (by omega)
    simp only [rX5_endAround_0, rX5_endAround_1, rX5_endAround_2, rX5_endAround_3, rX5_endAround_4, rX5_endAround_7, rX5_endAround_33, rX5_endAround_34, h1, h6, g1, up2_eq, va_rf, eq_self, or_true, true_or, Option.toList_some, Option.toList_none, List.cons_append, List.nil_append, if_true, if_false]
  · have g1 : ¬ nI c ≤ nI 0 := nI_ge (by omega) (by omega)
    have hE0 := hE.E_le (j := 0) (by omega)
    simp only [rX5_endAround_0, rX5_endAround_1, rX5_endAround_2, rX5_endAround_3, rX5_endAround_4, rX5_endAround_7, rX5_endAround_10, rX5_endAround_11, rX5_endAround_12, rX5_endAround_15, h1, h3, h6, g1, up2_eq, va_rf, eq_self, or_true, true_or, Option.toList_some, Option.toList_none, List.cons_append, List.nil_append, if_true, if_false]
    rw [rX5_endAround_16 h4 (by decide) (by omega) (by omega), h8 0 (by omega)]
    have g2 : ¬ nI (E 0) ≤ -1 := fun x => absurd (show nI (E 0) < 0 from Int32.lt_of_le_of_lt x (by decide)) (nI_pos (by omega))
    simp only [rX5_endAround_17, rX5_endAround_20, rX5_endAround_21, rX5_endAround_24, h1, h3, g2, c0, up2_eq, va_rf, eq_self, or_true, true_or, Option.toList_some, Option.toList_none, List.cons_append, List.nil_append, if_true, if_false]
    rw [rX5_endAround_25 h4 (by decide) (by omega) (by omega), h8 0 (by omega)]
    simp only [rX5_endAround_26]
theorem isP.rs (hp : isP sh F R A o r v z s e ze c E) (hr : r ≠ lt) (he : e ≠ lv) : isP sh (rsF F rd lt st m) R (rsA A lv L m) o r v z s e ze c E := by
  obtain ⟨h1, h2, h3, h4, h5, h6, h7, h8, h9⟩ := hp
  refine ⟨h1, h2, h3, h4, h5, ?_, h7, fun j hj => ?_, isB.rd (h9.other hr)⟩
  · unfold rsF
    rw [rdF_o (by decide) (by decide) (by decide), up2_k (by decide)]
    exact h6
  · unfold rsA
    rw [pfx_out he]
    exact h8 j hj
/-- the bytes of a book's row -/
def isSrc (A : hF_) (v s : Nat) (src : Nat → Nat) : Prop := ∀ j, j < s → A v j = nI (src j) ∧ src j < 256
theorem ear_le (hE : okE E c s) {p : Nat} : ∀ d i, i + d = c → ear E p d i ≤ s
  | 0, _, _ => Nat.zero_le _
  | d + 1, i, hi => by
    unfold ear
    split
    · exact hE.E_le (by omega)
    · exact ear_le hE d (i + 1) (by omega)
theorem k_readTold {first : Nat} {src : Nat → Nat} (h : isD sh F R A rd so sv sz ss lt lv l0 zs by_) (hok : okR st (8 * ss)) (hf : st.2.1 = 0) (hfi : first ≤ 8 * ss) (hm : m ≤ zs) (hp : isP sh F R A o r v z s e ze c E) (hE : okE E c s) (hr : r ≠ lt) (he : e ≠ lv) (hv : v ≠ lv) (hs : s ≤ 320) (hsrc : isSrc A v s src) :
    rc_ (k + 3) mX6_readTold [.ref rd, .int (nI first), .ref o] (mkh n u sh (rsF F rd lt st m) R (rsA A lv L m) B) Q ↔ Q none (mkh n u sh (rsF F rd lt (rpC (bof by_) (8 * ss) zs st m L first (wd s) src (fun p => ear E p c 0)).1 (rpC (bof by_) (8 * ss) zs st m L first (wd s) src (fun p => ear E p c 0)).2.1) R (rsA A lv (rpC (bof by_) (8 * ss) zs st m L first (wd s) src (fun p => ear E p c 0)).2.2 (rpC (bof by_) (8 * ss) zs st m L first (wd s) src (fun p => ear E p c 0)).2.1) B) := by
  obtain ⟨hr0, hso, hsv, hR, hb, hz1, hz2⟩ := id h
  have h1 := hr0.1
  have hp1 := hp.rs (rd := rd) (lt := lt) (lv := lv) (st := st) (m := m) (L := L) hr he
  have hbs := hp1.2.2.2.2.2.2.2.2.2.2.2.2.1
  have hwd := wd_le 9 s (by omega)
  rw [eX6_readTold]
  simp only [rX6_readTold_0, rX6_readTold_1, rX6_readTold_1_n, rX6_readTold_2, rX6_readTold_5, hp.1, hp.2.1, hp.2.2.2.2.2.2.2.2.1, hbs, up2_eq, va_rf, eq_self, or_true, true_or, Option.toList_some, Option.toList_none, List.cons_append, List.nil_append, if_true, if_false]
  rw [rX6_readTold_8, k_width (by omega)]
  simp only [up2_eq, va_rf, eq_self, or_true, true_or, Option.toList_some, Option.toList_none, List.cons_append, List.nil_append, if_true, if_false]
  rw [rX6_readTold_11 h1, k_bitsD h hok (by omega)]
  simp only [rX6_readTold_14, rX6_readTold_15, up2_eq, va_rf, eq_self, or_true, true_or, Option.toList_some, Option.toList_none, List.cons_append, List.nil_append, if_true, if_false]
  have hok1 : okR (rdB st (wd s) (8 * ss)) (8 * ss) := okR_B hok
  rw [rX6_readTold_16 h1, k_gammaD h hok1]
  simp only [rX6_readTold_19, rX6_readTold_20, rX6_readTold_21, rX6_readTold_23, rX6_readTold_24, rX6_readTold_25, rX6_readTold_25_n, rX6_readTold_26, rX6_readTold_29, rX6_readTold_30, rX6_readTold_32, rX6_readTold_32_n, rX6_readTold_33, hp.1, hp.2.1, up2_eq, va_rf, eq_self, or_true, true_or, Option.toList_some, Option.toList_none, List.cons_append, List.nil_append, if_true, if_false]
  have hokG : okR (rgS (bof by_) (8 * ss) (rdB st (wd s) (8 * ss))) (8 * ss) := okR_G hok1.2.1 8 0 _ hok1
  have o2 := hokG.1
  have hp2 := hp.rs (rd := rd) (lt := lt) (lv := lv) (st := rgS (bof by_) (8 * ss) (rdB st (wd s) (8 * ss))) (m := m) (L := L) hr he
  have hb8 := bv_lt (b := bof by_) (p := st.1) bof_lt (wd s)
  have h29 : 2 ^ wd s ≤ 2 ^ 9 := Nat.pow_le_pow_right (by omega) hwd
  unfold rpC
  by_cases c1 : (rgS (bof by_) (8 * ss) (rdB st (wd s) (8 * ss))).2.1 = 0
  · have cX : ¬ rdX st (wd s) (8 * ss) = true := by
      intro hx
      have hfx := rdB_f hx
      have hrx : rdX (rdB st (wd s) (8 * ss)) 1 (8 * ss) = true := by unfold rdX; simp [hfx]
      have : rgS (bof by_) (8 * ss) (rdB st (wd s) (8 * ss)) = rdB (rdB st (wd s) (8 * ss)) 1 (8 * ss) := by
        unfold rgS rgL
        rw [if_pos hrx]
      rw [this] at c1
      exact rdB_f hrx c1
    obtain ⟨v1, v2, v3⟩ := rgV_ok bof_lt c1
    rw [v3, if_pos c1, if_neg cX, nI_add]
    rw [rX6_readTold_34 hp.1, k_Pieces_endAround hp2 hE (by omega)]
    simp only [up2_eq, va_rf, eq_self, or_true, true_or, Option.toList_some, Option.toList_none, List.cons_append, List.nil_append, if_true, if_false]
    have hle := ear_le hE (p := bv (bof by_) st.1 (wd s)) c 0 (by omega)
    rw [rX6_readTold_37 h1, k_takeCopy (v2 := v) (s2 := s) (src := src) h1 hR hb rfl hz1 hz2 hm c1 hp2.2.2.2.2.2.2.2.2 (fun j hj => by unfold rsA; rw [pfx_out hv]; exact hsrc j hj) hle (fun x => absurd x hv) (by omega) (by omega) (by omega)]
    split
    · simp only [rX6_readTold_40, up2_eq, va_rf, eq_self, or_true, true_or, Option.toList_some, Option.toList_none, List.cons_append, List.nil_append, if_true, if_false]
    · simp only [rX6_readTold_40, up2_eq, va_rf, eq_self, or_true, true_or, Option.toList_some, Option.toList_none, List.cons_append, List.nil_append, if_true, if_false]
  · rw [if_neg c1]
    by_cases cX : rdX st (wd s) (8 * ss) = true
    · rw [if_pos cX, rX6_readTold_34 hp.1, k_endAroundM hp2 hE]
      simp only [up2_eq, va_rf, eq_self, or_true, true_or, Option.toList_some, Option.toList_none, List.cons_append, List.nil_append, if_true, if_false]
      rw [rX6_readTold_37 h1, k_takeCopy0 h1 c1 o2]
      simp only [rX6_readTold_40, up2_eq, va_rf, eq_self, or_true, true_or, Option.toList_some, Option.toList_none, List.cons_append, List.nil_append, if_true, if_false]
    · rw [if_neg cX, rX6_readTold_34 hp.1, k_Pieces_endAround hp2 hE (by omega)]
      simp only [up2_eq, va_rf, eq_self, or_true, true_or, Option.toList_some, Option.toList_none, List.cons_append, List.nil_append, if_true, if_false]
      rw [rX6_readTold_37 h1, k_takeCopy0 h1 c1 o2]
      simp only [rX6_readTold_40, up2_eq, va_rf, eq_self, or_true, true_or, Option.toList_some, Option.toList_none, List.cons_append, List.nil_append, if_true, if_false]
theorem k_readFar {first : Nat} (h : isD sh F R A rd so sv sz ss lt lv l0 zs by_) (hok : okR st (8 * ss)) (hf : st.2.1 = 0) (hfi : first ≤ 8 * ss) (hm : m ≤ zs) (hL : ∀ j, j < m → L j < 256) :
    rc_ (k + 3) mX6_readFar [.ref rd, .int (nI first)] (mkh n u sh (rsF F rd lt st m) R (rsA A lv L m) B) Q ↔ Q none (mkh n u sh (rsF F rd lt (rpC (bof by_) (8 * ss) zs st m L first (wd m) L (fun _ => m)).1 (rpC (bof by_) (8 * ss) zs st m L first (wd m) L (fun _ => m)).2.1) R (rsA A lv (rpC (bof by_) (8 * ss) zs st m L first (wd m) L (fun _ => m)).2.2 (rpC (bof by_) (8 * ss) zs st m L first (wd m) L (fun _ => m)).2.1) B) := by
  obtain ⟨hr0, hso, hsv, hR, hb, hz1, hz2⟩ := id h
  have h1 := hr0.1
  have hwd := wd_le 9 m (by omega)
  rw [eX6_readFar]
  simp only [rX6_readFar_0, rX6_readFar_1, rX6_readFar_2, rX6_readFar_5, h1, hR, hb.1, rsF_101, up2_eq, va_rf, eq_self, or_true, true_or, Option.toList_some, Option.toList_none, List.cons_append, List.nil_append, if_true, if_false]
  rw [rX6_readFar_8, k_width (by omega)]
  simp only [up2_eq, va_rf, eq_self, or_true, true_or, Option.toList_some, Option.toList_none, List.cons_append, List.nil_append, if_true, if_false]
  rw [rX6_readFar_11 h1, k_bitsD h hok (by omega)]
  simp only [rX6_readFar_14, rX6_readFar_15, up2_eq, va_rf, eq_self, or_true, true_or, Option.toList_some, Option.toList_none, List.cons_append, List.nil_append, if_true, if_false]
  have hok1 : okR (rdB st (wd m) (8 * ss)) (8 * ss) := okR_B hok
  rw [rX6_readFar_16 h1, k_gammaD h hok1]
  simp only [rX6_readFar_19, rX6_readFar_20, rX6_readFar_21, rX6_readFar_22, rX6_readFar_23, rX6_readFar_24, rX6_readFar_25, rX6_readFar_28, rX6_readFar_29, rX6_readFar_30, rX6_readFar_31, rX6_readFar_34, h1, hR, hb.1, rsF_101, up2_eq, va_rf, eq_self, or_true, true_or, Option.toList_some, Option.toList_none, List.cons_append, List.nil_append, if_true, if_false]
  have hokG : okR (rgS (bof by_) (8 * ss) (rdB st (wd m) (8 * ss))) (8 * ss) := okR_G hok1.2.1 8 0 _ hok1
  have o2 := hokG.1
  have hb8 := bv_lt (b := bof by_) (p := st.1) bof_lt (wd m)
  have h29 : 2 ^ wd m ≤ 2 ^ 9 := Nat.pow_le_pow_right (by omega) hwd
  unfold rpC
  by_cases c1 : (rgS (bof by_) (8 * ss) (rdB st (wd m) (8 * ss))).2.1 = 0
  · have cX : ¬ rdX st (wd m) (8 * ss) = true := by
      intro hx
      have hfx := rdB_f hx
      have hrx : rdX (rdB st (wd m) (8 * ss)) 1 (8 * ss) = true := by unfold rdX; simp [hfx]
      have : rgS (bof by_) (8 * ss) (rdB st (wd m) (8 * ss)) = rdB (rdB st (wd m) (8 * ss)) 1 (8 * ss) := by
        unfold rgS rgL
        rw [if_pos hrx]
      rw [this] at c1
      exact rdB_f hrx c1
    obtain ⟨v1, v2, v3⟩ := rgV_ok bof_lt c1
    rw [v3, if_pos c1, if_neg cX, nI_add]
    rw [rX6_readFar_37 h1, k_takeCopy (v2 := lv) (s2 := m) (src := L) h1 hR hb rfl hz1 hz2 hm c1 (rs_isB hb (by omega)) (fun j hj => ⟨by unfold rsA; rw [pfx_new hj], hL j hj⟩) (Nat.le_refl m) (fun _ => Nat.le_refl m) (by omega) (by omega) (by omega)]
    split
    · simp only [rX6_readFar_40, up2_eq, va_rf, eq_self, or_true, true_or, Option.toList_some, Option.toList_none, List.cons_append, List.nil_append, if_true, if_false]
    · simp only [rX6_readFar_40, up2_eq, va_rf, eq_self, or_true, true_or, Option.toList_some, Option.toList_none, List.cons_append, List.nil_append, if_true, if_false]
  · rw [if_neg c1]
    rw [rX6_readFar_37 h1, k_takeCopy0 h1 c1 o2]
    simp only [rX6_readFar_40, up2_eq, va_rf, eq_self, or_true, true_or, Option.toList_some, Option.toList_none, List.cons_append, List.nil_append, if_true, if_false]
end RD5
