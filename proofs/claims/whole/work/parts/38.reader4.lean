/-! ===== the reader: the parts ===== -/
theorem rdB_f {st : rst} {nb N : Nat} (h : rdX st nb N = true) : ¬ (rdB st nb N).2.1 = 0 := by
  unfold rdB
  rw [if_pos h]
  unfold rdN
  split
  · show ¬ (1 : Nat) = 0
    decide
  · rename_i h2
    exact h2
theorem rdX_0 {st : rst} {nb N : Nat} (h : ¬ rdX st nb N = true) : st.2.1 = 0 ∧ st.1 + nb ≤ N := by
  unfold rdX at h
  simp at h
  exact h
theorem rdB_0 {st : rst} {nb N : Nat} (h : ¬ rdX st nb N = true) : (rdB st nb N).2.1 = 0 := by
  have := (rdX_0 h).1
  unfold rdB
  rw [if_neg h]
  exact this
theorem rdN_f {st : rst} {code wh : Nat} (hc : ¬ code = 0) : ¬ (rdN st code wh).2.1 = 0 := by
  unfold rdN
  split
  · exact hc
  · rename_i h
    exact h
theorem rgL_ok {b : Nat → Nat} {N first : Nat} (hb : ∀ j, b j < 2) : ∀ d z st, z + d = 8 → (rgL b N first d z st).2.2.1 = 0 → ∃ g, 1 ≤ g ∧ g < 256 ∧ (rgL b N first d z st).1 = nI g
  | 0, z, st, _, h => absurd h (rdN_f (by decide))
  | d + 1, z, st, hz, h => by
    unfold rgL at h ⊢
    split at h
    · rename_i h1
      exact absurd h (rdB_f h1)
    · rename_i h1
      split at h
      · rename_i h2
        by_cases h3 : rdX (rdB st 1 N) z N = true
        · exact absurd h (rdB_f h3)
        · have hv := bv_lt (p := (rdB st 1 N).1) hb z
          have hp : 2 ^ z ≤ 2 ^ 7 := Nat.pow_le_pow_right (by omega) (by omega)
          have hp1 : 0 < 2 ^ z := Nat.pos_of_ne_zero (by intro e; simp at e)
          refine ⟨2 ^ z + bv b (rdB st 1 N).1 z, by omega, by omega, ?_⟩
          rw [if_neg h1, if_pos h2]
          dsimp only
          rw [if_neg h3]
      · rename_i h2
        rw [if_neg h1, if_neg h2]
        exact rgL_ok hb d (z + 1) _ (by omega) h
/-- the number that gamma gives -/
def rgV (b : Nat → Nat) (N : Nat) (st : rst) : Nat := (rgL b N st.1 8 0 st).1.toNatClampNeg
def rgS (b : Nat → Nat) (N : Nat) (st : rst) : rst := (rgL b N st.1 8 0 st).2
theorem rgV_ok {b : Nat → Nat} {N : Nat} {st : rst} (hb : ∀ j, b j < 2) (h : (rgS b N st).2.1 = 0) : 1 ≤ rgV b N st ∧ rgV b N st < 256 ∧ (rgL b N st.1 8 0 st).1 = nI (rgV b N st) := by
  obtain ⟨g, h1, h2, h3⟩ := rgL_ok hb 8 0 st (by omega) h
  unfold rgV
  rw [h3, nI_clamp (by omega)]
  exact ⟨h1, h2, rfl⟩
abbrev rss : Type := rst × Nat × (Nat → Nat)
def rpO (b : Nat → Nat) (N zs : Nat) (st : rst) (m : Nat) (L : Nat → Nat) (first : Nat) : rss :=
  if (rgS b N st).2.1 = 0 then (if 120 < rgV b N st ∨ zs - m < rgV b N st then (rdN (rgS b N st) 5 first, m, L) else roL b N (rgV b N st) (rgS b N st) m L) else (rgS b N st, m, L)
/-- a copy: w bits of place, from a row of bytes, to be ahead of en -/
def rpC (b : Nat → Nat) (N zs : Nat) (st : rst) (m : Nat) (L : Nat → Nat) (first w : Nat) (src en : Nat → Nat) : rss :=
  if (rgS b N (rdB st w N)).2.1 = 0 then (if en (bv b st.1 w) < bv b st.1 w + (rgV b N (rdB st w N) + 2) ∨ zs - m < rgV b N (rdB st w N) + 2 then (rdN (rgS b N (rdB st w N)) 5 first, m, L) else (rgS b N (rdB st w N), m + (rgV b N (rdB st w N) + 2), lcp L src m (bv b st.1 w))) else (rgS b N (rdB st w N), m, L)
def rpW (b : Nat → Nat) (N zs : Nat) (st : rst) (m : Nat) (L : Nat → Nat) (first c : Nat) (E src : Nat → Nat) (rk : Bool) : rss :=
  if rk = true then (if (rgS b N st).2.1 = 0 then (if c ≤ rgV b N st - 1 ∨ zs - m < E (rgV b N st - 1) - pst E (rgV b N st - 1) then (rdN (rgS b N st) 5 first, m, L) else (rgS b N st, m + (E (rgV b N st - 1) - pst E (rgV b N st - 1)), lcp L src m (pst E (rgV b N st - 1)))) else (rgS b N st, m, L)) else (rdN st 5 first, m, L)
section RD4
variable {k n u : Nat} {sh : hs_} {F : hF_} {R : hR_} {A : hF_} {B : hR_} {Q : Option Value → pm_H → Prop} {rd so sv sz ss N lt lv lz l0 m zs : Nat} {by_ L : Nat → Nat} {st : rst}
/-- the reader with its letter: what stays -/
def isD (sh : hs_) (F : hF_) (R : hR_) (A : hF_) (rd so sv sz ss lt lv l0 zs : Nat) (by_ : Nat → Nat) : Prop := isR sh F R A rd so sv sz ss by_ ∧ so ≠ lt ∧ sv ≠ lv ∧ R 601 rd = some lt ∧ isB sh F R lt lv 120 l0 ∧ F 605 rd = nI zs ∧ zs ≤ 120
theorem isD.r (h : isD sh F R A rd so sv sz ss lt lv l0 zs by_) : isR sh (up2 F 101 lt (nI m)) R (rsA A lv L m) rd so sv sz ss by_ := by
  obtain ⟨⟨h1, h2, h3, h4, h5, h6⟩, hso, hsv, -⟩ := h
  exact ⟨h1, h2, h3.other hso, h4, by rw [up2_k (by decide)]; exact h5, fun j hj => by unfold rsA; rw [pfx_out hsv]; exact h6 j hj⟩
theorem k_gammaD (h : isD sh F R A rd so sv sz ss lt lv l0 zs by_) (hok : okR st (8 * ss)) : rc_ (k + 2) mX6_readGamma [.ref rd] (mkh n u sh (rsF F rd lt st m) R (rsA A lv L m) B) Q ↔ Q (some (.int (rgL (bof by_) (8 * ss) st.1 8 0 st).1)) (mkh n u sh (rsF F rd lt (rgS (bof by_) (8 * ss) st) m) R (rsA A lv L m) B) := k_readGamma h.r hok
theorem k_bitsD {nb : Nat} (h : isD sh F R A rd so sv sz ss lt lv l0 zs by_) (hok : okR st (8 * ss)) (hnb : nb ≤ 30) : rc_ (k + 1) mX6_readBits [.ref rd, .int (nI nb)] (mkh n u sh (rsF F rd lt st m) R (rsA A lv L m) B) Q ↔ Q (some (.int (if rdX st nb (8 * ss) = true then -1 else nI (bv (bof by_) st.1 nb)))) (mkh n u sh (rsF F rd lt (rdB st nb (8 * ss)) m) R (rsA A lv L m) B) := k_readBits h.r (by have := hok.1; omega) hok.2.1 hnb
theorem k_noteD {code wh : Nat} (h : isD sh F R A rd so sv sz ss lt lv l0 zs by_) (hok : okR st (8 * ss)) : rc_ k mX6_note [.ref rd, .int (nI code), .int (nI wh)] (mkh n u sh (rsF F rd lt st m) R (rsA A lv L m) B) Q ↔ Q none (mkh n u sh (rsF F rd lt (rdN st code wh) m) R (rsA A lv L m) B) := k_note h.1.1 (by have := hok.1; omega)
theorem rsF_606 : rsF F rd lt st m 606 rd = nI st.2.1 := rdF_606
theorem rsF_101 : rsF F rd lt st m 101 lt = nI m := by
  unfold rsF
  rw [rdF_o (by decide) (by decide) (by decide), up2_eq]
theorem rsF_605 (h : F 605 rd = nI zs) : rsF F rd lt st m 605 rd = nI zs := by
  unfold rsF
  rw [rdF_o (by decide) (by decide) (by decide), up2_k (by decide)]
  exact h
theorem k_readOwn {first : Nat} (h : isD sh F R A rd so sv sz ss lt lv l0 zs by_) (hok : okR st (8 * ss)) (hfi : first ≤ 8 * ss) (hm : m ≤ zs) :
    rc_ (k + 3) mX6_readOwn [.ref rd, .int (nI first)] (mkh n u sh (rsF F rd lt st m) R (rsA A lv L m) B) Q ↔ Q none (mkh n u sh (rsF F rd lt (rpO (bof by_) (8 * ss) zs st m L first).1 (rpO (bof by_) (8 * ss) zs st m L first).2.1) R (rsA A lv (rpO (bof by_) (8 * ss) zs st m L first).2.2 (rpO (bof by_) (8 * ss) zs st m L first).2.1) B) := by
  obtain ⟨hr, hso, hsv, hR, hb, hz1, hz2⟩ := id h
  have h1 := hr.1
  have hokG : okR (rgS (bof by_) (8 * ss) st) (8 * ss) := okR_G hok.2.1 8 0 st hok
  have o2 := hokG.1
  rw [eX6_readOwn]
  simp only [rX6_readOwn_0]
  rw [rX6_readOwn_1 h1, k_gammaD h hok]
  unfold rpO
  by_cases c1 : (rgS (bof by_) (8 * ss) st).2.1 = 0
  · have g1 : nI (rgS (bof by_) (8 * ss) st).2.1 = nI 0 := by rw [c1]
    obtain ⟨v1, v2, v3⟩ := rgV_ok bof_lt c1
    rw [v3, if_pos c1]
    simp only [rX6_readOwn_4, rX6_readOwn_5, rX6_readOwn_6, rX6_readOwn_9, rX6_readOwn_13, rX6_readOwn_14, h1, rsF_606, g1, up2_eq, va_rf, eq_self, or_true, true_or, Option.toList_some, Option.toList_none, List.cons_append, List.nil_append, if_true, if_false]
    have bad : ∀ y3 y4 : Value, (rw_ (k + 3) mX6_readOwn 35 [.ref rd, .int (nI first), .int (nI (rgV (bof by_) (8 * ss) st)), y3, y4] [] (mkh n u sh (rsF F rd lt (rgS (bof by_) (8 * ss) st) m) R (rsA A lv L m) B) Q ↔ Q none (mkh n u sh (rsF F rd lt (rdN (rgS (bof by_) (8 * ss) st) 5 first) m) R (rsA A lv L m) B)) := by
      intro y3 y4
      simp only [rX6_readOwn_35, rX6_readOwn_36, rX6_readOwn_37]
      rw [rX6_readOwn_38 h1, k_noteD h hokG]
      have hf5 : (rdN (rgS (bof by_) (8 * ss) st) 5 first).2.1 = 5 := by unfold rdN; rw [if_pos c1]
      have g5 : ¬ nI 5 = nI 0 := by decide
      have g6 : ¬ nI (rgV (bof by_) (8 * ss) st) ≤ nI 0 := nI_ge (by omega) (by omega)
      simp only [rX6_readOwn_41, rX6_readOwn_42, rX6_readOwn_43, rX6_readOwn_44, rX6_readOwn_45, rX6_readOwn_48, rX6_readOwn_49, rX6_readOwn_52, rX6_readOwn_85, h1, rsF_606, hf5, g5, g6, up2_eq, va_rf, eq_self, or_true, true_or, Option.toList_some, Option.toList_none, List.cons_append, List.nil_append, if_true, if_false]
    by_cases c2 : 120 < rgV (bof by_) (8 * ss) st
    · have g2 : nI 120 < nI (rgV (bof by_) (8 * ss) st) := nI_lt c2 (by omega)
      rw [if_pos (Or.inl c2)]
      simp only [rX6_readOwn_16, g2, up2_eq, va_rf, eq_self, or_true, true_or, Option.toList_some, Option.toList_none, List.cons_append, List.nil_append, if_true, if_false]
      exact bad _ _
    · have g2 : ¬ nI 120 < nI (rgV (bof by_) (8 * ss) st) := nI_nlt (by omega) (by omega)
      simp only [rX6_readOwn_16, rX6_readOwn_19, rX6_readOwn_20, rX6_readOwn_21, rX6_readOwn_24, rX6_readOwn_25, rX6_readOwn_28, rX6_readOwn_31, h1, hR, hb.1, rsF_101, rsF_605 hz1, pk_sub hm, g2, up2_eq, va_rf, eq_self, or_true, true_or, Option.toList_some, Option.toList_none, List.cons_append, List.nil_append, if_true, if_false]
      by_cases c3 : zs - m < rgV (bof by_) (8 * ss) st
      · have g3 : ¬ nI (rgV (bof by_) (8 * ss) st) ≤ nI (zs - m) := nI_ge c3 (by omega)
        rw [if_pos (Or.inr c3)]
        simp only [rX6_readOwn_32, g3, up2_eq, va_rf, eq_self, or_true, true_or, Option.toList_some, Option.toList_none, List.cons_append, List.nil_append, if_true, if_false]
        exact bad _ _
      · have g3 : nI (rgV (bof by_) (8 * ss) st) ≤ nI (zs - m) := nI_le (by omega) (by omega)
        rw [if_neg (fun x => x.elim c2 c3)]
        simp only [rX6_readOwn_32, rX6_readOwn_41, rX6_readOwn_42, g3, up2_eq, va_rf, eq_self, or_true, true_or, Option.toList_some, Option.toList_none, List.cons_append, List.nil_append, if_true, if_false]
        exact l_readOwn (k := k + 1) hr hso hsv hR hb rfl (by omega) _ 0 (rgS (bof by_) (8 * ss) st) m L (by omega) hokG (by omega) _
  · have g1 : ¬ nI (rgS (bof by_) (8 * ss) st).2.1 = nI 0 := nI_ne0 (by omega) (by omega)
    rw [if_neg c1]
    simp only [rX6_readOwn_4, rX6_readOwn_5, rX6_readOwn_6, rX6_readOwn_9, rX6_readOwn_12, h1, rsF_606, g1, up2_eq, va_rf, eq_self, or_true, true_or, Option.toList_some, Option.toList_none, List.cons_append, List.nil_append, if_true, if_false]
end RD4
