/-! ===== the reference: bits read ===== -/
/-- where it reads, the fault, its place: as far as they count -/
def mRd (F : hF_) (y : Nat) (st : rst) : Prop := F 1249 y = nI st.2.1 ∧ (st.2.1 = 0 → F 1248 y = nI st.1) ∧ (¬ st.2.1 = 0 → F 1250 y = nI st.2.2)
def frR12 (y : Nat) (F F' : hF_) : Prop := ∀ q a, ¬ ((q = 1248 ∨ q = 1249 ∨ q = 1250) ∧ a = y) → F' q a = F q a
def mBi (F : hF_) (A : hF_) (y N : Nat) (b : Nat → Nat) : Prop := F 1247 y = nI N ∧ N ≤ 2000 ∧ (∀ j, b j < 2) ∧ ∀ j, j < N → A (y + 32) j = nI (b j)
theorem frR12_refl {y : Nat} {F : hF_} : frR12 y F F := fun _ _ _ => rfl
theorem frR12_trans {y : Nat} {F F1 F2 : hF_} (h : frR12 y F F1) (h' : frR12 y F1 F2) : frR12 y F F2 := fun q a g => by rw [h' q a g, h q a g]
theorem mBi_R {y N : Nat} {F F' A : hF_} {b : Nat → Nat} (h : mBi F A y N b) (h' : frR12 y F F') : mBi F' A y N b := ⟨by rw [h' _ _ (by omega)]; exact h.1, h.2⟩
theorem rdB_ok {st : rst} {nb N : Nat} (h0 : st.2.1 = 0) (h : st.1 + nb ≤ N) : rdB st nb N = (st.1 + nb, st.2.1, st.2.2) := by
  unfold rdB rdX
  rw [if_neg (by simp [h0]; omega)]
theorem rdB_no {st : rst} {nb N : Nat} (h0 : st.2.1 = 0) (h : N < st.1 + nb) : rdB st nb N = (st.1, 1, N) := by
  unfold rdB rdX rdN
  rw [if_pos (by simp [h0]; omega), if_pos h0]
theorem rdB_fl {st : rst} {nb N : Nat} (h0 : ¬ st.2.1 = 0) : rdB st nb N = st := by
  unfold rdB rdX rdN
  rw [if_pos (by simp [h0]), if_neg h0]
section MRD
variable {k n u : Nat} {sh : hs_} {F F' : hF_} {R : hR_} {A A' : hF_} {B : hR_} {Q : Option Value → pm_H → Prop} {y N : Nat} {b : Nat → Nat} {st : rst}
theorem k_wrong {code wh : Nat} (hM : isM sh R y) (h : mRd F y st) (hst : st.2.1 < 7) (hc : ¬ code = 0)
    (hQ : ∀ F', frR12 y F F' → mRd F' y (rdN st code wh) → Q none (mkh n u sh F' R A B)) : rc_ k mX12_wrong [.ref y, .int (nI code), .int (nI wh)] (mkh n u sh F R A B) Q := by
  rw [eX12_wrong]
  have e49 := h.1
  unfold rdN at hQ
  by_cases c : st.2.1 = 0
  · have g1 : nI st.2.1 = nI 0 := by rw [c]
    rw [if_pos c] at hQ
    simp only [rX12_wrong_0, rX12_wrong_1, rX12_wrong_4, rX12_wrong_7, rX12_wrong_8, rX12_wrong_9, rX12_wrong_12, rX12_wrong_13, rX12_wrong_14, rX12_wrong_17, hM.1, e49, g1, up2_eq, va_rf, eq_self, or_true, true_or, Option.toList_some, Option.toList_none, List.cons_append, List.nil_append, if_true, if_false]
    refine hQ _ (fun q a g => by rw [up2_o (by omega), up2_o (by omega)]) ⟨by rw [up2_k (by decide), up2_eq], fun e => absurd e hc, fun _ => up2_eq⟩
  · have g1 : ¬ nI st.2.1 = nI 0 := nI_ne0 (by omega) (by omega)
    rw [if_neg c] at hQ
    simp only [rX12_wrong_0, rX12_wrong_1, rX12_wrong_4, rX12_wrong_17, hM.1, e49, g1, up2_eq, va_rf, eq_self, or_true, true_or, Option.toList_some, Option.toList_none, List.cons_append, List.nil_append, if_true, if_false]
    exact hQ _ frR12_refl h
theorem l_readX {nb j e : Nat} {v : Int32} (hM : isM sh R y) (h : F 1249 y = nI e) (he : ¬ e = 0) (he2 : e < 7) (hj : j ≤ nb) (hnb : nb ≤ 30) : rw_ (k + 1) mX12_read 4 [.ref y, .int (nI nb), .int v, .int (nI j)] [] (mkh n u sh F R A B) Q ↔ Q (some (.int v)) (mkh n u sh F R A B) := by
  have g2 : ¬ nI e = nI 0 := nI_ne0 (by omega) (by omega)
  by_cases c : nb ≤ j
  · have g1 : nI nb ≤ nI j := nI_le c (by omega)
    simp only [rX12_read_4, rX12_read_5, rX12_read_6, rX12_read_69, rX12_read_70, g1, up2_eq, va_rf, eq_self, or_true, true_or, Option.toList_some, Option.toList_none, List.cons_append, List.nil_append, if_true, if_false]
  · have g1 : ¬ nI nb ≤ nI j := nI_ge (by omega) (by omega)
    simp only [rX12_read_4, rX12_read_5, rX12_read_6, rX12_read_9, rX12_read_10, rX12_read_13, rX12_read_69, rX12_read_70, g1, g2, hM.1, h, up2_eq, va_rf, eq_self, or_true, true_or, Option.toList_some, Option.toList_none, List.cons_append, List.nil_append, if_true, if_false]
theorem l_read12 {nb : Nat} (hM : isM sh R y) (hb : mBi F A y N b) (h0 : st.2.1 = 0) (hnb : nb ≤ 30)
    (hQ : ∀ F' v, frR12 y F F' → mRd F' y (rdB st nb N) → ((rdB st nb N).2.1 = 0 → v = nI (bv b st.1 nb)) → Q (some (.int v)) (mkh n u sh F' R A B)) :
    ∀ d j F1, j + d = nb → st.1 + j ≤ N → frR12 y F F1 → F1 1249 y = nI 0 → F1 1248 y = nI (st.1 + j) → rw_ (k + 1) mX12_read 4 [.ref y, .int (nI nb), .int (nI (bv b st.1 j)), .int (nI j)] [] (mkh n u sh F1 R A B) Q := by
  have r32 := hM.r 1246 32 0 2400 (by decide)
  have s32 := hM.s 1246 32 0 2400 (by decide)
  intro d
  induction d with
  | zero =>
    intro j F1 hj hN f1 f2 f3
    have e : j = nb := by omega
    subst e
    have g1 : nI j ≤ nI j := nI_le (Nat.le_refl _) (by omega)
    simp only [rX12_read_4, rX12_read_5, rX12_read_6, rX12_read_69, rX12_read_70, g1, up2_eq, va_rf, eq_self, or_true, true_or, Option.toList_some, Option.toList_none, List.cons_append, List.nil_append, if_true, if_false]
    refine hQ F1 _ f1 ?_ (fun _ => rfl)
    rw [rdB_ok h0 hN]
    exact ⟨by rw [f2, h0], fun _ => f3, fun e => absurd h0 e⟩
  | succ d ih =>
    intro j F1 hj hN f1 f2 f3
    obtain ⟨b1, b2, b3, b4⟩ := mBi_R hb f1
    have g1 : ¬ nI nb ≤ nI j := nI_ge (by omega) (by omega)
    by_cases c1 : st.1 + j = N
    · have g2 : nI (st.1 + j) = nI N := by rw [c1]
      simp only [rX12_read_4, rX12_read_5, rX12_read_6, rX12_read_9, rX12_read_10, rX12_read_13, rX12_read_16, rX12_read_17, rX12_read_20, rX12_read_21, rX12_read_24, rX12_read_27, rX12_read_28, rX12_read_29, rX12_read_30, hM.1, g1, g2, f2, f3, b1, up2_eq, va_rf, eq_self, or_true, true_or, Option.toList_some, Option.toList_none, List.cons_append, List.nil_append, if_true, if_false]
      rw [rX12_read_33 hM.1]
      refine k_wrong (st := (st.1 + j, 0, 0)) hM ⟨f2, fun _ => f3, fun e => absurd rfl e⟩ (show 0 < 7 by decide) (by decide) ?_
      intro F2 q1 q2
      have e49 : F2 1249 y = nI 1 := q2.1
      have e50 : F2 1250 y = nI N := q2.2.2 (show ¬ 1 = 0 by decide)
      simp only [rX12_read_36, rX12_read_63, rX12_read_66, nI_add, up2_eq, va_rf, eq_self, or_true, true_or, Option.toList_some, Option.toList_none, List.cons_append, List.nil_append, if_true, if_false]
      rw [l_readX (e := 1) hM e49 (by decide) (by decide) (by omega) hnb]
      refine hQ F2 _ (frR12_trans f1 q1) ?_ (fun e => ?_)
      · rw [rdB_no h0 (by omega)]
        exact ⟨e49, fun e => absurd e (show ¬ 1 = 0 by decide), fun _ => e50⟩
      · rw [rdB_no h0 (by omega)] at e
        exact absurd e (show ¬ 1 = 0 by decide)
    · have g2 : ¬ nI (st.1 + j) = nI N := by rw [nI_eq (by omega) (by omega)]; exact c1
      simp only [rX12_read_4, rX12_read_5, rX12_read_6, rX12_read_9, rX12_read_10, rX12_read_13, rX12_read_16, rX12_read_17, rX12_read_20, rX12_read_21, rX12_read_24, rX12_read_39, rX12_read_40, rX12_read_41, rX12_read_42, rX12_read_43, rX12_read_46, rX12_read_47, hM.1, g1, g2, f2, f3, b1, r32, pk_mul, up2_eq, va_rf, eq_self, or_true, true_or, Option.toList_some, Option.toList_none, List.cons_append, List.nil_append, if_true, if_false]
      rw [rX12_read_50 s32 (by decide) (by omega) (by omega), b4 _ (by omega)]
      simp only [rX12_read_51, rX12_read_52, rX12_read_53, rX12_read_54, rX12_read_55, rX12_read_58, rX12_read_59, rX12_read_60, rX12_read_63, rX12_read_66, hM.1, f3, nI_add, up2_eq, va_rf, eq_self, or_true, true_or, Option.toList_some, Option.toList_none, List.cons_append, List.nil_append, if_true, if_false]
      exact ih (j + 1) _ (by omega) (by omega) (fun q a g => by rw [up2_o (by omega)]; exact f1 q a g) (by rw [up2_k (by decide)]; exact f2) up2_eq
theorem k_read12 {nb : Nat} (hM : isM sh R y) (hb : mBi F A y N b) (h : mRd F y st) (hok : okR st N) (hnb : nb ≤ 30)
    (hQ : ∀ F' v, frR12 y F F' → mRd F' y (rdB st nb N) → ((rdB st nb N).2.1 = 0 → v = nI (bv b st.1 nb)) → Q (some (.int v)) (mkh n u sh F' R A B)) :
    rc_ (k + 1) mX12_read [.ref y, .int (nI nb)] (mkh n u sh F R A B) Q := by
  rw [eX12_read]
  simp only [rX12_read_0, rX12_read_1, rX12_read_2, rX12_read_3]
  by_cases c : st.2.1 = 0
  · exact l_read12 (k := k) hM hb c hnb hQ nb 0 F (Nat.zero_add _) hok.2.1 frR12_refl (by rw [h.1, c]) (h.2.1 c)
  · rw [l_readX (e := st.2.1) hM h.1 c hok.1 (Nat.zero_le _) hnb]
    refine hQ F _ frR12_refl ?_ (fun e => ?_)
    · rw [rdB_fl c]; exact h
    · rw [rdB_fl c] at e; exact absurd e c
/-- a number in G: what follows a fault -/
theorem l_rGx {z : Nat} {x1 x3 x4 : Value} (hM : isM sh R y) (hb : mBi F A y N b) (h : mRd F y st) (hok : okR st N) (hf : ¬ st.2.1 = 0) (hz : z ≤ 8)
    (hQ : ∀ F', frR12 y F F' → mRd F' y st → Q (some (.int (nI 1))) (mkh n u sh F' R A B)) :
    rw_ (k + 2) mX12_readG 48 [.ref y, x1, .int (nI z), x3, x4] [] (mkh n u sh F R A B) Q := by
  simp only [rX12_readG_48, rX12_readG_49, up2_eq, va_rf, eq_self, or_true, true_or, Option.toList_some, Option.toList_none, List.cons_append, List.nil_append, if_true, if_false]
  rw [rX12_readG_50 hM.1]
  refine k_read12 hM hb h hok (by omega) ?_
  intro F2 v q1 q2 q3
  rw [rdB_fl hf] at q2
  have h7 := hok.1
  have e49 := q2.1
  have g2 : ¬ nI st.2.1 = nI 0 := nI_ne0 (by omega) (by omega)
  simp only [rX12_readG_53, rX12_readG_55, rX12_readG_56, rX12_readG_59, rX12_readG_71, rX12_readG_72, hM.1, e49, g2, up2_eq, va_rf, eq_self, or_true, true_or, Option.toList_some, Option.toList_none, List.cons_append, List.nil_append, if_true, if_false]
  exact hQ F2 q1 q2
theorem l_rGf {z : Nat} {v : Int32} {x1 x4 : Value} (hM : isM sh R y) (hb : mBi F A y N b) (h : mRd F y st) (hok : okR st N) (hf : ¬ st.2.1 = 0) (hz : z ≤ 8)
    (hQ : ∀ F', frR12 y F F' → mRd F' y st → Q (some (.int (nI 1))) (mkh n u sh F' R A B)) :
    rw_ (k + 2) mX12_readG 13 [.ref y, x1, .int (nI z), .int v, x4] [] (mkh n u sh F R A B) Q := by
  have h7 := hok.1
  have e49 := h.1
  have g2 : ¬ nI st.2.1 = nI 0 := nI_ne0 (by omega) (by omega)
  by_cases c : v = nI 0
  · simp only [rX12_readG_13, rX12_readG_14, rX12_readG_17, rX12_readG_18, rX12_readG_21, hM.1, e49, g2, c, up2_eq, va_rf, eq_self, or_true, true_or, Option.toList_some, Option.toList_none, List.cons_append, List.nil_append, if_true, if_false]
    exact l_rGx hM hb h hok hf hz hQ
  · simp only [rX12_readG_13, rX12_readG_14, c, up2_eq, va_rf, eq_self, or_true, true_or, Option.toList_some, Option.toList_none, List.cons_append, List.nil_append, if_true, if_false]
    exact l_rGx hM hb h hok hf hz hQ
theorem l_rG {first : Nat} (hM : isM sh R y) (hb : mBi F A y N b) (hfi : first ≤ N) :
    ∀ d z st F1 v x4, z + d + 1 = 8 → okR st N → st.2.1 = 0 → frR12 y F F1 → mRd F1 y (rdB st 1 N) → ((rdB st 1 N).2.1 = 0 → v = nI (bv b st.1 1)) →
    (∀ F' v, frR12 y F F' → mRd F' y (rgL b N first (d + 1) z st).2 → ((rgL b N first (d + 1) z st).2.2.1 = 0 → v = (rgL b N first (d + 1) z st).1) → (¬ (rgL b N first (d + 1) z st).2.2.1 = 0 → v = nI 1) → Q (some (.int v)) (mkh n u sh F' R A B)) →
    rw_ (k + 2) mX12_readG 13 [.ref y, .int (nI first), .int (nI z), .int v, x4] [] (mkh n u sh F1 R A B) Q := by
  intro d
  induction d with
  | zero =>
    intro z st F1 v x4 hz hok h0 f1 f2 f3 hQ
    have okB1 := okR_B (nb := 1) hok
    have hb1 := mBi_R hb f1
    by_cases c1 : rdX st 1 N = true
    · have hf := rdB_f c1
      unfold rgL at hQ
      rw [if_pos c1] at hQ
      exact l_rGf hM hb1 f2 okB1 hf (by omega) (fun F' q1 q2 => hQ F' _ (frR12_trans f1 q1) q2 (fun e => absurd e hf) (fun _ => rfl))
    · have hn := rdB_0 c1
      have hv := f3 hn
      have h2 : bv b st.1 1 < 2 := bv_lt hb.2.2.1 1
      have e49 : F1 1249 y = nI 0 := by rw [f2.1, hn]
      by_cases c2 : bv b st.1 1 = 1
      · rw [c2] at hv
        subst hv
        have g : ¬ nI 1 = nI 0 := by decide
        simp only [rX12_readG_13, rX12_readG_14, rX12_readG_48, rX12_readG_49, g, up2_eq, va_rf, eq_self, or_true, true_or, Option.toList_some, Option.toList_none, List.cons_append, List.nil_append, if_true, if_false]
        rw [rX12_readG_50 hM.1]
        refine k_read12 hM hb1 f2 okB1 (by omega) ?_
        intro F2 v2 q1 q2 q3
        unfold rgL at hQ
        rw [if_neg c1, if_pos c2] at hQ
        have okB2 := okR_B (nb := z) okB1
        have e49' := q2.1
        by_cases c3 : (rdB (rdB st 1 N) z N).2.1 = 0
        · have hx : ¬ rdX (rdB st 1 N) z N = true := fun e => rdB_f e c3
          have hv2 := q3 c3
          subst hv2
          rw [c3] at e49'
          have hsh := shl_1 ⟨z, by omega⟩
          simp only at hsh
          simp only [rX12_readG_53, rX12_readG_55, rX12_readG_56, rX12_readG_59, rX12_readG_62, rX12_readG_63, rX12_readG_64, rX12_readG_65, rX12_readG_67, rX12_readG_68, rX12_readG_72, hM.1, e49', hsh, nI_add, up2_eq, va_rf, eq_self, or_true, true_or, Option.toList_some, Option.toList_none, List.cons_append, List.nil_append, if_true, if_false]
          rw [if_neg hx] at hQ
          exact hQ F2 _ (frR12_trans f1 q1) q2 (fun _ => rfl) (fun e => absurd c3 e)
        · have h7 := okB2.1
          have g2 : ¬ nI (rdB (rdB st 1 N) z N).2.1 = nI 0 := nI_ne0 (by omega) (by omega)
          simp only [rX12_readG_53, rX12_readG_55, rX12_readG_56, rX12_readG_59, rX12_readG_71, rX12_readG_72, hM.1, e49', g2, up2_eq, va_rf, eq_self, or_true, true_or, Option.toList_some, Option.toList_none, List.cons_append, List.nil_append, if_true, if_false]
          exact hQ F2 _ (frR12_trans f1 q1) q2 (fun e => absurd e c3) (fun _ => rfl)
      · have e0 : bv b st.1 1 = 0 := by omega
        rw [e0] at hv
        subst hv
        have e8 : z + 1 = 8 := by omega
        have g8 : nI (z + 1) = nI 8 := by rw [e8]
        simp only [rX12_readG_13, rX12_readG_14, rX12_readG_17, rX12_readG_18, rX12_readG_21, rX12_readG_24, rX12_readG_27, rX12_readG_28, rX12_readG_30, rX12_readG_33, rX12_readG_34, rX12_readG_35, hM.1, e49, nI_add, g8, up2_eq, va_rf, eq_self, or_true, true_or, Option.toList_some, Option.toList_none, List.cons_append, List.nil_append, if_true, if_false]
        rw [rX12_readG_36 hM.1]
        refine k_wrong hM f2 okB1.1 (by decide) ?_
        intro F2 q1 q2
        simp only [rX12_readG_39, rX12_readG_40, up2_eq, va_rf, eq_self, or_true, true_or, Option.toList_some, Option.toList_none, List.cons_append, List.nil_append, if_true, if_false]
        rw [rX12_readG_41 hM.1]
        have okN := okR_N (code := 3) (wh := first) okB1 (by decide) hfi
        have hf : ¬ (rdN (rdB st 1 N) 3 first).2.1 = 0 := by unfold rdN; rw [if_pos hn]; exact (by decide : ¬ (3 : Nat) = 0)
        refine k_read12 hM (mBi_R hb1 q1) q2 okN (by omega) ?_
        intro F3 v3 q3 q4 q5
        rw [rdB_fl hf] at q4
        simp only [rX12_readG_44, rX12_readG_45, up2_eq, va_rf, eq_self, or_true, true_or, Option.toList_some, Option.toList_none, List.cons_append, List.nil_append, if_true, if_false]
        have hb3 := mBi_R (mBi_R hb1 q1) q3
        unfold rgL at hQ
        rw [if_neg c1, if_neg c2] at hQ
        unfold rgL at hQ
        have := l_rGf (k := k) (n := n) (u := u) (B := B) (Q := Q) (z := 8) (v := v3) (x1 := .int (nI first)) (x4 := x4) hM hb3 q4 okN hf (by omega) (fun F' p1 p2 => hQ F' _ (frR12_trans f1 (frR12_trans q1 (frR12_trans q3 p1))) p2 (fun e => absurd e hf) (fun _ => rfl))
        exact this
  | succ d ih =>
    intro z st F1 v x4 hz hok h0 f1 f2 f3 hQ
    have okB1 := okR_B (nb := 1) hok
    have hb1 := mBi_R hb f1
    by_cases c1 : rdX st 1 N = true
    · have hf := rdB_f c1
      unfold rgL at hQ
      rw [if_pos c1] at hQ
      exact l_rGf hM hb1 f2 okB1 hf (by omega) (fun F' q1 q2 => hQ F' _ (frR12_trans f1 q1) q2 (fun e => absurd e hf) (fun _ => rfl))
    · have hn := rdB_0 c1
      have hv := f3 hn
      have h2 : bv b st.1 1 < 2 := bv_lt hb.2.2.1 1
      have e49 : F1 1249 y = nI 0 := by rw [f2.1, hn]
      by_cases c2 : bv b st.1 1 = 1
      · rw [c2] at hv
        subst hv
        have g : ¬ nI 1 = nI 0 := by decide
        simp only [rX12_readG_13, rX12_readG_14, rX12_readG_48, rX12_readG_49, g, up2_eq, va_rf, eq_self, or_true, true_or, Option.toList_some, Option.toList_none, List.cons_append, List.nil_append, if_true, if_false]
        rw [rX12_readG_50 hM.1]
        refine k_read12 hM hb1 f2 okB1 (by omega) ?_
        intro F2 v2 q1 q2 q3
        unfold rgL at hQ
        rw [if_neg c1, if_pos c2] at hQ
        have okB2 := okR_B (nb := z) okB1
        have e49' := q2.1
        by_cases c3 : (rdB (rdB st 1 N) z N).2.1 = 0
        · have hx : ¬ rdX (rdB st 1 N) z N = true := fun e => rdB_f e c3
          have hv2 := q3 c3
          subst hv2
          rw [c3] at e49'
          have hsh := shl_1 ⟨z, by omega⟩
          simp only at hsh
          simp only [rX12_readG_53, rX12_readG_55, rX12_readG_56, rX12_readG_59, rX12_readG_62, rX12_readG_63, rX12_readG_64, rX12_readG_65, rX12_readG_67, rX12_readG_68, rX12_readG_72, hM.1, e49', hsh, nI_add, up2_eq, va_rf, eq_self, or_true, true_or, Option.toList_some, Option.toList_none, List.cons_append, List.nil_append, if_true, if_false]
          rw [if_neg hx] at hQ
          exact hQ F2 _ (frR12_trans f1 q1) q2 (fun _ => rfl) (fun e => absurd c3 e)
        · have h7 := okB2.1
          have g2 : ¬ nI (rdB (rdB st 1 N) z N).2.1 = nI 0 := nI_ne0 (by omega) (by omega)
          simp only [rX12_readG_53, rX12_readG_55, rX12_readG_56, rX12_readG_59, rX12_readG_71, rX12_readG_72, hM.1, e49', g2, up2_eq, va_rf, eq_self, or_true, true_or, Option.toList_some, Option.toList_none, List.cons_append, List.nil_append, if_true, if_false]
          exact hQ F2 _ (frR12_trans f1 q1) q2 (fun e => absurd e c3) (fun _ => rfl)
      · have e0 : bv b st.1 1 = 0 := by omega
        rw [e0] at hv
        subst hv
        have g8 : ¬ nI (z + 1) = nI 8 := by rw [nI_eq (by omega) (by omega)]; omega
        simp only [rX12_readG_13, rX12_readG_14, rX12_readG_17, rX12_readG_18, rX12_readG_21, rX12_readG_24, rX12_readG_27, rX12_readG_28, rX12_readG_30, rX12_readG_39, rX12_readG_40, hM.1, e49, nI_add, g8, up2_eq, va_rf, eq_self, or_true, true_or, Option.toList_some, Option.toList_none, List.cons_append, List.nil_append, if_true, if_false]
        rw [rX12_readG_41 hM.1]
        refine k_read12 hM hb1 f2 okB1 (by omega) ?_
        intro F3 v3 q3 q4 q5
        simp only [rX12_readG_44, rX12_readG_45, up2_eq, va_rf, eq_self, or_true, true_or, Option.toList_some, Option.toList_none, List.cons_append, List.nil_append, if_true, if_false]
        rw [show rgL b N first (d + 1 + 1) z st = rgL b N first (d + 1) (z + 1) (rdB st 1 N) from by rw [rgL, if_neg c1, if_neg c2]] at hQ
        exact ih (z + 1) (rdB st 1 N) F3 v3 x4 (by omega) okB1 hn (frR12_trans f1 q3) q4 q5 hQ
theorem k_readG12 (hM : isM sh R y) (hb : mBi F A y N b) (h : mRd F y st) (hok : okR st N)
    (hQ : ∀ F' v, frR12 y F F' → mRd F' y (rgS b N st) → ((rgS b N st).2.1 = 0 → v = nI (rgV b N st)) → (¬ (rgS b N st).2.1 = 0 → v = nI 1) → Q (some (.int v)) (mkh n u sh F' R A B)) :
    rc_ (k + 2) mX12_readG [.ref y] (mkh n u sh F R A B) Q := by
  rw [eX12_readG]
  simp only [rX12_readG_0, rX12_readG_1, rX12_readG_4, rX12_readG_5, rX12_readG_6, rX12_readG_7, rX12_readG_8, hM.1, up2_eq, va_rf, eq_self, or_true, true_or, Option.toList_some, Option.toList_none, List.cons_append, List.nil_append, if_true, if_false]
  rw [rX12_readG_9 hM.1]
  refine k_read12 hM hb h hok (by omega) ?_
  intro F2 v q1 q2 q3
  simp only [rX12_readG_12, up2_eq, va_rf, eq_self, or_true, true_or, Option.toList_some, Option.toList_none, List.cons_append, List.nil_append, if_true, if_false]
  by_cases c : st.2.1 = 0
  · rw [h.2.1 c]
    refine l_rG hM hb hok.2.1 7 0 st F2 v _ (by omega) hok c q1 q2 q3 ?_
    intro F' v' p1 p2 p3 p4
    exact hQ F' v' p1 p2 (fun e => by rw [p3 e]; exact (rgV_ok hb.2.2.1 e).2.2) p4
  · have e : rgS b N st = st := by
      have hx : rdX st 1 N = true := by unfold rdX; simp [c]
      unfold rgS rgL
      rw [if_pos hx]
      exact rdB_fl c
    rw [e] at hQ
    rw [rdB_fl c] at q2
    exact l_rGf (z := 0) hM (mBi_R hb q1) q2 hok c (by omega) (fun F' p1 p2 => hQ F' _ (frR12_trans q1 p1) p2 (fun e => absurd e c) (fun _ => rfl))
end MRD
