/-! ===== the reference: unpack, whole ===== -/
def suT (T : TT) (e w m : Nat) (L : Nat → Nat) : Int32 × TT := if e = 0 then (nI m, (up2 (sTO T.1 0 m (T.1 30) L) 26 0 0, T.2)) else (-100 - nI w, (up2 (sTO T.1 0 (T.1 1 0) (T.1 30) (T.1 31)) 26 0 e, T.2))
theorem su_un {T : TT} : s_unpack T = suT T (rdT T (T.1 0 0) (T.1 30)).1.2.1 (rdT T (T.1 0 0) (T.1 30)).1.2.2 (rdT T (T.1 0 0) (T.1 30)).2.1 (rdT T (T.1 0 0) (T.1 30)).2.2 := by
  unfold s_unpack suT
  split
  · rfl
  · rfl
def frU12 (y : Nat) (F : hF_) (A : hF_) (F' : hF_) (A' : hF_) : Prop := (∀ q a, ¬ ((q = 1200 ∨ q = 1202 ∨ (1247 ≤ q ∧ q ≤ 1250) ∨ q = 1253) ∧ a = y) → F' q a = F q a) ∧ ∀ a, a ≠ y + 32 → a ≠ y + 33 → A' a = A a
theorem frU_G {y : Nat} {F F1 F2 : hF_} {A A1 A2 : hF_} (h : frU12 y F A F1 A1) (h' : frG12 y F1 A1 F2 A2) : frU12 y F A F2 A2 := ⟨fun q a g => by rw [h'.1 q a (by omega), h.1 q a g], fun a g1 g2 => by rw [h'.2 a g2, h.2 a g1 g2]⟩
theorem pbS_bof {bl : Nat → Nat} : ∀ q j, j < 8 * q → b2 ((pbS ((fun _ => false), 0) bl 0 q).1 j) 1 = bof bl j
  | 0, j, h => by omega
  | q + 1, j, h => by
    have e2 := pbS_2 (st := ((fun _ => false), 0)) (bl := bl) (p := 0) q
    dsimp only at e2
    show b2 (wb (pbS ((fun _ => false), 0) bl 0 q).1 (pbS ((fun _ => false), 0) bl 0 q).2 (bl (0 + q)) 8 8 j) 1 = bof bl j
    by_cases c : j < 8 * q
    · rw [wb_out _ _ (Or.inl (by omega))]
      exact pbS_bof q j c
    · rw [wb_in12 (by omega) _ (by omega), b2_dec, e2]
      unfold bof
      rw [show j / 8 = q by omega, show 7 - j % 8 = 8 - 1 - (j - (0 + 8 * q)) by omega, Nat.zero_add]
theorem lk_bx {T : TT} {g : Nat} (hg : g < 2 ^ 20) (h24 : T.1 2 0 ≤ 24) : lkT T g = (bx (nI g - nI 1) (T.1 2 0)).map (bkT T) := by
  unfold lkT bx
  by_cases c : g = 0
  · subst c
    rw [if_pos rfl, if_pos (by decide)]
    rfl
  · rw [if_neg c, pk_sub (by omega), if_neg (nI_neg1 (by omega))]
    by_cases c1 : g - 1 < T.1 2 0
    · rw [if_pos c1, ix_nI c1 (by omega) (by omega)]
      rfl
    · rw [if_neg c1]
      unfold ix
      rw [if_neg (nI_nlt (Nat.zero_le _) (by omega)), if_pos (nI_le (by omega) (by omega))]
      rfl
section MU2
variable {k n u : Nat} {sh : hs_} {F F' F0 : hF_} {R : hR_} {A A' A0 : hF_} {B : hR_} {Q : Option Value → pm_H → Prop} {y N : Nat} {b : Nat → Nat} {st : rst} {m zs c s : Nat} {L E f : Nat → Nat} {bi : Int32} {rk : Bool} {T : TT} {x1 x2 x3 x4 : Value}
theorem l_u230 {e w : Nat} (hM : isM sh R y) (h0 : MS F0 A0 y T) (hT : okT T) (hfr : frU12 y F0 A0 F A) (h02 : F 1202 y = nI 0) (he : F 1249 y = nI e) (he7 : e < 7) (hw : ¬ e = 0 → F 1250 y = nI w) (hg : mGt F A y m L) (hm : m ≤ 120)
    (hQ : mPost n u sh F0 R A0 B y (suT T e w m L) Q) : rw_ k mX12_unpack 230 [.ref y, x1, x2, x3, x4] [] (mkh n u sh F R A B) Q := by
  have e53 := hg.1
  unfold suT at hQ
  by_cases c : e = 0
  · subst c
    rw [if_pos rfl] at hQ
    simp only [rX12_unpack_230, rX12_unpack_231, rX12_unpack_232, rX12_unpack_235, rX12_unpack_238, rX12_unpack_239, rX12_unpack_242, rX12_unpack_253, rX12_unpack_254, rX12_unpack_255, rX12_unpack_258, rX12_unpack_261, rX12_unpack_262, hM.1, he, e53, up2_eq, va_rf, eq_self, or_true, true_or, Option.toList_some, Option.toList_none, List.cons_append, List.nil_append, if_true, if_false, up2_k, ne_eq, not_false_eq_true, Nat.reduceEqDiff, reduceCtorEq]
    refine l_uOut (k := k) (F := up2 (up2 F 1251 y (nI 0)) 1204 y (nI m)) (A := A) hM (by rw [up2_k (by decide), up2_k (by decide)]; exact e53) hm ?_ m 0 A (Nat.zero_add _) (fun _ _ => rfl) (fun j hj => absurd hj (Nat.not_lt_zero _))
    intro A' f1 f2
    have cF : ∀ q a, ¬ ((q = 1204 ∨ q = 1251) ∧ a = y) → up2 (up2 F 1251 y (nI 0)) 1204 y (nI m) q a = F q a := fun q a g => by rw [up2_o (by omega), up2_o (by omega)]
    refine hQ _ _ (MS_unp h0 hT (fun q hq => by rw [cF q y (by omega), hfr.1 q y (by omega)]) (fun k k1 k2 k3 => by rw [f1 _ (by omega), hfr.2 _ (by omega) (by omega)]) (by rw [cF _ _ (by omega)]; exact h02) up2_eq (fun j hj => by rw [f2 j hj]; exact hg.2 j hj) (by rw [up2_k (by decide), up2_eq])) ⟨fun q a g => by rw [cF q a (by omega), hfr.1 q a (by omega)], fun a g => by rw [f1 _ (by omega), hfr.2 _ (by omega) (by omega)]⟩
  · rw [if_neg c] at hQ
    have g1 : ¬ nI e = nI 0 := nI_ne0 (by omega) (by omega)
    have e50 := hw c
    simp only [rX12_unpack_230, rX12_unpack_231, rX12_unpack_232, rX12_unpack_235, rX12_unpack_238, rX12_unpack_239, rX12_unpack_242, rX12_unpack_245, rX12_unpack_247, rX12_unpack_248, rX12_unpack_251, rX12_unpack_252, hM.1, he, e50, g1, up2_eq, va_rf, eq_self, or_true, true_or, Option.toList_some, Option.toList_none, List.cons_append, List.nil_append, if_true, if_false, up2_k, ne_eq, not_false_eq_true, Nat.reduceEqDiff, reduceCtorEq]
    have cF : ∀ q a, ¬ (q = 1251 ∧ a = y) → up2 F 1251 y (nI e) q a = F q a := fun q a g => up2_o g
    refine hQ _ _ (MS_unp h0 hT (fun q hq => by rw [cF q y (by omega), hfr.1 q y (by omega)]) (fun k k1 k2 k3 => hfr.2 _ (by omega) (by omega)) (by rw [cF _ _ (by omega)]; exact h02) (by rw [cF _ _ (by omega), hfr.1 _ _ (by omega)]; exact h0.1.2.1) (fun j hj => by rw [hfr.2 _ (by omega) (by omega)]; exact h0.1.2.2 j hj) up2_eq) ⟨fun q a g => by rw [cF q a (by omega), hfr.1 q a (by omega)], fun a g => hfr.2 _ (by omega) (by omega)⟩
theorem l_uEnd {S : rss} (hM : isM sh R y) (h0 : MS F0 A0 y T) (hT : okT T) (hfr : frU12 y F0 A0 F A) (h02 : F 1202 y = nI 0) (hb : mBi F A y N b) (h : mRd F y S.1) (hg : mGt F A y S.2.1 S.2.2) (hok : okR S.1 N) (hm : S.2.1 ≤ 120)
    (hQ : mPost n u sh F0 R A0 B y (suT T (finS b N S).1.2.1 (finS b N S).1.2.2 (finS b N S).2.1 (finS b N S).2.2) Q) : rw_ (k + 1) mX12_unpack 148 [.ref y, x1, x2, x3, x4] [] (mkh n u sh F R A B) Q := by
  have e49 := h.1
  have h7 := hok.1
  have hN := hok.2.1
  have hb2 := hb.2.1
  unfold finS at hQ
  by_cases c : S.1.2.1 = 0
  · rw [if_pos c] at hQ
    dsimp only at hQ
    rw [c] at e49
    have e48 := h.2.1 c
    have e47 := hb.1
    obtain ⟨z1, z2⟩ := rfS_cl (b := b) c hN
    have fin : ∀ x4, rw_ (k + 1) mX12_unpack 216 [.ref y, x1, x2, .int (if (decide (N - S.1.1 < 8) && allz b S.1.1 (N - S.1.1)) = true then nI 1 else nI 0), x4] [] (mkh n u sh F R A B) Q := by
      intro x4
      cases hcl : (decide (N - S.1.1 < 8) && allz b S.1.1 (N - S.1.1)) with
      | true =>
        have z3 := z1 hcl
        have g1 : ¬ nI 1 = nI 0 := by decide
        simp only [rX12_unpack_216, rX12_unpack_217, g1, up2_eq, va_rf, eq_self, or_true, true_or, Option.toList_some, Option.toList_none, List.cons_append, List.nil_append, if_true, if_false]
        exact l_u230 (k := k + 1) hM h0 hT hfr h02 (by rw [e49, z3]) (by omega) (fun e => absurd z3 e) hg hm hQ
      | false =>
        obtain ⟨z3, z4⟩ := z2 hcl
        simp only [Bool.false_eq_true, rX12_unpack_216, rX12_unpack_217, rX12_unpack_220, rX12_unpack_221, rX12_unpack_223, rX12_unpack_224, hM.1, e48, up2_eq, va_rf, eq_self, or_true, true_or, Option.toList_some, Option.toList_none, List.cons_append, List.nil_append, if_true, if_false]
        rw [rX12_unpack_227 hM.1]
        refine k_wrong hM h h7 (by decide) ?_
        intro F2 q1 q2
        simp only [up2_eq, va_rf, eq_self, or_true, true_or, Option.toList_some, Option.toList_none, List.cons_append, List.nil_append, if_true, if_false]
        obtain ⟨w1, w2⟩ := rdN_f12 (code := 6) (wh := S.1.1) c
        exact l_u230 (k := k + 1) hM h0 hT (frU_G hfr (frR_G q1)) (by rw [q1 _ _ (by omega)]; exact h02) (by rw [q2.1, w1, z3]) (by omega) (fun e => by rw [q2.2.2 (by rw [w1]; decide), w2, z4]) (mGt_R hg q1) hm hQ
    have lf := l_uFill (k := k + 1) (n := n) (u := u) (B := B) (Q := Q) (x1 := x1) (x2 := x2) (a0 := decide (N - S.1.1 < 8)) hM hb hN fin (N - S.1.1) 0 (Nat.zero_add _)
    rw [show allz b S.1.1 0 = true from rfl, Bool.and_true, Nat.add_zero] at lf
    by_cases c1 : N - S.1.1 < 8
    · have g1 : ¬ nI 8 ≤ nI (N - S.1.1) := nI_ge c1 (by omega)
      rw [decide_eq_true c1] at lf
      simp only [up2_eq, va_rf, eq_self, or_true, true_or, Option.toList_some, Option.toList_none, List.cons_append, List.nil_append, if_true, if_false] at lf
      simp only [rX12_unpack_148, rX12_unpack_149, rX12_unpack_152, rX12_unpack_155, rX12_unpack_156, rX12_unpack_159, rX12_unpack_160, rX12_unpack_163, rX12_unpack_164, rX12_unpack_166, rX12_unpack_169, rX12_unpack_170, rX12_unpack_174, rX12_unpack_175, rX12_unpack_176, rX12_unpack_179, hM.1, e49, e48, e47, pk_sub hN, g1, up2_eq, va_rf, eq_self, or_true, true_or, Option.toList_some, Option.toList_none, List.cons_append, List.nil_append, if_true, if_false]
      exact lf
    · have g1 : nI 8 ≤ nI (N - S.1.1) := nI_le (by omega) (by omega)
      rw [decide_eq_false c1] at lf
      simp only [Bool.false_eq_true, up2_eq, va_rf, eq_self, or_true, true_or, Option.toList_some, Option.toList_none, List.cons_append, List.nil_append, if_true, if_false] at lf
      simp only [rX12_unpack_148, rX12_unpack_149, rX12_unpack_152, rX12_unpack_155, rX12_unpack_156, rX12_unpack_159, rX12_unpack_160, rX12_unpack_163, rX12_unpack_164, rX12_unpack_166, rX12_unpack_173, rX12_unpack_174, rX12_unpack_175, rX12_unpack_176, rX12_unpack_179, hM.1, e49, e48, e47, pk_sub hN, g1, up2_eq, va_rf, eq_self, or_true, true_or, Option.toList_some, Option.toList_none, List.cons_append, List.nil_append, if_true, if_false]
      exact lf
  · rw [if_neg c] at hQ
    have g1 : ¬ nI S.1.2.1 = nI 0 := nI_ne0 (by omega) (by omega)
    simp only [rX12_unpack_148, rX12_unpack_149, rX12_unpack_152, hM.1, e49, g1, up2_eq, va_rf, eq_self, or_true, true_or, Option.toList_some, Option.toList_none, List.cons_append, List.nil_append, if_true, if_false]
    exact l_u230 (k := k + 1) hM h0 hT hfr h02 h.1 h7 (fun e => h.2.2 e) hg hm hQ
theorem l_u124f {S : rss} (hM : isM sh R y) (h0 : MS F0 A0 y T) (hT : okT T) (hfr : frU12 y F0 A0 F A) (h02 : F 1202 y = nI 0) (hb : mBi F A y N b) (h : mRd F y S.1) (hg : mGt F A y S.2.1 S.2.2) (hok : okR S.1 N) (hm : S.2.1 ≤ 120) (hf : ¬ S.1.2.1 = 0)
    (hQ : mPost n u sh F0 R A0 B y (suT T S.1.2.1 S.1.2.2 S.2.1 S.2.2) Q) : rw_ (k + 1) mX12_unpack 124 [.ref y, x1, x2, x3, x4] [] (mkh n u sh F R A B) Q := by
  have e49 := h.1
  have h7 := hok.1
  have g1 : ¬ nI S.1.2.1 = nI 0 := nI_ne0 (by omega) (by omega)
  simp only [rX12_unpack_124, rX12_unpack_125, rX12_unpack_128, hM.1, e49, g1, up2_eq, va_rf, eq_self, or_true, true_or, Option.toList_some, Option.toList_none, List.cons_append, List.nil_append, if_true, if_false]
  refine l_uEnd hM h0 hT hfr h02 hb h hg hok hm ?_
  unfold finS
  rw [if_neg hf]
  exact hQ
theorem rpL_st {S : rss} (h : ¬ (S.1.2.1 = 0 ∧ S.2.1 < zs)) : ∀ d, rpL b N zs s c E f rk d S = S
  | 0 => rfl
  | d + 1 => by unfold rpL; rw [if_neg h]
theorem l_uParts (hM : isM sh R y) (h0 : MS F0 A0 y T) (hT : okT T) (hz : zs ≤ 120) (hB : mBo A0 y bi c s E f rk) (hE : okE E c s) (hc : c ≤ 20) (hs : s ≤ 320) (hne : rk = true → ∀ q, q < c → 0 < E q - pst E q) (hf : ∀ j, j < s → f j < 256) :
    ∀ d S F A, frU12 y F0 A0 F A → F 1202 y = nI 0 → mBi F A y N b → mRd F y S.1 → mGt F A y S.2.1 S.2.2 → okS S N zs → (S.1.2.1 = 0 → zs ≤ S.2.1 + d) →
    mPost n u sh F0 R A0 B y (suT T (finS b N (rpL b N zs s c E f rk d S)).1.2.1 (finS b N (rpL b N zs s c E f rk d S)).1.2.2 (finS b N (rpL b N zs s c E f rk d S)).2.1 (finS b N (rpL b N zs s c E f rk d S)).2.2) Q →
    rw_ (k + 5) mX12_unpack 124 [.ref y, .int bi, .int (nI zs), x3, x4] [] (mkh n u sh F R A B) Q := by
  intro d
  induction d with
  | zero =>
    intro S F A hfr h02 hb h hg hok hd hQ
    have hm := hok.2.1
    by_cases c0 : S.1.2.1 = 0
    · have e49 := h.1
      rw [c0] at e49
      have e53 := hg.1
      have g1 : nI zs ≤ nI S.2.1 := nI_le (by have := hd c0; omega) (by omega)
      simp only [rX12_unpack_124, rX12_unpack_125, rX12_unpack_128, rX12_unpack_131, rX12_unpack_132, rX12_unpack_135, rX12_unpack_136, hM.1, e49, e53, g1, up2_eq, va_rf, eq_self, or_true, true_or, Option.toList_some, Option.toList_none, List.cons_append, List.nil_append, if_true, if_false]
      exact l_uEnd (k := k + 4) hM h0 hT hfr h02 hb h hg hok.1 (by omega) hQ
    · refine l_u124f (k := k + 4) hM h0 hT hfr h02 hb h hg hok.1 (by omega) c0 ?_
      unfold finS rpL at hQ
      rw [if_neg c0] at hQ
      exact hQ
  | succ d ih =>
    intro S F A hfr h02 hb h hg hok hd hQ
    have hm := hok.2.1
    by_cases c0 : S.1.2.1 = 0
    · have e49 := h.1
      rw [c0] at e49
      have e53 := hg.1
      by_cases c1 : S.2.1 < zs
      · have g1 : ¬ nI zs ≤ nI S.2.1 := nI_ge c1 (by omega)
        simp only [rX12_unpack_124, rX12_unpack_125, rX12_unpack_128, rX12_unpack_131, rX12_unpack_132, rX12_unpack_135, rX12_unpack_136, rX12_unpack_139, rX12_unpack_140, rX12_unpack_141, hM.1, e49, e53, g1, up2_eq, va_rf, eq_self, or_true, true_or, Option.toList_some, Option.toList_none, List.cons_append, List.nil_append, if_true, if_false]
        rw [rX12_unpack_142 hM.1]
        refine k_readPart12 (k := k) hM hb h hok.1 c0 hg hm hz (mBo_cong hB (fun a x1 x2 => hfr.2 a (by omega) (by omega))) hE hc hs ?_
        intro F2 A2 q1 q2 q3
        simp only [rX12_unpack_145, up2_eq, va_rf, eq_self, or_true, true_or, Option.toList_some, Option.toList_none, List.cons_append, List.nil_append, if_true, if_false]
        unfold rpL at hQ
        rw [if_pos ⟨c0, c1⟩] at hQ
        refine ih _ F2 A2 (frU_G hfr q1) (by rw [q1.1 _ _ (by omega)]; exact h02) (mBi_G hb q1) q2 q3 (okS_rpP hb.2.2.1 hE hf hok) (fun e => ?_) hQ
        have := rpP_pr hb.2.2.1 hne e
        have := hd c0
        omega
      · have g1 : nI zs ≤ nI S.2.1 := nI_le (by omega) (by omega)
        rw [rpL_st (fun x => c1 x.2)] at hQ
        simp only [rX12_unpack_124, rX12_unpack_125, rX12_unpack_128, rX12_unpack_131, rX12_unpack_132, rX12_unpack_135, rX12_unpack_136, hM.1, e49, e53, g1, up2_eq, va_rf, eq_self, or_true, true_or, Option.toList_some, Option.toList_none, List.cons_append, List.nil_append, if_true, if_false]
        exact l_uEnd (k := k + 4) hM h0 hT hfr h02 hb h hg hok.1 (by omega) hQ
    · refine l_u124f (k := k + 4) hM h0 hT hfr h02 hb h hg hok.1 (by omega) c0 ?_
      rw [rpL_st (fun x => c0 x.1)] at hQ
      unfold finS at hQ
      rw [if_neg c0] at hQ
      exact hQ
theorem l_uTape {ss : Nat} {bl : Nat → Nat} (hM : isM sh R y) (h02 : F 1202 y = nI ss) (hss : ss ≤ 240) (hl : ∀ j, j < ss → A (y + 1) j = nI (bl j) ∧ bl j < 256)
    (hQ : ∀ F' A' x1, frW12 y F A F' A' → isW12 F' A' y (pbS ((fun _ => false), 0) bl 0 ss) → rw_ (k + 1) mX12_unpack 38 [.ref y, x1, x2, x3, x4] [] (mkh n u sh F' R A' B) Q) :
    ∀ d q F1 A1, q + d = ss → frW12 y F A F1 A1 → isW12 F1 A1 y (pbS ((fun _ => false), 0) bl 0 q) → rw_ (k + 1) mX12_unpack 12 [.ref y, .int (nI q), x2, x3, x4] [] (mkh n u sh F1 R A1 B) Q := by
  have r1 := hM.r 1201 1 0 240 (by decide)
  have s1 := hM.s 1201 1 0 240 (by decide)
  intro d
  induction d with
  | zero =>
    intro q F1 A1 hq f1 f2
    have e : q = ss := by omega
    subst e
    have e02 : F1 1202 y = nI q := by rw [f1.1 _ _ (by omega)]; exact h02
    have g1 : nI q ≤ nI q := nI_le (Nat.le_refl _) (by omega)
    simp only [rX12_unpack_12, rX12_unpack_13, rX12_unpack_14, rX12_unpack_17, hM.1, e02, g1, up2_eq, va_rf, eq_self, or_true, true_or, Option.toList_some, Option.toList_none, List.cons_append, List.nil_append, if_true, if_false]
    exact hQ F1 A1 _ f1 f2
  | succ d ih =>
    intro q F1 A1 hq f1 f2
    have e02 : F1 1202 y = nI ss := by rw [f1.1 _ _ (by omega)]; exact h02
    have g1 : ¬ nI ss ≤ nI q := nI_ge (by omega) (by omega)
    obtain ⟨l1, l2⟩ := hl q (by omega)
    simp only [rX12_unpack_12, rX12_unpack_13, rX12_unpack_14, rX12_unpack_17, rX12_unpack_20, rX12_unpack_21, rX12_unpack_22, rX12_unpack_25, hM.1, e02, g1, r1, up2_eq, va_rf, eq_self, or_true, true_or, Option.toList_some, Option.toList_none, List.cons_append, List.nil_append, if_true, if_false]
    rw [rX12_unpack_26 s1 (by decide) (by omega) (by omega), f1.2 _ (by omega), l1]
    simp only [rX12_unpack_27, up2_eq, va_rf, eq_self, or_true, true_or, Option.toList_some, Option.toList_none, List.cons_append, List.nil_append, if_true, if_false]
    rw [rX12_unpack_29 hM.1]
    have e2 := pbS_2 (st := ((fun _ => false), 0)) (bl := bl) (p := 0) q
    dsimp only at e2
    refine k_write12 hM f2 (by omega) (by omega) (by omega) ?_
    intro F2 A2 f3 f4
    simp only [rX12_unpack_32, rX12_unpack_35, nI_add, up2_eq, va_rf, eq_self, or_true, true_or, Option.toList_some, Option.toList_none, List.cons_append, List.nil_append, if_true, if_false]
    refine ih (q + 1) F2 A2 (by omega) (frW12_trans f1 f3) ?_
    show isW12 F2 A2 y (wS (pbS ((fun _ => false), 0) bl 0 q) (bl (0 + q)) 8)
    rw [Nat.zero_add]
    exact f4
end MU2
