/-! ===== the reference: a part read ===== -/
section MR3
variable {k n u : Nat} {sh : hs_} {F F' : hF_} {R : hR_} {A A' : hF_} {B : hR_} {Q : Option Value → pm_H → Prop} {y N : Nat} {b : Nat → Nat} {st : rst} {m zs c s : Nat} {L E f : Nat → Nat} {bi : Int32} {rk : Bool}
theorem l_rpBad {first : Nat} {x1 x2 x4 x5 x6 x7 x8 : Value} (hM : isM sh R y) (h : mRd F y st) (h0 : st.2.1 = 0)
    (hQ : ∀ F', frR12 y F F' → mRd F' y (rdN st 5 first) → Q none (mkh n u sh F' R A B)) : rw_ (k + 1) mX12_readPart 274 [.ref y, x1, x2, .int (nI first), x4, x5, x6, x7, x8] [] (mkh n u sh F R A B) Q := by
  simp only [rX12_readPart_274, rX12_readPart_275, rX12_readPart_277, rX12_readPart_279, rX12_readPart_282, rX12_readPart_283, rX12_readPart_284, up2_eq, va_rf, eq_self, or_true, true_or, Option.toList_some, Option.toList_none, List.cons_append, List.nil_append, if_true, if_false]
  rw [rX12_readPart_285 hM.1]
  refine k_wrong hM h (by omega) (by decide) ?_
  intro F' q1 q2
  simp only [rX12_readPart_288, rX12_readPart_330, up2_eq, va_rf, eq_self, or_true, true_or, Option.toList_some, Option.toList_none, List.cons_append, List.nil_append, if_true, if_false]
  exact hQ F' q1 q2
theorem l_rp101 {kp : Nat} {v3 : Int32} {x1 x2 x3 x5 x6 x7 x8 : Value} (hM : isM sh R y) (hb : mBi F A y N b) (h : mRd F y st) (hok : okR st N) (hk : kp < 4)
    (hQ1 : ∀ F', frR12 y F F' → mRd F' y (rgS b N st) → ¬ (rgS b N st).2.1 = 0 → Q none (mkh n u sh F' R A B))
    (hQ2 : ∀ F', frR12 y F F' → mRd F' y (rgS b N st) → (rgS b N st).2.1 = 0 → rw_ (k + 3) mX12_readPart 119 [.ref y, x1, x2, x3, .int (nI kp), .int v3, .int (nI (rgV b N st + 2)), x7, x8] [] (mkh n u sh F' R A B) Q) :
    rw_ (k + 3) mX12_readPart 101 [.ref y, x1, x2, x3, .int (nI kp), x5, x6, x7, x8] [.int v3] (mkh n u sh F R A B) Q := by
  simp only [rX12_readPart_101, rX12_readPart_103, up2_eq, va_rf, eq_self, or_true, true_or, Option.toList_some, Option.toList_none, List.cons_append, List.nil_append, if_true, if_false]
  rw [rX12_readPart_104 hM.1]
  refine k_readG12 hM hb h hok ?_
  intro F2 v q1 q2 q3 q4
  have okG := okR_gS (b := b) hok
  have h7 := okG.1
  have e49 := q2.1
  by_cases c0 : (rgS b N st).2.1 = 0
  · rw [c0] at e49
    have hv := q3 c0
    subst hv
    simp only [rX12_readPart_107, rX12_readPart_108, rX12_readPart_109, rX12_readPart_111, rX12_readPart_112, rX12_readPart_115, hM.1, e49, nI_add, up2_eq, va_rf, eq_self, or_true, true_or, Option.toList_some, Option.toList_none, List.cons_append, List.nil_append, if_true, if_false]
    exact hQ2 F2 q1 q2 c0
  · have g2 : ¬ nI (rgS b N st).2.1 = nI 0 := nI_ne0 (by omega) (by omega)
    simp only [rX12_readPart_107, rX12_readPart_108, rX12_readPart_109, rX12_readPart_111, rX12_readPart_112, rX12_readPart_115, rX12_readPart_118, hM.1, e49, g2, up2_eq, va_rf, eq_self, or_true, true_or, Option.toList_some, Option.toList_none, List.cons_append, List.nil_append, if_true, if_false]
    exact hQ1 F2 q1 q2 c0
theorem rgS_fl (h : ¬ st.2.1 = 0) : rgS b N st = st := by
  have hx : rdX st 1 N = true := by unfold rdX; simp [h]
  unfold rgS rgL
  rw [if_pos hx]
  exact rdB_fl h
theorem l_rpT {first p : Nat} {v3 : Int32} {x5 x6 x7 x8 : Value} (hM : isM sh R y) (hb : mBi F A y N b) (h : mRd F y st) (hok : okR st N) (hg : mGt F A y m L) (hm : m ≤ zs) (hz : zs ≤ 120) (hB : mBo A y bi c s E f rk) (hE : okE E c s) (hc : c ≤ 20) (hs : s ≤ 320) (hv : st.2.1 = 0 → v3 = nI p) (hp : p < 2 ^ 20)
    (hQ1 : ∀ F', frR12 y F F' → mRd F' y (rgS b N st) → ¬ (rgS b N st).2.1 = 0 → Q none (mkh n u sh F' R A B))
    (hQ2 : ∀ F', frR12 y F F' → mRd F' y (rdN (rgS b N st) 5 first) → (rgS b N st).2.1 = 0 → (ear E p c 0 < p + (rgV b N st + 2) ∨ zs - m < rgV b N st + 2) → Q none (mkh n u sh F' R A B))
    (hQ3 : ∀ F' A', frG12 y F A F' A' → mRd F' y (rgS b N st) → (rgS b N st).2.1 = 0 → ¬ (ear E p c 0 < p + (rgV b N st + 2) ∨ zs - m < rgV b N st + 2) → mGt F' A' y (m + (rgV b N st + 2)) (lcp L f m p) → Q none (mkh n u sh F' R A' B)) :
    rw_ (k + 3) mX12_readPart 101 [.ref y, .int bi, .int (nI zs), .int (nI first), .int (nI 1), x5, x6, x7, x8] [.int v3] (mkh n u sh F R A B) Q := by
  refine l_rp101 hM hb h hok (by decide) hQ1 ?_
  intro F2 q1 q2 c0
  obtain ⟨w1, w2, -⟩ := rgV_ok hb.2.2.1 c0
  have h0 : st.2.1 = 0 := by
    by_cases e : st.2.1 = 0
    · exact e
    · rw [rgS_fl e] at c0; exact absurd c0 e
  have hv := hv h0
  subst hv
  have hg2 := mGt_R hg q1
  have e53 := hg2.1
  have g3 : ¬ nI 1 = nI 3 := by decide
  simp only [rX12_readPart_119, rX12_readPart_121, rX12_readPart_122, rX12_readPart_208, rX12_readPart_209, rX12_readPart_212, rX12_readPart_214, rX12_readPart_215, hM.1, g3, e53, nI_add, up2_eq, va_rf, eq_self, or_true, true_or, Option.toList_some, Option.toList_none, List.cons_append, List.nil_append, if_true, if_false]
  have bad := fun x7 (hx : ear E p c 0 < p + (rgV b N st + 2) ∨ zs - m < rgV b N st + 2) => l_rpBad (k := k + 2) (n := n) (u := u) (A := A) (B := B) (Q := Q) (first := first) (x1 := .int bi) (x2 := .int (nI zs)) (x4 := .int (nI 1)) (x5 := .int (nI p)) (x6 := .int (nI (rgV b N st + 2))) (x7 := x7) (x8 := x8) hM q2 c0 (fun F' p1 p2 => hQ2 F' (frR12_trans q1 p1) p2 c0 hx)
  by_cases c1 : zs - m < rgV b N st + 2
  · have g1 : nI zs < nI (m + (rgV b N st + 2)) := nI_lt (by omega) (by omega)
    simp only [rX12_readPart_216, g1, up2_eq, va_rf, eq_self, or_true, true_or, Option.toList_some, Option.toList_none, List.cons_append, List.nil_append, if_true, if_false]
    exact bad _ (Or.inr c1)
  · have g1 : ¬ nI zs < nI (m + (rgV b N st + 2)) := nI_nlt (by omega) (by omega)
    simp only [rX12_readPart_216, rX12_readPart_219, rX12_readPart_221, rX12_readPart_222, rX12_readPart_225, rX12_readPart_227, rX12_readPart_228, g1, up2_eq, va_rf, eq_self, or_true, true_or, Option.toList_some, Option.toList_none, List.cons_append, List.nil_append, if_true, if_false]
    rw [rX12_readPart_229 hM.1, k_rowLongO hM hB hE hc]
    by_cases c2 : s ≤ p
    · have g2 : nI s ≤ nI p := nI_le c2 (by omega)
      have hle := ear_le hE (p := p) c 0 (by omega)
      simp only [rX12_readPart_232, g2, up2_eq, va_rf, eq_self, or_true, true_or, Option.toList_some, Option.toList_none, List.cons_append, List.nil_append, if_true, if_false]
      exact bad _ (Or.inl (by omega))
    · have g2 : ¬ nI s ≤ nI p := nI_ge (by omega) (by omega)
      obtain ⟨p1, p2, p3, p4⟩ := pat_at hE (p := p) (by omega)
      simp only [rX12_readPart_232, rX12_readPart_235, rX12_readPart_237, rX12_readPart_239, rX12_readPart_240, rX12_readPart_241, rX12_readPart_242, rX12_readPart_243, rX12_readPart_244, g2, nI_add, up2_eq, va_rf, eq_self, or_true, true_or, Option.toList_some, Option.toList_none, List.cons_append, List.nil_append, if_true, if_false]
      rcases hB with ⟨-, -, e, -⟩ | ⟨b', kd, b1, rfl, b3, -⟩
      · omega
      · rw [rX12_readPart_246 hM.1, k_pieceAt12 hM b1 b3 hE (by omega) hc (by omega)]
        simp only [up2_eq, va_rf, eq_self, or_true, true_or, Option.toList_some, Option.toList_none, List.cons_append, List.nil_append, if_true, if_false]
        rw [rX12_readPart_249 hM.1, k_end12 hM b1 b3 hc p1, p2]
        by_cases c3 : ear E p c 0 < p + (rgV b N st + 2)
        · have g4 : nI (ear E p c 0) < nI (p + (rgV b N st + 2)) := nI_lt c3 (by omega)
          simp only [rX12_readPart_252, g4, up2_eq, va_rf, eq_self, or_true, true_or, Option.toList_some, Option.toList_none, List.cons_append, List.nil_append, if_true, if_false]
          exact bad _ (Or.inl c3)
        · have g4 : ¬ nI (ear E p c 0) < nI (p + (rgV b N st + 2)) := nI_nlt (by omega) (by omega)
          have g5 : ¬ nI 1 = nI 0 := by decide
          have r6 := hM.r 1209 6 0 104000 (by decide)
          have s6 := hM.s 1209 6 0 104000 (by decide)
          simp only [rX12_readPart_252, rX12_readPart_255, rX12_readPart_270, rX12_readPart_271, rX12_readPart_275, rX12_readPart_277, rX12_readPart_279, rX12_readPart_282, rX12_readPart_283, rX12_readPart_284, rX12_readPart_285, rX12_readPart_288, rX12_readPart_291, rX12_readPart_293, rX12_readPart_294, rX12_readPart_297, rX12_readPart_298, rX12_readPart_299, rX12_readPart_302, rX12_readPart_305, rX12_readPart_306, rX12_readPart_307, rX12_readPart_309, rX12_readPart_310, hM.1, g4, g5, r6, pk_mul, nI_add, up2_eq, va_rf, eq_self, or_true, true_or, Option.toList_some, Option.toList_none, List.cons_append, List.nil_append, if_true, if_false]
          rw [rX12_readPart_312 hM.1]
          refine k_getFrom (g := fun j => f (p + j)) hM q2 hg2 s6 (by omega) (by omega) (Or.inl (by omega)) (by omega) (fun j hj => by rw [show 4000 * b' + p + j = 4000 * b' + (p + j) by omega]; exact b3.2.2 _ (by omega)) ?_
          intro F3 A3 t1 t2 t3
          simp only [rX12_readPart_315, rX12_readPart_330, up2_eq, va_rf, eq_self, or_true, true_or, Option.toList_some, Option.toList_none, List.cons_append, List.nil_append, if_true, if_false]
          exact hQ3 F3 A3 (frG12_trans (frR_G q1) t1) t2 c0 (by omega) t3
theorem l_rpF {first p : Nat} {v3 : Int32} {x1 x5 x6 x7 x8 : Value} (hM : isM sh R y) (hb : mBi F A y N b) (h : mRd F y st) (hok : okR st N) (hg : mGt F A y m L) (hm : m ≤ zs) (hz : zs ≤ 120) (hv : st.2.1 = 0 → v3 = nI p) (hp : p < 2 ^ 20)
    (hQ1 : ∀ F', frR12 y F F' → mRd F' y (rgS b N st) → ¬ (rgS b N st).2.1 = 0 → Q none (mkh n u sh F' R A B))
    (hQ2 : ∀ F', frR12 y F F' → mRd F' y (rdN (rgS b N st) 5 first) → (rgS b N st).2.1 = 0 → (m < p + (rgV b N st + 2) ∨ zs - m < rgV b N st + 2) → Q none (mkh n u sh F' R A B))
    (hQ3 : ∀ F' A', frG12 y F A F' A' → mRd F' y (rgS b N st) → (rgS b N st).2.1 = 0 → ¬ (m < p + (rgV b N st + 2) ∨ zs - m < rgV b N st + 2) → mGt F' A' y (m + (rgV b N st + 2)) (lcp L L m p) → Q none (mkh n u sh F' R A' B)) :
    rw_ (k + 3) mX12_readPart 101 [.ref y, x1, .int (nI zs), .int (nI first), .int (nI 2), x5, x6, x7, x8] [.int v3] (mkh n u sh F R A B) Q := by
  refine l_rp101 hM hb h hok (by decide) hQ1 ?_
  intro F2 q1 q2 c0
  obtain ⟨w1, w2, -⟩ := rgV_ok hb.2.2.1 c0
  have h0 : st.2.1 = 0 := by
    by_cases e : st.2.1 = 0
    · exact e
    · rw [rgS_fl e] at c0; exact absurd c0 e
  have hv := hv h0
  subst hv
  have hg2 := mGt_R hg q1
  have e53 := hg2.1
  have g3 : ¬ nI 2 = nI 3 := by decide
  have g5 : ¬ nI 2 = nI 1 := by decide
  simp only [rX12_readPart_119, rX12_readPart_121, rX12_readPart_122, rX12_readPart_208, rX12_readPart_209, rX12_readPart_212, rX12_readPart_214, rX12_readPart_215, hM.1, g3, e53, nI_add, up2_eq, va_rf, eq_self, or_true, true_or, Option.toList_some, Option.toList_none, List.cons_append, List.nil_append, if_true, if_false]
  have bad := fun x7 (hx : m < p + (rgV b N st + 2) ∨ zs - m < rgV b N st + 2) => l_rpBad (k := k + 2) (n := n) (u := u) (A := A) (B := B) (Q := Q) (first := first) (x1 := x1) (x2 := .int (nI zs)) (x4 := .int (nI 2)) (x5 := .int (nI p)) (x6 := .int (nI (rgV b N st + 2))) (x7 := x7) (x8 := x8) hM q2 c0 (fun F' p1 p2 => hQ2 F' (frR12_trans q1 p1) p2 c0 hx)
  by_cases c1 : zs - m < rgV b N st + 2
  · have g1 : nI zs < nI (m + (rgV b N st + 2)) := nI_lt (by omega) (by omega)
    simp only [rX12_readPart_216, g1, up2_eq, va_rf, eq_self, or_true, true_or, Option.toList_some, Option.toList_none, List.cons_append, List.nil_append, if_true, if_false]
    exact bad _ (Or.inr c1)
  · have g1 : ¬ nI zs < nI (m + (rgV b N st + 2)) := nI_nlt (by omega) (by omega)
    by_cases c3 : m < p + (rgV b N st + 2)
    · have g4 : nI m < nI (p + (rgV b N st + 2)) := nI_lt c3 (by omega)
      simp only [rX12_readPart_216, rX12_readPart_219, rX12_readPart_221, rX12_readPart_222, rX12_readPart_258, rX12_readPart_260, rX12_readPart_262, rX12_readPart_263, rX12_readPart_264, rX12_readPart_267, hM.1, g1, g4, g5, e53, nI_add, up2_eq, va_rf, eq_self, or_true, true_or, Option.toList_some, Option.toList_none, List.cons_append, List.nil_append, if_true, if_false]
      exact bad _ (Or.inl c3)
    · have g4 : ¬ nI m < nI (p + (rgV b N st + 2)) := nI_nlt (by omega) (by omega)
      have g6 : ¬ nI 1 = nI 0 := by decide
      have r33 := hM.r 1252 33 0 120 (by decide)
      have s33 := hM.s 1252 33 0 120 (by decide)
      simp only [rX12_readPart_216, rX12_readPart_219, rX12_readPart_221, rX12_readPart_222, rX12_readPart_258, rX12_readPart_260, rX12_readPart_262, rX12_readPart_263, rX12_readPart_264, rX12_readPart_267, rX12_readPart_270, rX12_readPart_271, rX12_readPart_275, rX12_readPart_277, rX12_readPart_279, rX12_readPart_282, rX12_readPart_283, rX12_readPart_284, rX12_readPart_285, rX12_readPart_288, rX12_readPart_291, rX12_readPart_293, rX12_readPart_294, rX12_readPart_318, rX12_readPart_319, rX12_readPart_320, rX12_readPart_323, rX12_readPart_325, hM.1, g1, g4, g5, g6, e53, r33, nI_add, up2_eq, va_rf, eq_self, or_true, true_or, Option.toList_some, Option.toList_none, List.cons_append, List.nil_append, if_true, if_false]
      rw [rX12_readPart_327 hM.1]
      refine k_getFrom (g := fun j => L (p + j)) hM q2 hg2 s33 (by omega) (by omega) (Or.inr (by omega)) (by omega) (fun j hj => hg2.2 _ (by omega)) ?_
      intro F3 A3 t1 t2 t3
      simp only [rX12_readPart_330, up2_eq, va_rf, eq_self, or_true, true_or, Option.toList_some, Option.toList_none, List.cons_append, List.nil_append, if_true, if_false]
      exact hQ3 F3 A3 (frG12_trans (frR_G q1) t1) t2 c0 (by omega) t3
theorem l_rpW {first : Nat} {v3 : Int32} {x5 x6 x7 x8 : Value} (hM : isM sh R y) (hb : mBi F A y N b) (h : mRd F y st) (hok : okR st N) (hg : mGt F A y m L) (hm : m ≤ zs) (hz : zs ≤ 120) (hB : mBo A y bi c s E f true) (hE : okE E c s) (hc : c ≤ 20) (hs : s ≤ 320) (hfi : first ≤ N)
    (hQ1 : ∀ F', frR12 y F F' → mRd F' y (rgS b N st) → ¬ (rgS b N st).2.1 = 0 → Q none (mkh n u sh F' R A B))
    (hQ2 : ∀ F', frR12 y F F' → mRd F' y (rdN (rgS b N st) 5 first) → (rgS b N st).2.1 = 0 → (c ≤ rgV b N st - 1 ∨ zs - m < E (rgV b N st - 1) - pst E (rgV b N st - 1)) → Q none (mkh n u sh F' R A B))
    (hQ3 : ∀ F' A', frG12 y F A F' A' → mRd F' y (rgS b N st) → (rgS b N st).2.1 = 0 → ¬ (c ≤ rgV b N st - 1 ∨ zs - m < E (rgV b N st - 1) - pst E (rgV b N st - 1)) → mGt F' A' y (m + (E (rgV b N st - 1) - pst E (rgV b N st - 1))) (lcp L f m (pst E (rgV b N st - 1))) → Q none (mkh n u sh F' R A' B)) :
    rw_ (k + 3) mX12_readPart 101 [.ref y, .int bi, .int (nI zs), .int (nI first), .int (nI 3), x5, x6, x7, x8] [.int v3] (mkh n u sh F R A B) Q := by
  have r4 := hM.r 1207 4 0 26 (by decide)
  have s4 := hM.s 1207 4 0 26 (by decide)
  refine l_rp101 hM hb h hok (by decide) hQ1 ?_
  intro F2 q1 q2 c0
  obtain ⟨w1, w2, -⟩ := rgV_ok hb.2.2.1 c0
  have h7 : (rgS b N st).2.1 < 7 := by omega
  have hg2 := mGt_R hg q1
  have e53 := hg2.1
  rcases hB with ⟨-, -, -, e⟩ | ⟨b', kd, b1, rfl, b3, -⟩
  · cases e
  · have bad : ∀ x8, (c ≤ rgV b N st - 1 ∨ zs - m < E (rgV b N st - 1) - pst E (rgV b N st - 1)) → rw_ (k + 3) mX12_readPart 162 [.ref y, .int (nI b'), .int (nI zs), .int (nI first), .int (nI 3), .int v3, .int (nI (rgV b N st + 2)), .int (nI (rgV b N st - 1)), x8] [] (mkh n u sh F2 R A B) Q := by
      intro x8 hx
      simp only [rX12_readPart_162, rX12_readPart_163, rX12_readPart_165, rX12_readPart_167, rX12_readPart_201, rX12_readPart_202, rX12_readPart_203, up2_eq, va_rf, eq_self, or_true, true_or, Option.toList_some, Option.toList_none, List.cons_append, List.nil_append, if_true, if_false]
      rw [rX12_readPart_204 hM.1]
      refine k_wrong hM q2 h7 (by decide) ?_
      intro F3 t1 t2
      simp only [rX12_readPart_207, up2_eq, va_rf, eq_self, or_true, true_or, Option.toList_some, Option.toList_none, List.cons_append, List.nil_append, if_true, if_false]
      exact hQ2 F3 (frR12_trans q1 t1) t2 c0 hx
    have e3 : nI (rgV b N st + 2) - nI 3 = nI (rgV b N st - 1) := by rw [pk_sub (by omega), show rgV b N st + 2 - 3 = rgV b N st - 1 by omega]
    simp only [rX12_readPart_119, rX12_readPart_121, rX12_readPart_122, rX12_readPart_125, rX12_readPart_127, rX12_readPart_128, rX12_readPart_129, rX12_readPart_131, rX12_readPart_133, rX12_readPart_134, rX12_readPart_137, hM.1, e3, r4, up2_eq, va_rf, eq_self, or_true, true_or, Option.toList_some, Option.toList_none, List.cons_append, List.nil_append, if_true, if_false]
    rw [rX12_readPart_138 s4 (by decide) b1 (by omega), b3.1]
    by_cases c1 : c ≤ rgV b N st - 1
    · have g1 : nI c ≤ nI (rgV b N st - 1) := nI_le c1 (by omega)
      simp only [rX12_readPart_139, g1, up2_eq, va_rf, eq_self, or_true, true_or, Option.toList_some, Option.toList_none, List.cons_append, List.nil_append, if_true, if_false]
      exact bad _ (Or.inl c1)
    · have g1 : ¬ nI c ≤ nI (rgV b N st - 1) := nI_ge (by omega) (by omega)
      have hEq := hE.E_le (j := rgV b N st - 1) (by omega)
      have hst := hE.1 (rgV b N st - 1) (by omega)
      simp only [rX12_readPart_139, rX12_readPart_142, rX12_readPart_143, rX12_readPart_146, rX12_readPart_147, rX12_readPart_148, hM.1, g1, e53, up2_eq, va_rf, eq_self, or_true, true_or, Option.toList_some, Option.toList_none, List.cons_append, List.nil_append, if_true, if_false]
      rw [rX12_readPart_150 hM.1, k_pieceLong12 hM b1 b3 hE hc (by omega)]
      simp only [rX12_readPart_153, rX12_readPart_154, nI_add, up2_eq, va_rf, eq_self, or_true, true_or, Option.toList_some, Option.toList_none, List.cons_append, List.nil_append, if_true, if_false]
      by_cases c2 : zs - m < E (rgV b N st - 1) - pst E (rgV b N st - 1)
      · have g2 : nI zs < nI (m + (E (rgV b N st - 1) - pst E (rgV b N st - 1))) := nI_lt (by omega) (by omega)
        simp only [rX12_readPart_155, g2, up2_eq, va_rf, eq_self, or_true, true_or, Option.toList_some, Option.toList_none, List.cons_append, List.nil_append, if_true, if_false]
        exact bad _ (Or.inr c2)
      · have g2 : ¬ nI zs < nI (m + (E (rgV b N st - 1) - pst E (rgV b N st - 1))) := nI_nlt (by omega) (by omega)
        have g5 : ¬ nI 1 = nI 0 := by decide
        have r6 := hM.r 1209 6 0 104000 (by decide)
        have s6 := hM.s 1209 6 0 104000 (by decide)
        simp only [rX12_readPart_155, rX12_readPart_158, rX12_readPart_159, rX12_readPart_163, rX12_readPart_165, rX12_readPart_167, rX12_readPart_170, rX12_readPart_171, rX12_readPart_172, rX12_readPart_175, rX12_readPart_178, rX12_readPart_179, rX12_readPart_180, rX12_readPart_181, rX12_readPart_182, hM.1, g2, g5, r6, pk_mul, up2_eq, va_rf, eq_self, or_true, true_or, Option.toList_some, Option.toList_none, List.cons_append, List.nil_append, if_true, if_false]
        rw [rX12_readPart_184 hM.1, k_begin12 hM b1 b3 hc (by omega)]
        simp only [rX12_readPart_187, rX12_readPart_188, rX12_readPart_189, rX12_readPart_190, nI_add, up2_eq, va_rf, eq_self, or_true, true_or, Option.toList_some, Option.toList_none, List.cons_append, List.nil_append, if_true, if_false]
        rw [rX12_readPart_192 hM.1, k_pieceLong12 hM b1 b3 hE hc (by omega)]
        simp only [up2_eq, va_rf, eq_self, or_true, true_or, Option.toList_some, Option.toList_none, List.cons_append, List.nil_append, if_true, if_false]
        rw [rX12_readPart_195 hM.1]
        refine k_getFrom (g := fun j => f (pst E (rgV b N st - 1) + j)) hM q2 hg2 s6 (by omega) (by omega) (Or.inl (by omega)) (by omega) (fun j hj => by rw [show 4000 * b' + pst E (rgV b N st - 1) + j = 4000 * b' + (pst E (rgV b N st - 1) + j) by omega]; exact b3.2.2 _ (by omega)) ?_
        intro F3 A3 t1 t2 t3
        simp only [rX12_readPart_198, rX12_readPart_207, up2_eq, va_rf, eq_self, or_true, true_or, Option.toList_some, Option.toList_none, List.cons_append, List.nil_append, if_true, if_false]
        exact hQ3 F3 A3 (frG12_trans (frR_G q1) t1) t2 c0 (by omega) t3
theorem k_readPart12 (hM : isM sh R y) (hb : mBi F A y N b) (h : mRd F y st) (hok : okR st N) (h0 : st.2.1 = 0) (hg : mGt F A y m L) (hm : m ≤ zs) (hz : zs ≤ 120) (hB : mBo A y bi c s E f rk) (hE : okE E c s) (hc : c ≤ 20) (hs : s ≤ 320)
    (hQ : ∀ F' A', frG12 y F A F' A' → mRd F' y (rpP b N zs st m L s c E f rk).1 → mGt F' A' y (rpP b N zs st m L s c E f rk).2.1 (rpP b N zs st m L s c E f rk).2.2 → Q none (mkh n u sh F' R A' B)) :
    rc_ (k + 4) mX12_readPart [.ref y, .int bi, .int (nI zs)] (mkh n u sh F R A B) Q := by
  have e48 := h.2.1 h0
  rw [eX12_readPart]
  simp only [rX12_readPart_0, rX12_readPart_1, rX12_readPart_4, rX12_readPart_5, rX12_readPart_6, hM.1, e48, up2_eq, va_rf, eq_self, or_true, true_or, Option.toList_some, Option.toList_none, List.cons_append, List.nil_append, if_true, if_false]
  rw [rX12_readPart_7 hM.1]
  refine k_read12 hM hb h hok (by omega) ?_
  intro F2 v q1 q2 q3
  have okB1 := okR_B (nb := 2) hok
  have h7 := okB1.1
  have e49 := q2.1
  have hb2 := mBi_R hb q1
  have hg2 := mGt_R hg q1
  have hws := wd_le 9 s (by omega)
  have hwm := wd_le 9 m (by omega)
  unfold rpP at hQ
  by_cases c0 : (rdB st 2 N).2.1 = 0
  · rw [if_pos c0] at hQ
    rw [c0] at e49
    have hv := q3 c0
    have h4 : bv b st.1 2 < 4 := bv_lt hb.2.2.1 2
    subst hv
    by_cases k0 : bv b st.1 2 = 0
    · rw [if_pos k0] at hQ
      have e3 : nI (bv b st.1 2) = nI 0 := by rw [k0]
      have g1 : ¬ nI 0 = nI 3 := by decide
      simp only [rX12_readPart_10, rX12_readPart_12, rX12_readPart_13, rX12_readPart_16, rX12_readPart_19, rX12_readPart_21, rX12_readPart_22, rX12_readPart_39, rX12_readPart_40, rX12_readPart_43, rX12_readPart_46, rX12_readPart_47, rX12_readPart_49, rX12_readPart_52, rX12_readPart_53, rX12_readPart_54, hM.1, e49, e3, g1, up2_eq, va_rf, eq_self, or_true, true_or, Option.toList_some, Option.toList_none, List.cons_append, List.nil_append, if_true, if_false]
      rw [rX12_readPart_55 hM.1]
      refine k_readOwn12 (k := k) hM hb2 q2 okB1 hg2 hm hz hok.2.1 ?_
      intro F3 A3 t1 t2 t3
      simp only [rX12_readPart_58, up2_eq, va_rf, eq_self, or_true, true_or, Option.toList_some, Option.toList_none, List.cons_append, List.nil_append, if_true, if_false]
      exact hQ F3 A3 (frG12_trans (frR_G q1) t1) t2 t3
    · rw [if_neg k0] at hQ
      by_cases k1 : bv b st.1 2 = 1
      · rw [if_pos k1] at hQ
        have e3 : nI (bv b st.1 2) = nI 1 := by rw [k1]
        have g1 : ¬ nI 1 = nI 3 := by decide
        have g2 : ¬ nI 1 = nI 0 := by decide
        simp only [rX12_readPart_10, rX12_readPart_12, rX12_readPart_13, rX12_readPart_16, rX12_readPart_19, rX12_readPart_21, rX12_readPart_22, rX12_readPart_39, rX12_readPart_40, rX12_readPart_43, rX12_readPart_47, rX12_readPart_49, rX12_readPart_59, rX12_readPart_61, rX12_readPart_62, rX12_readPart_65, rX12_readPart_66, rX12_readPart_67, hM.1, e49, e3, g1, g2, up2_eq, va_rf, eq_self, or_true, true_or, Option.toList_some, Option.toList_none, List.cons_append, List.nil_append, if_true, if_false]
        rw [rX12_readPart_68 hM.1, k_rowLongO hM hB hE hc]
        simp only [up2_eq, va_rf, eq_self, or_true, true_or, Option.toList_some, Option.toList_none, List.cons_append, List.nil_append, if_true, if_false]
        rw [rX12_readPart_71, k_bitsOf (by omega)]
        simp only [up2_eq, va_rf, eq_self, or_true, true_or, Option.toList_some, Option.toList_none, List.cons_append, List.nil_append, if_true, if_false]
        rw [rX12_readPart_74 hM.1]
        refine k_read12 hM hb2 q2 okB1 (by omega) ?_
        intro F3 v3 t1 t2 t3
        simp only [rX12_readPart_77, up2_eq, va_rf, eq_self, or_true, true_or, Option.toList_some, Option.toList_none, List.cons_append, List.nil_append, if_true, if_false]
        have hp : bv b (rdB st 2 N).1 (wd s) < 2 ^ 20 := Nat.lt_of_lt_of_le (bv_lt hb.2.2.1 _) (Nat.pow_le_pow_right (by omega) (by omega))
        have okB2 := okR_B (nb := wd s) okB1
        unfold rpC at hQ
        have f3 := frR12_trans q1 t1
        refine l_rpT (k := k + 1) (p := bv b (rdB st 2 N).1 (wd s)) hM (mBi_R hb2 t1) t2 okB2 (mGt_R hg2 t1) hm hz hB hE hc hs t3 hp ?_ ?_ ?_
        · intro F4 p1 p2 p3
          rw [if_neg p3] at hQ
          exact hQ F4 A (frR_G (frR12_trans f3 p1)) p2 (mGt_R hg2 (frR12_trans t1 p1))
        · intro F4 p1 p2 p3 p4
          rw [if_pos p3, if_pos p4] at hQ
          exact hQ F4 A (frR_G (frR12_trans f3 p1)) p2 (mGt_R hg2 (frR12_trans t1 p1))
        · intro F4 A4 p1 p2 p3 p4 p5
          rw [if_pos p3, if_neg p4] at hQ
          exact hQ F4 A4 (frG12_trans (frR_G f3) p1) p2 p5
      · rw [if_neg k1] at hQ
        by_cases k2 : bv b st.1 2 = 2
        · rw [if_pos k2] at hQ
          have e3 : nI (bv b st.1 2) = nI 2 := by rw [k2]
          have g1 : ¬ nI 2 = nI 3 := by decide
          have g2 : ¬ nI 2 = nI 0 := by decide
          have g3 : ¬ nI 2 = nI 1 := by decide
          have e53 := hg2.1
          simp only [rX12_readPart_10, rX12_readPart_12, rX12_readPart_13, rX12_readPart_16, rX12_readPart_19, rX12_readPart_21, rX12_readPart_22, rX12_readPart_39, rX12_readPart_40, rX12_readPart_43, rX12_readPart_47, rX12_readPart_49, rX12_readPart_59, rX12_readPart_61, rX12_readPart_62, rX12_readPart_80, rX12_readPart_82, rX12_readPart_83, rX12_readPart_86, rX12_readPart_87, rX12_readPart_88, hM.1, e49, e3, g1, g2, g3, e53, up2_eq, va_rf, eq_self, or_true, true_or, Option.toList_some, Option.toList_none, List.cons_append, List.nil_append, if_true, if_false]
          rw [rX12_readPart_91, k_bitsOf (by omega)]
          simp only [up2_eq, va_rf, eq_self, or_true, true_or, Option.toList_some, Option.toList_none, List.cons_append, List.nil_append, if_true, if_false]
          rw [rX12_readPart_94 hM.1]
          refine k_read12 hM hb2 q2 okB1 (by omega) ?_
          intro F3 v3 t1 t2 t3
          simp only [rX12_readPart_97, up2_eq, va_rf, eq_self, or_true, true_or, Option.toList_some, Option.toList_none, List.cons_append, List.nil_append, if_true, if_false]
          have hp : bv b (rdB st 2 N).1 (wd m) < 2 ^ 20 := Nat.lt_of_lt_of_le (bv_lt hb.2.2.1 _) (Nat.pow_le_pow_right (by omega) (by omega))
          have okB2 := okR_B (nb := wd m) okB1
          unfold rpC at hQ
          have f3 := frR12_trans q1 t1
          refine l_rpF (k := k + 1) (p := bv b (rdB st 2 N).1 (wd m)) hM (mBi_R hb2 t1) t2 okB2 (mGt_R hg2 t1) hm hz t3 hp ?_ ?_ ?_
          · intro F4 p1 p2 p3
            rw [if_neg p3] at hQ
            exact hQ F4 A (frR_G (frR12_trans f3 p1)) p2 (mGt_R hg2 (frR12_trans t1 p1))
          · intro F4 p1 p2 p3 p4
            rw [if_pos p3, if_pos p4] at hQ
            exact hQ F4 A (frR_G (frR12_trans f3 p1)) p2 (mGt_R hg2 (frR12_trans t1 p1))
          · intro F4 A4 p1 p2 p3 p4 p5
            rw [if_pos p3, if_neg p4] at hQ
            exact hQ F4 A4 (frG12_trans (frR_G f3) p1) p2 p5
        · rw [if_neg k2] at hQ
          have e3 : nI (bv b st.1 2) = nI 3 := by rw [show bv b st.1 2 = 3 by omega]
          have g1 : ¬ nI 3 = nI 0 := by decide
          have g2 : ¬ nI 3 = nI 1 := by decide
          have g3 : ¬ nI 3 = nI 2 := by decide
          have g4 : ¬ nI 1 = nI 0 := by decide
          simp only [rX12_readPart_10, rX12_readPart_12, rX12_readPart_13, rX12_readPart_16, rX12_readPart_19, rX12_readPart_21, rX12_readPart_22, rX12_readPart_25, rX12_readPart_26, hM.1, e49, e3, up2_eq, va_rf, eq_self, or_true, true_or, Option.toList_some, Option.toList_none, List.cons_append, List.nil_append, if_true, if_false]
          rw [rX12_readPart_27 hM.1, k_isRanked hM hB]
          unfold rpW at hQ
          cases hrk : rk with
          | false =>
            rw [hrk] at hQ
            rw [if_neg (by decide)] at hQ
            simp only [Bool.false_eq_true, rX12_readPart_30, rX12_readPart_33, rX12_readPart_34, rX12_readPart_35, up2_eq, va_rf, eq_self, or_true, true_or, Option.toList_some, Option.toList_none, List.cons_append, List.nil_append, if_true, if_false]
            rw [rX12_readPart_36 hM.1]
            refine k_wrong hM q2 h7 (by decide) ?_
            intro F3 t1 t2
            have hf : ¬ (rdN (rdB st 2 N) 5 st.1).2.1 = 0 := by unfold rdN; rw [if_pos c0]; exact (by decide : ¬ (5 : Nat) = 0)
            have h8 : (rdN (rdB st 2 N) 5 st.1).2.1 < 7 := by unfold rdN; rw [if_pos c0]; exact (by decide : (5 : Nat) < 7)
            have g5 : ¬ nI (rdN (rdB st 2 N) 5 st.1).2.1 = nI 0 := nI_ne0 (by omega) (by omega)
            have e49b := t2.1
            simp only [rX12_readPart_39, rX12_readPart_40, rX12_readPart_43, rX12_readPart_46, hM.1, e49b, g5, up2_eq, va_rf, eq_self, or_true, true_or, Option.toList_some, Option.toList_none, List.cons_append, List.nil_append, if_true, if_false]
            exact hQ F3 A (frR_G (frR12_trans q1 t1)) t2 (mGt_R hg2 t1)
          | true =>
            rw [hrk] at hQ hB
            rw [if_pos rfl] at hQ
            simp only [rX12_readPart_30, rX12_readPart_39, rX12_readPart_40, rX12_readPart_43, rX12_readPart_47, rX12_readPart_49, rX12_readPart_59, rX12_readPart_61, rX12_readPart_62, rX12_readPart_80, rX12_readPart_82, rX12_readPart_83, rX12_readPart_100, hM.1, e49, g1, g2, g3, g4, up2_eq, va_rf, eq_self, or_true, true_or, Option.toList_some, Option.toList_none, List.cons_append, List.nil_append, if_true, if_false]
            refine l_rpW (k := k + 1) hM hb2 q2 okB1 hg2 hm hz hB hE hc hs hok.2.1 ?_ ?_ ?_
            · intro F4 p1 p2 p3
              rw [if_neg p3] at hQ
              exact hQ F4 A (frR_G (frR12_trans q1 p1)) p2 (mGt_R hg2 p1)
            · intro F4 p1 p2 p3 p4
              rw [if_pos p3, if_pos p4] at hQ
              exact hQ F4 A (frR_G (frR12_trans q1 p1)) p2 (mGt_R hg2 p1)
            · intro F4 A4 p1 p2 p3 p4 p5
              rw [if_pos p3, if_neg p4] at hQ
              exact hQ F4 A4 (frG12_trans (frR_G q1) p1) p2 p5
  · rw [if_neg c0] at hQ
    have g2 : ¬ nI (rdB st 2 N).2.1 = nI 0 := nI_ne0 (by omega) (by omega)
    simp only [rX12_readPart_10, rX12_readPart_12, rX12_readPart_13, rX12_readPart_16, rX12_readPart_39, rX12_readPart_40, rX12_readPart_43, rX12_readPart_46, hM.1, e49, g2, up2_eq, va_rf, eq_self, or_true, true_or, Option.toList_some, Option.toList_none, List.cons_append, List.nil_append, if_true, if_false]
    exact hQ F2 A (frR_G q1) q2 hg2
end MR3
