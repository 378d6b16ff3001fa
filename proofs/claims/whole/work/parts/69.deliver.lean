/-! ===== the class: lose, deliver ===== -/
def relT (hd go : Nat) (tg se : Int32) : Nat := if go = 0 then hd else if se < tg then hd else 0
def setT (T : TT) (b : Nat) : TT := bvT T b (T.1 18 b) (relT (T.1 19 b) (T.1 20 b) (T.2.2 3 b) (T.2.2 4 b + nI 1)) (T.1 20 b) (T.2.2 2 b) (T.2.2 3 b) (T.2.2 4 b + nI 1)
def gonT (T : TT) (b : Nat) (le : Int32) : TT := bvT T b (T.1 18 b) (relT (T.1 19 b) 1 le (T.2.2 4 b)) 1 (T.2.2 2 b) le (T.2.2 4 b)
theorem okT_ms {T : TT} {m uw fa : Nat} (h : okT T) (h1 : uw ≤ 3) (h2 : fa ≤ 2) : okT (msT T m uw fa) := by
  obtain ⟨g1, g2, g3, g4, g5, g6, ⟨a1, a2, a3, a4⟩, g8⟩ := h
  refine ⟨g1, g2, g3, g4, g5, g6, ⟨a1, fun q hq => ?_, a3, a4⟩, g8⟩
  obtain ⟨b1, b2, b3, b4, b5, b6, b7⟩ := a2 q hq
  refine ⟨b1, b2, b3, b4, ?_, ?_, b7⟩
  · unfold msT
    dsimp only
    rw [up2_k (by decide)]
    by_cases e : q = m
    · subst e; rw [up2_eq]; exact h1
    · rw [up2_a e]; exact b5
  · unfold msT
    dsimp only
    by_cases e : q = m
    · subst e; rw [up2_eq]; exact h2
    · rw [up2_a e, up2_k (by decide)]; exact b6
theorem okT_bv {T : TT} {b st hd go : Nat} {sn tg se : Int32} (h : okT T) (h1 : st ≤ 3) (h2 : hd ≤ 1) (h3 : go ≤ 1) (h4 : b = 25 → st = 2 ∧ hd = 1 ∧ go = 0) : okT (bvT T b st hd go sn tg se) := by
  obtain ⟨g1, g2, g3, ⟨a1, a2, a3, a4, a5, a6, a7, a8⟩, g5, g6, g7, g8⟩ := h
  refine ⟨g1, g2, g3, ⟨a1, fun q hq => ?_, a3, a4, a5, ?_, ?_, ?_⟩, g5, g6, g7, g8⟩
  · obtain ⟨b1, b2, b3, b4⟩ := a2 q hq
    refine ⟨b1, ?_⟩
    unfold bvT
    dsimp only
    by_cases e : q = b
    · subst e
      rw [up2_k (by decide), up2_k (by decide), up2_eq, up2_k (by decide), up2_eq, up2_eq]
      exact ⟨h1, h2, h3⟩
    · rw [up2_o (by omega), up2_o (by omega), up2_o (by omega), up2_o (by omega), up2_o (by omega), up2_o (by omega), up2_o (by omega), up2_o (by omega), up2_o (by omega)]
      exact ⟨b2, b3, b4⟩
  · unfold bvT
    dsimp only
    rw [up2_k (by decide), up2_k (by decide)]
    by_cases e : b = 25
    · subst e; rw [up2_eq]; exact (h4 rfl).1
    · rw [up2_a (Ne.symm e)]; exact a6
  · unfold bvT
    dsimp only
    rw [up2_k (by decide)]
    by_cases e : b = 25
    · subst e; rw [up2_eq]; exact (h4 rfl).2.1
    · rw [up2_a (Ne.symm e), up2_k (by decide)]; exact a7
  · unfold bvT
    dsimp only
    by_cases e : b = 25
    · subst e; rw [up2_eq]; exact (h4 rfl).2.2
    · rw [up2_a (Ne.symm e), up2_k (by decide), up2_k (by decide)]; exact a8
theorem okT_wi {T : TT} {la : Nat} {cm rp mi : Int32} (h : okT T) (h1 : la ≤ T.1 8 0) (h2 : la ≠ 0 → T.1 9 (la - 1) = 3) : okT (wiT T la cm rp mi) := by
  obtain ⟨g1, g2, g3, g4, g5, g6, ⟨a1, a2, a3, a4⟩, g8⟩ := h
  exact ⟨g1, g2, g3, g4, g5, g6, ⟨a1, a2, h1, h2⟩, g8⟩
theorem okT_pu {T : TT} {so b lm : Nat} {le : Int32} {L : Nat → Nat} (h : okT T) (hn : T.1 8 0 < 200) (hb : isB3 T.1 b) (h1 : so ≤ 4) (h2 : b = 25 → so = 3) (h3 : so = 3 → lm ≤ 120 ∧ ∀ j, j < lm → L j < 256) : okT (puT T so (b5 b) le lm L) := by
  obtain ⟨g1, g2, g3, g4, g5, g6, ⟨a1, a2, a3, a4⟩, g8⟩ := h
  have h24 := g4.1
  have hb2 : b < 24 ∨ b = 25 := by rcases hb with hb | hb <;> omega
  refine ⟨g1, g2, g3, g4, g5, g6, ⟨hn, fun q hq => ?_, ?_, fun g => ?_⟩, g8⟩
  · have hq' : q < T.1 8 0 + 1 := hq
    by_cases e : q = T.1 8 0
    · subst e
      obtain ⟨e9, e10, e11, e12, e21, eJ, eI⟩ := puT_n (T := T) (so := so) (b1 := b5 b) (lm := lm) (le := le) (L := L)
      have em : mbk (puT T so (b5 b) le lm L).1 (T.1 8 0) = b := mbk_b5 hb2 e10
      rw [e9, e10, e11, e12, e21, eJ, em]
      refine ⟨h1, hb, fun g => ?_, ?_, by omega, by omega, h3⟩
      · apply h2
        unfold b5 at g
        by_cases c : b = 25
        · exact c
        · rw [if_neg c] at g; omega
      · show b5 b ≤ T.1 2 0
        unfold b5
        by_cases c : b = 25
        · rw [if_pos c]; exact Nat.zero_le _
        · rw [if_neg c]; rcases hb with hb | hb <;> omega
    · have hm2 : q < T.1 8 0 := by omega
      have e10 := puT_o (T := T) (so := so) (b1 := b5 b) (le := le) (lm := lm) (L := L) (q := 10) (m := q) (by decide) e
      have em : mbk (puT T so (b5 b) le lm L).1 q = mbk T.1 q := by unfold mbk; rw [e10]
      have eJ : (puT T so (b5 b) le lm L).2.1 2 q = T.2.1 2 q := by unfold puT; dsimp only; rw [up2_a e]
      rw [puT_o (by decide) e, e10, puT_o (by decide) e, puT_o (by decide) e, puT_o (by decide) e, eJ, em]
      exact a2 q hm2
  · show T.1 13 0 ≤ T.1 8 0 + 1
    omega
  · have g' : T.1 13 0 ≠ 0 := g
    show (puT T so (b5 b) le lm L).1 9 (T.1 13 0 - 1) = 3
    rw [puT_o (by decide) (by omega)]
    exact a4 g'
theorem okT_relT {hd go : Nat} {tg se : Int32} (h : hd ≤ 1) : relT hd go tg se ≤ 1 := by
  unfold relT
  split
  · exact h
  · split
    · exact h
    · omega
theorem okT_set {T : TT} {b : Nat} (h : okT T) (hb : isB3 T.1 b) : okT (setT T b) := by
  obtain ⟨b1, b2, b3, b4⟩ := h.2.2.2.1.2.1 b hb
  obtain ⟨a1, a2, a3, a4, a5, a6, a7, a8⟩ := h.2.2.2.1
  refine okT_bv h b2 (okT_relT b3) b4 (fun e => ?_)
  subst e
  refine ⟨a6, ?_, a8⟩
  unfold relT
  rw [if_pos a8]
  exact a7
theorem okT_gon {T : TT} {b : Nat} {le : Int32} (h : okT T) (hb : b < T.1 2 0) : okT (gonT T b le) := by
  obtain ⟨b1, b2, b3, b4⟩ := h.2.2.2.1.2.1 b (Or.inl hb)
  have := h.2.2.2.1.1
  exact okT_bv h b2 (okT_relT b3) (by omega) (fun e => by omega)
section DEL
variable {k n n' u : Nat} {sh sh' : hs_} {F F' : hF_} {R R' : hR_} {A A' : hF_} {B B' : hR_} {Q : Option Value → pm_H → Prop} {x : Nat} {ba ma : Nat → Nat} {T T' : TT} {b : Nat}
theorem rel_V {o st hd go : Nat} {num sn tg se : Int32} (h : bkV F o num st hd go sn tg se) (hg : go ≤ 1) : bkV (rel F o) o num st (relT hd go tg se) go sn tg se ∧ ∀ q a, ¬ (q = 5 ∧ a = o) → rel F o q a = F q a := by
  obtain ⟨v1, v2, v3, v4, v5, v6, v7⟩ := h
  unfold rel relT
  rw [v5, v6, v7]
  by_cases c1 : go = 0
  · rw [if_pos c1, if_pos (by rw [c1])]
    exact ⟨⟨v1, v2, v3, v4, v5, v6, v7⟩, fun _ _ _ => rfl⟩
  · have g1 : ¬ nI go = nI 0 := nI_ne0 (by omega) (by omega)
    rw [if_neg c1, if_neg g1]
    by_cases c2 : se < tg
    · rw [if_pos c2, if_pos c2]
      exact ⟨⟨v1, v2, v3, v4, v5, v6, v7⟩, fun _ _ _ => rfl⟩
    · rw [if_neg c2, if_neg c2]
      exact ⟨⟨by rw [up2_k (by decide)]; exact v1, by rw [up2_k (by decide)]; exact v2, by rw [up2_k (by decide)]; exact v3, up2_eq, by rw [up2_k (by decide)]; exact v5, by rw [up2_k (by decide)]; exact v6, by rw [up2_k (by decide)]; exact v7⟩, fun q a hq => up2_o hq⟩
theorem XS_set (h : XS n sh F R A B x ba ma T) (hT : okT T) (hb : isB3 T.1 b) : XS n sh (rel (up2 F 8 (ba b) (F 8 (ba b) + nI 1)) (ba b)) R A B x ba ma (setT T b) ∧ frX x n sh F R A n sh (rel (up2 F 8 (ba b) (F 8 (ba b) + nI 1)) (ba b)) R A := by
  obtain ⟨-, v1, v2, v3, v4, v5, v6, v7⟩ := bkV_at h hb
  obtain ⟨-, -, -, b4⟩ := hT.2.2.2.1.2.1 b hb
  have hv : bkV (up2 F 8 (ba b) (F 8 (ba b) + nI 1)) (ba b) (nm3 b) (T.1 18 b) (T.1 19 b) (T.1 20 b) (T.2.2 2 b) (T.2.2 3 b) (T.2.2 4 b + nI 1) := ⟨by rw [up2_k (by decide)]; exact v1, by rw [up2_k (by decide)]; exact v2, by rw [up2_k (by decide)]; exact v3, by rw [up2_k (by decide)]; exact v4, by rw [up2_k (by decide)]; exact v5, by rw [up2_k (by decide)]; exact v6, by rw [up2_eq, v7]⟩
  obtain ⟨w1, w2⟩ := rel_V hv b4
  exact XS_bk' h hT.2.2.2.1.1 hb (fun q a hq => by rw [w2 q a (by omega), up2_o (by omega)]) w1
theorem XS_gon {le : Int32} (h : XS n sh F R A B x ba ma T) (hT : okT T) (hb : isB3 T.1 b) : XS n sh (rel (up2 (up2 F 6 (ba b) (nI 1)) 7 (ba b) le) (ba b)) R A B x ba ma (gonT T b le) ∧ frX x n sh F R A n sh (rel (up2 (up2 F 6 (ba b) (nI 1)) 7 (ba b) le) (ba b)) R A := by
  obtain ⟨-, v1, v2, v3, v4, v5, v6, v7⟩ := bkV_at h hb
  have hv : bkV (up2 (up2 F 6 (ba b) (nI 1)) 7 (ba b) le) (ba b) (nm3 b) (T.1 18 b) (T.1 19 b) 1 (T.2.2 2 b) le (T.2.2 4 b) := ⟨by rw [up2_k (by decide), up2_k (by decide)]; exact v1, by rw [up2_k (by decide), up2_k (by decide)]; exact v2, by rw [up2_k (by decide), up2_k (by decide)]; exact v3, by rw [up2_k (by decide), up2_k (by decide)]; exact v4, by rw [up2_k (by decide), up2_eq], up2_eq, by rw [up2_k (by decide), up2_k (by decide)]; exact v7⟩
  obtain ⟨w1, w2⟩ := rel_V hv (Nat.le_refl _)
  exact XS_bk' h hT.2.2.2.1.1 hb (fun q a hq => by rw [w2 q a (by omega), up2_o (by omega), up2_o (by omega)]) w1
/-- a book's state is set -/
theorem XS_st {st : Nat} (h : XS n sh F R A B x ba ma T) (hT : okT T) (hb : isB3 T.1 b) : XS n sh (up2 F 3 (ba b) (nI st)) R A B x ba ma (bvT T b st (T.1 19 b) (T.1 20 b) (T.2.2 2 b) (T.2.2 3 b) (T.2.2 4 b)) ∧ frX x n sh F R A n sh (up2 F 3 (ba b) (nI st)) R A := by
  obtain ⟨-, v1, v2, v3, v4, v5, v6, v7⟩ := bkV_at h hb
  exact XS_bk' h hT.2.2.2.1.1 hb (fun q a hq => up2_o (by omega)) ⟨by rw [up2_k (by decide)]; exact v1, up2_eq, by rw [up2_k (by decide)]; exact v3, by rw [up2_k (by decide)]; exact v4, by rw [up2_k (by decide)]; exact v5, by rw [up2_k (by decide)]; exact v6, by rw [up2_k (by decide)]; exact v7⟩
theorem XS_hold (h : XS n sh F R A B x ba ma T) (hT : okT T) (hb : isB3 T.1 b) : XS n sh (up2 (up2 F 5 (ba b) (nI 1)) 6 (ba b) (nI 0)) R A B x ba ma (bvT T b (T.1 18 b) 1 0 (T.2.2 2 b) (T.2.2 3 b) (T.2.2 4 b)) ∧ frX x n sh F R A n sh (up2 (up2 F 5 (ba b) (nI 1)) 6 (ba b) (nI 0)) R A := by
  obtain ⟨-, v1, v2, v3, v4, v5, v6, v7⟩ := bkV_at h hb
  exact XS_bk' h hT.2.2.2.1.1 hb (fun q a hq => by rw [up2_o (by omega), up2_o (by omega)]) ⟨by rw [up2_k (by decide), up2_k (by decide)]; exact v1, by rw [up2_k (by decide), up2_k (by decide)]; exact v2, by rw [up2_k (by decide), up2_k (by decide)]; exact v3, by rw [up2_k (by decide), up2_eq], up2_eq, by rw [up2_k (by decide), up2_k (by decide)]; exact v6, by rw [up2_k (by decide), up2_k (by decide)]; exact v7⟩
def s_lose (T : TT) (i : Int32) : Int32 × TT := match ix i (T.1 8 0) with
  | none => (-3, T)
  | some m => if T.1 11 m = 0 then (-4, T) else (nI (T.1 11 m - 1), if T.1 9 m = 3 ∧ T.1 21 m = 0 ∧ T.1 11 m - 1 = 0 then setT (msT T m (T.1 11 m - 1) 2) (mbk T.1 m) else msT T m (T.1 11 m - 1) (T.1 21 m))
theorem c_lose {i : Int32} (h : XS n sh F R A B x ba ma T) (hT : okT T) (hQ : xPost n u sh F R A x (s_lose T i) Q) : rc_ (k + 8) mX11_lose [.ref x, .int i] (mkh n u sh F R A B) Q := by
  obtain ⟨hx, hX, hTO, hDr, hBk, hPk, hGm, hSm, hWi, hRd⟩ := id h
  have s0 := hX.s0
  have h72 := hX.s 72 0 9 0 (by decide)
  have r72 := hX.r0 1109 72 (by decide)
  rw [eX11_lose]
  simp only [rX11_lose_0, rX11_lose_1, rX11_lose_4, s0, r72, up2_eq, va_rf, eq_self, or_true, true_or, Option.toList_some, Option.toList_none, List.cons_append, List.nil_append, if_true, if_false]
  rw [rX11_lose_5 h72, k_Wfind hX hWi hT.2.2.2.2.2.2.1.1]
  unfold s_lose at hQ
  cases hi : ix i (T.1 8 0) with
  | none =>
    rw [hi] at hQ
    simp only [Option.map_none, rX11_lose_8, rX11_lose_8_n, rX11_lose_9, rX11_lose_9_n, rX11_lose_10, rX11_lose_10_n, rX11_lose_13, rX11_lose_15, up2_eq, va_rf, eq_self, or_true, true_or, Option.toList_some, Option.toList_none, List.cons_append, List.nil_append, if_true, if_false]
    exact xPost_same hQ h
  | some m =>
    rw [hi] at hQ
    obtain ⟨hm, -, -⟩ := ix_some hi
    obtain ⟨b1, b2, b3, b4, ⟨v1, v2, v3, v4, v5⟩, -⟩ := hWi.2.2.2.2.2.1 m hm
    obtain ⟨o1, o2, o3, o4, o5, o6, o7⟩ := hT.2.2.2.2.2.2.1.2.1 m hm
    dsimp only at hQ
    by_cases c : T.1 11 m = 0
    · rw [if_pos c] at hQ
      rw [c] at v4
      simp only [Option.map_some, rX11_lose_8, rX11_lose_8_n, rX11_lose_9, rX11_lose_9_n, rX11_lose_10, rX11_lose_10_n, rX11_lose_16, rX11_lose_16_n, rX11_lose_17, rX11_lose_20, rX11_lose_23, rX11_lose_25, b4, v4, up2_eq, va_rf, eq_self, or_true, true_or, Option.toList_some, Option.toList_none, List.cons_append, List.nil_append, if_true, if_false]
      exact xPost_same hQ h
    · rw [if_neg c] at hQ
      have g1 : ¬ nI (T.1 11 m) = nI 0 := nI_ne0 (by omega) (by omega)
      have g2 : nI (T.1 11 m) - nI 1 = nI (T.1 11 m - 1) := pk_sub (by omega)
      simp only [Option.map_some, rX11_lose_8, rX11_lose_8_n, rX11_lose_9, rX11_lose_9_n, rX11_lose_10, rX11_lose_10_n, rX11_lose_16, rX11_lose_16_n, rX11_lose_17, rX11_lose_20, rX11_lose_26, rX11_lose_26_n, rX11_lose_27, rX11_lose_28, rX11_lose_31, rX11_lose_32, rX11_lose_33, rX11_lose_36, rX11_lose_37, rX11_lose_40, rX11_lose_40_n, b4, v4, g1, g2, s0, r72, up2_eq, va_rf, eq_self, or_true, true_or, Option.toList_some, Option.toList_none, List.cons_append, List.nil_append, if_true, if_false]
      rw [rX11_lose_41 h72, eX9_noteLoss]
      have e300 : up2 F 304 (ma m) (nI (T.1 11 m - 1)) 300 (ma m) = nI (T.1 9 m) := by rw [up2_k (by decide)]; exact v1
      have e305 : up2 F 304 (ma m) (nI (T.1 11 m - 1)) 305 (ma m) = nI (T.1 21 m) := by rw [up2_k (by decide)]; exact v5
      have fin : ∀ F2, F2 304 (ma m) = nI (T.1 11 m - 1) → XS n sh F2 R A B x ba ma (if T.1 9 m = 3 ∧ T.1 21 m = 0 ∧ T.1 11 m - 1 = 0 then setT (msT T m (T.1 11 m - 1) 2) (mbk T.1 m) else msT T m (T.1 11 m - 1) (T.1 21 m)) → frX x n sh F R A n sh F2 R A → rw_ (k + 8) mX11_lose 44 [.ref x, .int i, .ref (ma m)] [] (mkh n u sh F2 R A B) Q := by
        intro F2 e1 e2 e3
        simp only [rX11_lose_44, rX11_lose_44_n, rX11_lose_45, rX11_lose_48, b4, e1, up2_eq, va_rf, eq_self, or_true, true_or, Option.toList_some, Option.toList_none, List.cons_append, List.nil_append, if_true, if_false]
        exact hQ n u _ _ _ _ _ _ _ e2 e3 (by omega) (by omega)
      by_cases c1 : T.1 9 m = 3
      · have g3 : nI (T.1 9 m) = nI 3 := by rw [c1]
        by_cases c2 : T.1 21 m = 0
        · have g4 : nI (T.1 21 m) = nI 0 := by rw [c2]
          by_cases c3 : T.1 11 m - 1 = 0
          · have g5 : nI (T.1 11 m - 1) = nI 0 := by rw [c3]
            have a1 := (bkV_at h o2).1
            rw [g3, g5] at e300
            rw [g4, g5] at e305
            simp only [rX9_noteLoss_0, rX9_noteLoss_0_n, rX9_noteLoss_1, rX9_noteLoss_4, rX9_noteLoss_5, rX9_noteLoss_8, rX9_noteLoss_8_n, rX9_noteLoss_9, rX9_noteLoss_12, rX9_noteLoss_15, rX9_noteLoss_15_n, rX9_noteLoss_16, rX9_noteLoss_19, rX9_noteLoss_22, rX9_noteLoss_22_n, rX9_noteLoss_23, rX9_noteLoss_24, rX9_noteLoss_27, rX9_noteLoss_27_n, rX9_noteLoss_28, b4, e300, e305, g5, v2, up2_eq, va_rf, eq_self, or_true, true_or, Option.toList_some, Option.toList_none, List.cons_append, List.nil_append, if_true, if_false]
            rw [rX9_noteLoss_31 a1, k_Book_settle a1]
            simp only [rX9_noteLoss_34, up2_eq, va_rf, eq_self, or_true, true_or, Option.toList_some, Option.toList_none, List.cons_append, List.nil_append, if_true, if_false]
            obtain ⟨p1, p2⟩ := XS_ms (F' := up2 (up2 F 304 (ma m) (nI 0)) 305 (ma m) (nI 2)) (uw := T.1 11 m - 1) (fa := 2) h hm (fun q a hq => by rw [up2_o (by omega), up2_o (by omega)]) (by rw [up2_k (by decide), up2_eq, c3]) up2_eq
            obtain ⟨p3, p4⟩ := XS_set (b := mbk T.1 m) p1 (okT_ms hT (by omega) (by omega)) o2
            have hmb : ma m ≠ ba (mbk T.1 m) := fun e => by
              rw [e] at b4
              rw [b4] at a1
              cases a1
            refine fin _ ?_ ?_ (frX_trans p2 p4)
            · have hrel : ∀ q a, q ≠ 5 → rel (up2 (up2 (up2 F 304 (ma m) (nI 0)) 305 (ma m) (nI 2)) 8 (ba (mbk T.1 m)) ((up2 (up2 F 304 (ma m) (nI 0)) 305 (ma m) (nI 2)) 8 (ba (mbk T.1 m)) + nI 1)) (ba (mbk T.1 m)) q a = (up2 (up2 (up2 F 304 (ma m) (nI 0)) 305 (ma m) (nI 2)) 8 (ba (mbk T.1 m)) ((up2 (up2 F 304 (ma m) (nI 0)) 305 (ma m) (nI 2)) 8 (ba (mbk T.1 m)) + nI 1)) q a := by
                intro q a hq
                unfold rel
                split
                · rfl
                · split
                  · rfl
                  · rw [up2_k hq]
              rw [hrel _ _ (by decide), up2_k (by decide), up2_k (by decide), up2_eq, c3]
            · rw [if_pos ⟨c1, c2, c3⟩]
              exact p3
          · have g5 : ¬ nI (T.1 11 m - 1) = nI 0 := nI_ne0 (by omega) (by omega)
            rw [g3] at e300
            rw [g4] at e305
            simp only [rX9_noteLoss_0, rX9_noteLoss_0_n, rX9_noteLoss_1, rX9_noteLoss_4, rX9_noteLoss_5, rX9_noteLoss_8, rX9_noteLoss_8_n, rX9_noteLoss_9, rX9_noteLoss_12, rX9_noteLoss_15, rX9_noteLoss_15_n, rX9_noteLoss_16, rX9_noteLoss_19, rX9_noteLoss_34, b4, e300, e305, g5, up2_eq, va_rf, eq_self, or_true, true_or, Option.toList_some, Option.toList_none, List.cons_append, List.nil_append, if_true, if_false]
            obtain ⟨p1, p2⟩ := XS_ms (F' := up2 F 304 (ma m) (nI (T.1 11 m - 1))) (uw := T.1 11 m - 1) (fa := T.1 21 m) h hm (fun q a hq => by rw [up2_o (by omega)]) up2_eq (by rw [up2_k (by decide)]; exact v5)
            exact fin _ up2_eq (by rw [if_neg (fun e => c3 e.2.2)]; exact p1) p2
        · have g4 : ¬ nI (T.1 21 m) = nI 0 := nI_ne0 (by omega) (by omega)
          rw [g3] at e300
          simp only [rX9_noteLoss_0, rX9_noteLoss_0_n, rX9_noteLoss_1, rX9_noteLoss_4, rX9_noteLoss_5, rX9_noteLoss_8, rX9_noteLoss_8_n, rX9_noteLoss_9, rX9_noteLoss_12, rX9_noteLoss_34, b4, e300, e305, g4, up2_eq, va_rf, eq_self, or_true, true_or, Option.toList_some, Option.toList_none, List.cons_append, List.nil_append, if_true, if_false]
          obtain ⟨p1, p2⟩ := XS_ms (F' := up2 F 304 (ma m) (nI (T.1 11 m - 1))) (uw := T.1 11 m - 1) (fa := T.1 21 m) h hm (fun q a hq => by rw [up2_o (by omega)]) up2_eq (by rw [up2_k (by decide)]; exact v5)
          exact fin _ up2_eq (by rw [if_neg (fun e => c2 e.2.1)]; exact p1) p2
      · have g3 : ¬ nI (T.1 9 m) = nI 3 := by rw [nI_eq (by omega) (by omega)]; exact c1
        simp only [rX9_noteLoss_0, rX9_noteLoss_0_n, rX9_noteLoss_1, rX9_noteLoss_4, rX9_noteLoss_5, rX9_noteLoss_34, b4, e300, g3, up2_eq, va_rf, eq_self, or_true, true_or, Option.toList_some, Option.toList_none, List.cons_append, List.nil_append, if_true, if_false]
        obtain ⟨p1, p2⟩ := XS_ms (F' := up2 F 304 (ma m) (nI (T.1 11 m - 1))) (uw := T.1 11 m - 1) (fa := T.1 21 m) h hm (fun q a hq => by rw [up2_o (by omega)]) up2_eq (by rw [up2_k (by decide)]; exact v5)
        exact fin _ up2_eq (by rw [if_neg (fun e => c1 e.1)]; exact p1) p2
end DEL
