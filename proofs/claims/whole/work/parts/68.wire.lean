/-! ===== the class: the wire ===== -/
theorem frX_trans {x n n1 n2 : Nat} {sh sh1 sh2 : hs_} {F F1 F2 : hF_} {R R1 R2 : hR_} {A A1 A2 : hF_} (h : frX x n sh F R A n1 sh1 F1 R1 A1) (h' : frX x n1 sh1 F1 R1 A1 n2 sh2 F2 R2 A2) : frX x n sh F R A n2 sh2 F2 R2 A2 := by
  obtain ⟨a1, a2, a3, a4⟩ := h
  obtain ⟨b1, b2, b3, b4⟩ := h'
  exact ⟨by omega, fun a ha => by rw [b2 a (by omega), a2 a ha], fun q a ha hq => ⟨by rw [(b3 q a (by omega) hq).1, (a3 q a ha hq).1], by rw [(b3 q a (by omega) hq).2, (a3 q a ha hq).2]⟩, fun a ha => by rw [b4 a ha, a4 a ha]⟩
section WIR
variable {k n n' u : Nat} {sh sh' : hs_} {F F' : hF_} {R R' : hR_} {A A' : hF_} {B B' : hR_} {Q : Option Value → pm_H → Prop} {x : Nat} {ba ma : Nat → Nat} {T T' : TT} {b : Nat}
theorem k_Wfull (hX : isX sh R B x) (hW : xWi n sh F R A B x ba ma T) (h200 : T.1 8 0 ≤ 200) : rc_ k mX9_isFull [.ref (x + 72)] (mkh n u sh F R A B) Q ↔ Q (some (.int (if T.1 8 0 < 200 then nI 0 else nI 1))) (mkh n u sh F R A B) := by
  have h1 := hX.s 72 0 9 0 (by decide)
  have h4 := hW.1
  rw [eX9_isFull]
  by_cases c : T.1 8 0 < 200
  · have g1 : nI (T.1 8 0) < nI 200 := nI_lt c (by omega)
    simp only [rX9_isFull_0, rX9_isFull_1, rX9_isFull_4, rX9_isFull_7, rX9_isFull_10, rX9_isFull_11, rX9_isFull_14, rX9_isFull_15, h1, h4, g1, c, up2_eq, va_rf, eq_self, or_true, true_or, Option.toList_some, Option.toList_none, List.cons_append, List.nil_append, if_true, if_false]
  · have g1 : ¬ nI (T.1 8 0) < nI 200 := nI_nlt (by omega) (by omega)
    simp only [rX9_isFull_0, rX9_isFull_1, rX9_isFull_4, rX9_isFull_7, rX9_isFull_10, rX9_isFull_11, rX9_isFull_14, rX9_isFull_15, h1, h4, g1, c, up2_eq, va_rf, eq_self, or_true, true_or, Option.toList_some, Option.toList_none, List.cons_append, List.nil_append, if_true, if_false]
theorem k_Wput {wr so lm : Nat} {le : Int32} {L : Nat → Nat} (h : XS n sh F R A B x ba ma T) (hT : okT T) (hb : isB3 T.1 b) (hnm : T.1 8 0 < 200) (hL : so = 3 → x + 117 ≤ wr ∧ wr + 2 ≤ n ∧ sh wr = some (0, 1, 0) ∧ R 100 wr = some (wr + 1) ∧ sh (wr + 1) = some (1, 0, ((wrT T.1 T.2.1 b lm L).2 + 7) / 8) ∧ F 101 wr = nI (((wrT T.1 T.2.1 b lm L).2 + 7) / 8) ∧ ∀ j, j < ((wrT T.1 T.2.1 b lm L).2 + 7) / 8 → A (wr + 1) j = nI (byt (wrT T.1 T.2.1 b lm L).1 j))
    (hQ : ∀ sh' F' R' B' ma', XS (n + 1) sh' F' R' A B' x ba ma' (puT T so (b5 b) le lm L) → frX x n sh F R A (n + 1) sh' F' R' A → Q (some (.int (nI 1))) (mkh (n + 1) (u + 6) sh' F' R' A B')) :
    rc_ (k + 2) mX9_put [.ref (x + 72), .int (nI so), .ref (ba b), .int le, .ref wr] (mkh n u sh F R A B) Q := by
  obtain ⟨hx, hX, hTO, hDr, hBk, hPk, hGm, hSm, hWi, hRd⟩ := id h
  have s72 := hX.s 72 0 9 0 (by decide)
  have r73 := hX.r 901 72 73 (by decide)
  have s73 := hX.s 73 2 3 200 (by decide)
  have h904 := hWi.1
  rw [eX9_put]
  simp only [rX9_put_0]
  rw [rX9_put_1 s72, k_Wfull hX hWi (by omega), if_pos hnm]
  simp only [rX9_put_4, rX9_put_9, rX9_put_10, rX9_put_13, rX9_put_14, s72, r73, h904, up2_eq, va_rf, eq_self, or_true, true_or, Option.toList_some, Option.toList_none, List.cons_append, List.nil_append, if_true, if_false]
  rw [rX9_put_17]
  simp only [rX9_put_20, rX9_put_21, rX9_put_22, rX9_put_22_n, rX9_put_23, rX9_put_24, rX9_put_24_n]
  rw [rX9_put_26, k_Message_init up1_eq]
  have e73 : up1 sh n (some (0, 3, 0)) (x + 73) = some (2, 3, 200) := by rw [up1_ne (by omega)]; exact s73
  have e72 : up1 sh n (some (0, 3, 0)) (x + 72) = some (0, 9, 0) := by rw [up1_ne (by omega)]; exact s72
  simp only [up2_eq, va_rf, eq_self, or_true, true_or, Option.toList_some, Option.toList_none, List.cons_append, List.nil_append, if_true, if_false]
  rw [rX9_put_29 e73 up1_eq (by omega) (by omega)]
  have hF1 : ∀ q a, a < n → (up2 (up2 (up2 (up2 (zap F n 0) 304 n (nI 1)) 305 n (nI 0)) 300 n (nI so)) 302 n le) q a = F q a := fun q a ha => by
    rw [up2_o (by omega), up2_o (by omega), up2_o (by omega), up2_o (by omega), zap_ne (by omega)]
  have e904 := hF1 904 (x + 72) (by omega)
  rw [h904] at e904
  simp only [rX9_put_30, rX9_put_31, rX9_put_32, rX9_put_35, rX9_put_36, rX9_put_37, rX9_put_40, rX9_put_41, e72, e904, nI_add, up2_eq, va_rf, eq_self, or_true, true_or, Option.toList_some, Option.toList_none, List.cons_append, List.nil_append, if_true, if_false]
  obtain ⟨q1, q2⟩ := XS_put (n' := n + 1) (o := n) (so := so) (lm := lm) (le := le) (L := L) (sh' := up1 sh n (some (0, 3, 0))) (F' := up2 (up2 (up2 (up2 (up2 (zap F n 0) 304 n (nI 1)) 305 n (nI 0)) 300 n (nI so)) 302 n le) 904 (x + 72) (nI (T.1 8 0 + 1))) (R' := up2 (up2 (zap R n none) 301 n (some (ba b))) 303 n (some wr)) (A' := A) (B' := up2 B (x + 73) (T.1 8 0) (some n)) h hT hb (Nat.le_refl _) (by omega) (fun a ha => up1_ne (by omega)) (fun q a ha hq => by rw [up2_o (by omega)]; exact hF1 q a ha) (fun q a ha => by rw [up2_o (by omega), up2_o (by omega), zap_ne (by omega)]) (fun _ _ => rfl) (fun a ha => up2_row ha) (fun j hj => up2_a hj) up2_eq up2_eq up1_eq ⟨by rw [up2_o (by omega), up2_o (by omega), up2_eq], by rw [up2_o (by omega), up2_eq], by rw [up2_o (by omega), up2_eq], by rw [up2_o (by omega), up2_o (by omega), up2_o (by omega), up2_o (by omega), up2_eq], by rw [up2_o (by omega), up2_o (by omega), up2_o (by omega), up2_eq]⟩ (fun g => by
    obtain ⟨l1, l2, l3, l4, l5, l6, l7⟩ := hL g
    refine ⟨wr, up2_eq, l1, by omega, ?_, ?_, ?_, ?_, l7⟩
    · rw [up1_ne (by omega)]; exact l3
    · rw [up2_o (by omega), up2_o (by omega), zap_ne (by omega)]; exact l4
    · rw [up1_ne (by omega)]; exact l5
    · rw [up2_o (by omega), hF1 _ _ (by omega)]; exact l6)
  exact hQ _ _ _ _ _ q1 q2
/-- a message that is no letter, if there is room -/
theorem k_Wpost {so : Nat} {le : Int32} (h : XS n sh F R A B x ba ma T) (hT : okT T) (hb : isB3 T.1 b) (hso : so ≠ 3)
    (hQ0 : 200 ≤ T.1 8 0 → Q (some (.int (nI 0))) (mkh n u sh F R A B))
    (hQ1 : T.1 8 0 < 200 → ∀ sh' F' R' B' ma', XS (n + 1) sh' F' R' A B' x ba ma' (puT T so (b5 b) le 0 (fun _ => 0)) → frX x n sh F R A (n + 1) sh' F' R' A → Q (some (.int (nI 1))) (mkh (n + 1) (u + 6) sh' F' R' A B')) :
    rc_ (k + 3) mX9_post [.ref (x + 72), .int (nI so), .ref (ba b), .int le] (mkh n u sh F R A B) Q := by
  obtain ⟨hx, hX, hTO, hDr, hBk, hPk, hGm, hSm, hWi, hRd⟩ := id h
  have s72 := hX.s 72 0 9 0 (by decide)
  have r74 := hX.r 902 72 74 (by decide)
  rw [eX9_post]
  simp only [rX9_post_0, rX9_post_1, rX9_post_2, rX9_post_2_n, rX9_post_3, rX9_post_4, rX9_post_5, s72, r74, up2_eq, va_rf, eq_self, or_true, true_or, Option.toList_some, Option.toList_none, List.cons_append, List.nil_append, if_true, if_false]
  rw [rX9_post_8 s72]
  by_cases c : T.1 8 0 < 200
  · refine k_Wput (lm := 0) (L := fun _ => 0) h hT hb c (fun g => absurd g hso) ?_
    intro sh' F' R' B' ma' q1 q2
    simp only [rX9_post_11, up2_eq, va_rf, eq_self, or_true, true_or, Option.toList_some, Option.toList_none, List.cons_append, List.nil_append, if_true, if_false]
    exact hQ1 c _ _ _ _ _ q1 q2
  · rw [eX9_put]
    simp only [rX9_put_0]
    have g1 : ¬ nI 1 = nI 0 := by decide
    rw [rX9_put_1 s72, k_Wfull hX hWi hT.2.2.2.2.2.2.1.1, if_neg c]
    simp only [rX9_put_4, rX9_put_7, rX9_put_8, g1, up2_eq, va_rf, eq_self, or_true, true_or, Option.toList_some, Option.toList_none, List.cons_append, List.nil_append, if_true, if_false]
    simp only [rX9_post_11, up2_eq, va_rf, eq_self, or_true, true_or, Option.toList_some, Option.toList_none, List.cons_append, List.nil_append, if_true, if_false]
    exact hQ0 (by omega)
def s_offer (T : TT) (i : Int32) : Int32 × TT := match ix i (T.1 2 0) with
  | none => (-3, T)
  | some b => if T.1 18 b = 2 ∨ T.1 18 b = 3 then (-4, T) else if 200 ≤ T.1 8 0 then (-5, T) else (nI (T.1 8 0 + 1), bvT (puT T 0 (b5 b) (-1) 0 (fun _ => 0)) b 1 (T.1 19 b) (T.1 20 b) (T.2.2 2 b) (T.2.2 3 b) (T.2.2 4 b))
theorem okT_isB3 {N N' : tN} (h : N' 2 0 = N 2 0) (hb : isB3 N b) : isB3 N' b := by
  unfold isB3 at *
  rw [h]
  exact hb
theorem puT_b {so b1 lm q : Nat} {le : Int32} {L : Nat → Nat} (hq : q ≠ 8 ∧ q ≠ 9 ∧ q ≠ 10 ∧ q ≠ 11 ∧ q ≠ 12 ∧ q ≠ 21) {m : Nat} : (puT T so b1 le lm L).1 q m = T.1 q m := by
  unfold puT
  dsimp only
  rw [up2_k hq.2.2.2.2.2, up2_k hq.2.2.2.2.1, up2_k hq.2.2.2.1, up2_k hq.2.2.1, up2_k hq.2.1, up2_k hq.1]
theorem bkV_at (h : XS n sh F R A B x ba ma T) (hb : isB3 T.1 b) : sh (ba b) = some (0, 0, 0) ∧ bkV F (ba b) (nm3 b) (T.1 18 b) (T.1 19 b) (T.1 20 b) (T.2.2 2 b) (T.2.2 3 b) (T.2.2 4 b) := ⟨(h.2.2.2.2.1.2.2.2.2 b hb).1.1, (h.2.2.2.2.1.2.2.2.2 b hb).2.2⟩
/-- a book's state is set behind a message -/
theorem XS_pst {st so : Nat} {le : Int32} (h : XS n sh F R A B x ba ma (puT T so (b5 b) le 0 (fun _ => 0))) (hT : okT T) (hb : isB3 T.1 b) : XS n sh (up2 F 3 (ba b) (nI st)) R A B x ba ma (bvT (puT T so (b5 b) le 0 (fun _ => 0)) b st (T.1 19 b) (T.1 20 b) (T.2.2 2 b) (T.2.2 3 b) (T.2.2 4 b)) ∧ frX x n sh F R A n sh (up2 F 3 (ba b) (nI st)) R A := by
  obtain ⟨hx, hX, hTO, hDr, hBk, hPk, hGm, hSm, hWi, hRd⟩ := id h
  have hb' : isB3 (puT T so (b5 b) le 0 (fun _ => 0)).1 b := okT_isB3 (puT_b (by decide)) hb
  have h24 := hT.2.2.2.1.1
  obtain ⟨-, v1, v2, v3, v4, v5, v6, v7⟩ := bkV_at h hb'
  have hok : (puT T so (b5 b) le 0 (fun _ => 0)).1 2 0 ≤ 24 := by rw [puT_b (by decide)]; exact h24
  have key : ∀ F' : hF_, (∀ q a, ¬ (3 ≤ q ∧ q ≤ 8 ∧ a = ba b) → F' q a = F q a) → bkV F' (ba b) (nm3 b) st (T.1 19 b) (T.1 20 b) (T.2.2 2 b) (T.2.2 3 b) (T.2.2 4 b) → XS n sh F' R A B x ba ma (bvT (puT T so (b5 b) le 0 (fun _ => 0)) b st (T.1 19 b) (T.1 20 b) (T.2.2 2 b) (T.2.2 3 b) (T.2.2 4 b)) ∧ frX x n sh F R A n sh F' R A := by
    intro F' g1 g2
    exact XS_bk' h hok hb' g1 g2
  refine key _ (fun q a hq => up2_o (by omega)) ⟨?_, up2_eq, ?_, ?_, ?_, ?_, ?_⟩
  · rw [up2_k (by decide)]; exact v1
  · rw [up2_k (by decide)]; exact v3
  · rw [up2_k (by decide)]; rw [puT_b (by decide)] at v4; exact v4
  · rw [up2_k (by decide)]; rw [puT_b (by decide)] at v5; exact v5
  · rw [up2_k (by decide)]; exact v6
  · rw [up2_k (by decide)]; exact v7
theorem c_offer {i : Int32} (h : XS n sh F R A B x ba ma T) (hT : okT T) (hQ : xPost n u sh F R A x (s_offer T i) Q) : rc_ (k + 8) mX11_offer [.ref x, .int i] (mkh n u sh F R A B) Q := by
  obtain ⟨hx, hX, hTO, hDr, hBk, hPk, hGm, hSm, hWi, hRd⟩ := id h
  have r9 := hX.r0 1103 9 (by decide)
  have r72 := hX.r0 1109 72 (by decide)
  have s0 := hX.s0
  have s9 := hX.s 9 0 7 0 (by decide)
  have s72 := hX.s 72 0 9 0 (by decide)
  have hS := hX.shelf hBk hT.2.2.2.1.1
  rw [eX11_offer]
  simp only [rX11_offer_0, rX11_offer_1, rX11_offer_4, s0, r9, up2_eq, va_rf, eq_self, or_true, true_or, Option.toList_some, Option.toList_none, List.cons_append, List.nil_append, if_true, if_false]
  rw [rX11_offer_5 s9, k_Shelf_find hS, fnd_ix]
  unfold s_offer at hQ
  cases hi : ix i (T.1 2 0) with
  | none =>
    rw [hi] at hQ
    simp only [Option.map_none, rX11_offer_8, rX11_offer_8_n, rX11_offer_9, rX11_offer_9_n, rX11_offer_10, rX11_offer_10_n, rX11_offer_13, rX11_offer_15, up2_eq, va_rf, eq_self, or_true, true_or, Option.toList_some, Option.toList_none, List.cons_append, List.nil_append, if_true, if_false]
    exact xPost_same hQ h
  | some b =>
    rw [hi] at hQ
    obtain ⟨hb, -, -⟩ := ix_some hi
    have hb3 : isB3 T.1 b := Or.inl hb
    obtain ⟨a1, v1, v2, -⟩ := bkV_at h hb3
    have h18 := (hT.2.2.2.1.2.1 b hb3).2.1
    dsimp only at hQ
    by_cases c1 : T.1 18 b = 2
    · rw [if_pos (Or.inl c1)] at hQ
      rw [c1] at v2
      simp only [Option.map_some, rX11_offer_8, rX11_offer_8_n, rX11_offer_9, rX11_offer_9_n, rX11_offer_10, rX11_offer_10_n, rX11_offer_16, rX11_offer_16_n, rX11_offer_17, rX11_offer_20, rX11_offer_21, rX11_offer_32, rX11_offer_34, a1, v2, up2_eq, va_rf, eq_self, or_true, true_or, Option.toList_some, Option.toList_none, List.cons_append, List.nil_append, if_true, if_false]
      exact xPost_same hQ h
    have g1 : ¬ nI (T.1 18 b) = nI 2 := by rw [nI_eq (by omega) (by omega)]; exact c1
    by_cases c2 : T.1 18 b = 3
    · rw [if_pos (Or.inr c2)] at hQ
      have g2 : nI (T.1 18 b) = nI 3 := by rw [c2]
      rw [g2] at g1 v2
      simp only [Option.map_some, rX11_offer_8, rX11_offer_8_n, rX11_offer_9, rX11_offer_9_n, rX11_offer_10, rX11_offer_10_n, rX11_offer_16, rX11_offer_16_n, rX11_offer_17, rX11_offer_20, rX11_offer_21, rX11_offer_24, rX11_offer_24_n, rX11_offer_25, rX11_offer_28, rX11_offer_29, rX11_offer_32, rX11_offer_34, a1, v2, g1, up2_eq, va_rf, eq_self, or_true, true_or, Option.toList_some, Option.toList_none, List.cons_append, List.nil_append, if_true, if_false]
      exact xPost_same hQ h
    rw [if_neg (fun e => e.elim c1 c2)] at hQ
    have g2 : ¬ nI (T.1 18 b) = nI 3 := by rw [nI_eq (by omega) (by omega)]; exact c2
    simp only [Option.map_some, rX11_offer_8, rX11_offer_8_n, rX11_offer_9, rX11_offer_9_n, rX11_offer_10, rX11_offer_10_n, rX11_offer_16, rX11_offer_16_n, rX11_offer_17, rX11_offer_20, rX11_offer_21, rX11_offer_24, rX11_offer_24_n, rX11_offer_25, rX11_offer_28, rX11_offer_29, rX11_offer_35, rX11_offer_36, rX11_offer_39, rX11_offer_40, rX11_offer_40_n, rX11_offer_41, a1, v2, g1, g2, s0, r72, up2_eq, va_rf, eq_self, or_true, true_or, Option.toList_some, Option.toList_none, List.cons_append, List.nil_append, if_true, if_false]
    rw [rX11_offer_42 s72]
    refine k_Wpost (k := k + 4) h hT hb3 (by decide) (fun c => ?_) (fun c sh1 F1 R1 B1 ma1 q1 q2 => ?_)
    · rw [if_pos c] at hQ
      simp only [rX11_offer_45, rX11_offer_48, rX11_offer_50, up2_eq, va_rf, eq_self, or_true, true_or, Option.toList_some, Option.toList_none, List.cons_append, List.nil_append, if_true, if_false]
      exact xPost_same hQ h
    · rw [if_neg (by omega)] at hQ
      have g3 : ¬ nI 1 = nI 0 := by decide
      obtain ⟨p1, p2⟩ := XS_pst (st := 1) q1 hT hb3
      have a1' := (bkV_at q1 (okT_isB3 (puT_b (by decide)) hb3)).1
      have s0' := q1.2.1.s0
      have r72' := q1.2.1.r0 1109 72 (by decide)
      have s72' := q1.2.1.s 72 0 9 0 (by decide)
      have e904 := p1.2.2.2.2.2.2.2.2.1.1
      simp only [rX11_offer_45, rX11_offer_51, rX11_offer_51_n, rX11_offer_52, rX11_offer_53, rX11_offer_56, rX11_offer_57, rX11_offer_60, rX11_offer_63, g3, a1', s0', r72', s72', e904, up2_eq, va_rf, eq_self, or_true, true_or, Option.toList_some, Option.toList_none, List.cons_append, List.nil_append, if_true, if_false]
      exact hQ (n + 1) (u + 6) _ _ _ _ _ _ _ p1 (frX_trans q2 p2) (by omega) (by omega)
def s_over (T : TT) (i : Int32) : Int32 × TT := match ix i (T.1 2 0) with
  | none => (-3, T)
  | some b => if T.1 18 b ≠ 2 then (-4, T) else if 200 ≤ T.1 8 0 then (-5, T) else (nI (T.1 8 0 + 1), bvT (puT T 4 (b5 b) (T.2.2 2 b) 0 (fun _ => 0)) b 3 (T.1 19 b) (T.1 20 b) (T.2.2 2 b) (T.2.2 3 b) (T.2.2 4 b))
theorem c_over {i : Int32} (h : XS n sh F R A B x ba ma T) (hT : okT T) (hQ : xPost n u sh F R A x (s_over T i) Q) : rc_ (k + 8) mX11_over [.ref x, .int i] (mkh n u sh F R A B) Q := by
  obtain ⟨hx, hX, hTO, hDr, hBk, hPk, hGm, hSm, hWi, hRd⟩ := id h
  have r9 := hX.r0 1103 9 (by decide)
  have r72 := hX.r0 1109 72 (by decide)
  have s0 := hX.s0
  have s9 := hX.s 9 0 7 0 (by decide)
  have s72 := hX.s 72 0 9 0 (by decide)
  have hS := hX.shelf hBk hT.2.2.2.1.1
  rw [eX11_over]
  simp only [rX11_over_0, rX11_over_1, rX11_over_4, s0, r9, up2_eq, va_rf, eq_self, or_true, true_or, Option.toList_some, Option.toList_none, List.cons_append, List.nil_append, if_true, if_false]
  rw [rX11_over_5 s9, k_Shelf_find hS, fnd_ix]
  unfold s_over at hQ
  cases hi : ix i (T.1 2 0) with
  | none =>
    rw [hi] at hQ
    simp only [Option.map_none, rX11_over_8, rX11_over_8_n, rX11_over_9, rX11_over_9_n, rX11_over_10, rX11_over_10_n, rX11_over_13, rX11_over_15, up2_eq, va_rf, eq_self, or_true, true_or, Option.toList_some, Option.toList_none, List.cons_append, List.nil_append, if_true, if_false]
    exact xPost_same hQ h
  | some b =>
    rw [hi] at hQ
    obtain ⟨hb, -, -⟩ := ix_some hi
    have hb3 : isB3 T.1 b := Or.inl hb
    obtain ⟨a1, v1, v2, v3, -⟩ := bkV_at h hb3
    have h18 := (hT.2.2.2.1.2.1 b hb3).2.1
    dsimp only at hQ
    by_cases c1 : T.1 18 b = 2
    · rw [if_neg (fun e => e c1)] at hQ
      rw [c1] at v2
      simp only [Option.map_some, rX11_over_8, rX11_over_8_n, rX11_over_9, rX11_over_9_n, rX11_over_10, rX11_over_10_n, rX11_over_16, rX11_over_16_n, rX11_over_17, rX11_over_20, rX11_over_21, rX11_over_27, rX11_over_28, rX11_over_31, rX11_over_32, rX11_over_32_n, rX11_over_33, rX11_over_33_n, rX11_over_34, a1, v2, v3, s0, r72, up2_eq, va_rf, eq_self, or_true, true_or, Option.toList_some, Option.toList_none, List.cons_append, List.nil_append, if_true, if_false]
      rw [rX11_over_37 s72]
      refine k_Wpost (k := k + 4) h hT hb3 (by decide) (fun c => ?_) (fun c sh1 F1 R1 B1 ma1 q1 q2 => ?_)
      · rw [if_pos c] at hQ
        simp only [rX11_over_40, rX11_over_43, rX11_over_45, up2_eq, va_rf, eq_self, or_true, true_or, Option.toList_some, Option.toList_none, List.cons_append, List.nil_append, if_true, if_false]
        exact xPost_same hQ h
      · rw [if_neg (by omega)] at hQ
        have g3 : ¬ nI 1 = nI 0 := by decide
        obtain ⟨p1, p2⟩ := XS_pst (st := 3) q1 hT hb3
        have a1' := (bkV_at q1 (okT_isB3 (puT_b (by decide)) hb3)).1
        have s0' := q1.2.1.s0
        have r72' := q1.2.1.r0 1109 72 (by decide)
        have s72' := q1.2.1.s 72 0 9 0 (by decide)
        have e904 := p1.2.2.2.2.2.2.2.2.1.1
        simp only [rX11_over_40, rX11_over_46, rX11_over_46_n, rX11_over_47, rX11_over_48, rX11_over_51, rX11_over_52, rX11_over_55, rX11_over_58, g3, a1', s0', r72', s72', e904, up2_eq, va_rf, eq_self, or_true, true_or, Option.toList_some, Option.toList_none, List.cons_append, List.nil_append, if_true, if_false]
        exact hQ (n + 1) (u + 6) _ _ _ _ _ _ _ p1 (frX_trans q2 p2) (by omega) (by omega)
    · rw [if_pos c1] at hQ
      have g1 : ¬ nI (T.1 18 b) = nI 2 := by rw [nI_eq (by omega) (by omega)]; exact c1
      simp only [Option.map_some, rX11_over_8, rX11_over_8_n, rX11_over_9, rX11_over_9_n, rX11_over_10, rX11_over_10_n, rX11_over_16, rX11_over_16_n, rX11_over_17, rX11_over_20, rX11_over_21, rX11_over_24, rX11_over_26, a1, v2, g1, up2_eq, va_rf, eq_self, or_true, true_or, Option.toList_some, Option.toList_none, List.cons_append, List.nil_append, if_true, if_false]
      exact xPost_same hQ h
def s_twice (T : TT) (i : Int32) : Int32 × TT := match ix i (T.1 8 0) with
  | none => (-3, T)
  | some m => if 3 ≤ T.1 11 m then (-4, T) else (nI (T.1 11 m + 1), msT T m (T.1 11 m + 1) (T.1 21 m))
theorem c_twice {i : Int32} (h : XS n sh F R A B x ba ma T) (hT : okT T) (hQ : xPost n u sh F R A x (s_twice T i) Q) : rc_ (k + 8) mX11_twice [.ref x, .int i] (mkh n u sh F R A B) Q := by
  obtain ⟨hx, hX, hTO, hDr, hBk, hPk, hGm, hSm, hWi, hRd⟩ := id h
  have s0 := hX.s0
  have h72 := hX.s 72 0 9 0 (by decide)
  have r72 := hX.r0 1109 72 (by decide)
  rw [eX11_twice]
  simp only [rX11_twice_0, rX11_twice_1, rX11_twice_4, s0, r72, up2_eq, va_rf, eq_self, or_true, true_or, Option.toList_some, Option.toList_none, List.cons_append, List.nil_append, if_true, if_false]
  rw [rX11_twice_5 h72, k_Wfind hX hWi hT.2.2.2.2.2.2.1.1]
  unfold s_twice at hQ
  cases hi : ix i (T.1 8 0) with
  | none =>
    rw [hi] at hQ
    simp only [Option.map_none, rX11_twice_8, rX11_twice_8_n, rX11_twice_9, rX11_twice_9_n, rX11_twice_10, rX11_twice_10_n, rX11_twice_13, rX11_twice_15, up2_eq, va_rf, eq_self, or_true, true_or, Option.toList_some, Option.toList_none, List.cons_append, List.nil_append, if_true, if_false]
    exact xPost_same hQ h
  | some m =>
    rw [hi] at hQ
    obtain ⟨hm, -, -⟩ := ix_some hi
    obtain ⟨b1, b2, b3, b4, ⟨v1, v2, v3, v4, v5⟩, -⟩ := hWi.2.2.2.2.2.1 m hm
    have o5 := (hT.2.2.2.2.2.2.1.2.1 m hm).2.2.2.2.1
    dsimp only at hQ
    by_cases c : 3 ≤ T.1 11 m
    · rw [if_pos c] at hQ
      have g1 : ¬ nI (T.1 11 m) < nI 3 := nI_nlt c (by omega)
      simp only [Option.map_some, rX11_twice_8, rX11_twice_8_n, rX11_twice_9, rX11_twice_9_n, rX11_twice_10, rX11_twice_10_n, rX11_twice_16, rX11_twice_16_n, rX11_twice_17, rX11_twice_20, rX11_twice_21, rX11_twice_24, rX11_twice_26, b4, v4, g1, up2_eq, va_rf, eq_self, or_true, true_or, Option.toList_some, Option.toList_none, List.cons_append, List.nil_append, if_true, if_false]
      exact xPost_same hQ h
    · rw [if_neg c] at hQ
      have g1 : nI (T.1 11 m) < nI 3 := nI_lt (by omega) (by omega)
      simp only [Option.map_some, rX11_twice_8, rX11_twice_8_n, rX11_twice_9, rX11_twice_9_n, rX11_twice_10, rX11_twice_10_n, rX11_twice_16, rX11_twice_16_n, rX11_twice_17, rX11_twice_20, rX11_twice_21, rX11_twice_27, rX11_twice_27_n, rX11_twice_28, rX11_twice_29, rX11_twice_32, rX11_twice_33, rX11_twice_34, rX11_twice_37, rX11_twice_37_n, rX11_twice_38, rX11_twice_41, b4, v4, g1, nI_add, up2_eq, va_rf, eq_self, or_true, true_or, Option.toList_some, Option.toList_none, List.cons_append, List.nil_append, if_true, if_false]
      obtain ⟨q1, q2⟩ := XS_ms (F' := up2 F 304 (ma m) (nI (T.1 11 m + 1))) (uw := T.1 11 m + 1) (fa := T.1 21 m) h hm (fun q a hq => up2_o (by omega)) up2_eq (by rw [up2_k (by decide)]; exact v5)
      exact hQ n u _ _ _ _ _ _ _ q1 q2 (by omega) (by omega)
end WIR
