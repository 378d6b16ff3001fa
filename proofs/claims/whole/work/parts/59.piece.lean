/-! ===== the class: piece, sample, forget, gained ===== -/
def bEq (T T' : TT) (b : Nat) : Prop := T'.1 3 b = T.1 3 b ∧ T'.1 4 b = T.1 4 b ∧ T'.1 5 b = T.1 5 b ∧ T'.2.1 3 b = T.2.1 3 b ∧ T'.2.1 0 b = T.2.1 0 b
def vEq (T T' : TT) (b : Nat) : Prop := T'.1 18 b = T.1 18 b ∧ T'.1 19 b = T.1 19 b ∧ T'.1 20 b = T.1 20 b ∧ T'.2.2 2 b = T.2.2 2 b ∧ T'.2.2 3 b = T.2.2 3 b ∧ T'.2.2 4 b = T.2.2 4 b
def mEq (T T' : TT) (m : Nat) : Prop := T'.1 9 m = T.1 9 m ∧ T'.1 10 m = T.1 10 m ∧ T'.1 11 m = T.1 11 m ∧ T'.1 12 m = T.1 12 m ∧ T'.1 21 m = T.1 21 m ∧ T'.2.2 5 m = T.2.2 5 m ∧ T'.2.1 2 m = T.2.1 2 m
theorem wrT_cg {T T' : TT} {b m : Nat} {L : Nat → Nat} (h : bEq T T' b) : wrT T'.1 T'.2.1 b m L = wrT T.1 T.2.1 b m L := by
  obtain ⟨h1, h2, h3, h4, h5⟩ := h
  unfold wrT plT
  rw [h1, h2, h3, h4, h5]
section PCE
variable {k n u : Nat} {sh : hs_} {F F' : hF_} {R R' : hR_} {A A' : hF_} {B : hR_} {Q : Option Value → pm_H → Prop} {x : Nat} {ba ma : Nat → Nat} {T T' : TT}
theorem xBk_T (h : xBk n sh F R A B x ba T) (h2 : T'.1 2 0 = T.1 2 0) (hb : ∀ b, isB3 T.1 b → bEq T T' b ∧ vEq T T' b) : xBk n sh F R A B x ba T' := by
  obtain ⟨a1, a2, a3, a4, a5⟩ := h
  refine ⟨by rw [h2]; exact a1, a2, fun b hb' => a3 b (by omega), fun b b' g1 g2 => a4 b b' g1 (by omega), fun b hb' => ?_⟩
  have hb3 : isB3 T.1 b := by
    unfold isB3 at hb' ⊢
    omega
  obtain ⟨⟨e1, e2, e3, e4, e5⟩, e6, e7, e8, e9, e10, e11⟩ := hb b hb3
  rw [e1, e2, e3, e4, e5, e6, e7, e8, e9, e10, e11]
  exact a5 b hb3
theorem xWi_T (h : xWi n sh F R A B x ba ma T) (h8 : T'.1 8 0 = T.1 8 0) (h13 : T'.1 13 0 = T.1 13 0) (h6 : T'.2.2 6 0 = T.2.2 6 0) (h7 : T'.2.2 7 0 = T.2.2 7 0) (h9 : T'.2.2 8 0 = T.2.2 8 0) (hm : ∀ m, m < T.1 8 0 → mEq T T' m) (hb : ∀ m, m < T.1 8 0 → bEq T T' (mbk T.1 m)) : xWi n sh F R A B x ba ma T' := by
  obtain ⟨a1, a2, a3, a4, a5, a6, a7⟩ := h
  refine ⟨by rw [h8]; exact a1, by rw [h6]; exact a2, by rw [h7]; exact a3, by rw [h9]; exact a4, by rw [h13]; exact a5, fun m hm' => ?_, fun m m' g1 g2 => a7 m m' g1 (by omega)⟩
  rw [h8] at hm'
  obtain ⟨e1, e2, e3, e4, e5, e6, e7⟩ := hm m hm'
  have e8 : mbk T'.1 m = mbk T.1 m := by unfold mbk; rw [e2]
  rw [e1, e3, e4, e5, e6, e7, e8, wrT_cg (hb m hm')]
  exact a6 m hm'
theorem isB3_24 {N : tN} {b : Nat} (h : isB3 N b) (h24 : N 2 0 ≤ 24) : b ≠ 24 := by
  unfold isB3 at h
  omega
def s_piece (T : TT) : Int32 × TT :=
  if T.1 0 0 = 0 ∨ 200 < T.1 0 0 then (-3, (sTO T.1 0 (T.1 1 0) (T.1 30) (T.1 31), T.2)) else if 20 ≤ T.1 4 24 then (-5, (sTO T.1 0 (T.1 1 0) (T.1 30) (T.1 31), T.2))
  else (nI (T.1 4 24 + 1), (up2 (up2 (sTO T.1 0 (T.1 1 0) (T.1 30) (T.1 31)) 4 24 (T.1 4 24 + 1)) 5 24 (T.1 5 24 + T.1 0 0), up2 (up2 T.2.1 3 24 (apE (T.2.1 3 24) (T.1 4 24) (T.1 5 24 + T.1 0 0))) 0 24 (fun j => if j < T.1 5 24 then T.2.1 0 24 j else T.1 30 (j - T.1 5 24)), T.2.2))
theorem XS_clr (h : XS n sh F R A B x ba ma T) : XS n sh (up2 F 101 (x + 1) (nI 0)) R A B x ba ma (sTO T.1 0 (T.1 1 0) (T.1 30) (T.1 31), T.2) ∧ frX x n sh F R A n sh (up2 F 101 (x + 1) (nI 0)) R A := by
  obtain ⟨hx, hX, hTO, hDr, hBk, hPk, hGm, hSm, hWi, hRd⟩ := id h
  exact XS_TO h (fun q a hq => up2_o (by omega)) (fun _ _ _ => rfl) (fun _ _ => rfl) up2_eq (fun j hj => absurd hj (Nat.not_lt_zero _)) (by rw [up2_o (by omega)]; exact hTO.2.1) hTO.2.2 (xRd_cong hRd (fun a ha => up2_o (by omega)))
theorem c_piece (h : XS n sh F R A B x ba ma T) (hT : okT T) (hQ : xPost n u sh F R A x (s_piece T) Q) : rc_ (k + 8) mX11_piece [.ref x] (mkh n u sh F R A B) Q := by
  obtain ⟨hx, hX, hTO, hDr, hBk, hPk, hGm, hSm, hWi, hRd⟩ := id h
  have r1 := hX.r0 1100 1 (by decide)
  have r5 := hX.r0 1102 5 (by decide)
  have s0 := hX.s0
  have t1 := hX.s 1 0 1 0 (by decide)
  have t5 := hX.s 5 0 5 0 (by decide)
  obtain ⟨d1, d2, d3, d4⟩ := hT.2.2.1
  have hP := hX.draft hDr d1 d2 (fun q hq => (d3 q hq).2)
  have hB := hX.tape hTO hT.1.1
  have t0 := hT.1.1
  have d24 := hT.2.2.2.1.1
  have dsum := okE_sum _ d2 (fun q hq => (d3 q hq).2) (T.1 4 24) (Nat.le_refl _)
  rw [d2.2] at dsum
  rw [eX11_piece]
  simp only [rX11_piece_0]
  rw [rX11_piece_1 s0, eX11_draftPiece]
  obtain ⟨w1, w2⟩ := XS_clr h
  unfold s_piece at hQ
  by_cases c0 : T.1 0 0 = 0
  · rw [if_pos (Or.inl c0)] at hQ
    have g0 : nI (T.1 0 0) = nI 0 := by rw [c0]
    simp only [rX11_draftPiece_0, rX11_draftPiece_1, rX11_draftPiece_4, rX11_draftPiece_7, rX11_draftPiece_23, rX11_draftPiece_25, s0, r1, t1, hTO.1.1, g0, up2_eq, va_rf, eq_self, or_true, true_or, Option.toList_some, Option.toList_none, List.cons_append, List.nil_append, if_true, if_false]
    simp only [rX11_piece_4, rX11_piece_5, rX11_piece_6, s0, r1, up2_eq, va_rf, eq_self, or_true, true_or, Option.toList_some, Option.toList_none, List.cons_append, List.nil_append, if_true, if_false]
    rw [rX11_piece_9 t1, k_Bytes_clear t1]
    simp only [rX11_piece_12, rX11_piece_13, up2_eq, va_rf, eq_self, or_true, true_or, Option.toList_some, Option.toList_none, List.cons_append, List.nil_append, if_true, if_false]
    exact hQ n u _ _ _ _ _ _ _ w1 w2 (by omega) (by omega)
  have g0 : ¬ nI (T.1 0 0) = nI 0 := nI_ne0 (by omega) (by omega)
  by_cases c1 : 200 < T.1 0 0
  · rw [if_pos (Or.inr c1)] at hQ
    have g1 : ¬ nI (T.1 0 0) ≤ nI 200 := nI_ge c1 (by omega)
    simp only [rX11_draftPiece_0, rX11_draftPiece_1, rX11_draftPiece_4, rX11_draftPiece_7, rX11_draftPiece_10, rX11_draftPiece_11, rX11_draftPiece_14, rX11_draftPiece_17, rX11_draftPiece_20, rX11_draftPiece_23, rX11_draftPiece_25, s0, r1, t1, hTO.1.1, g0, g1, up2_eq, va_rf, eq_self, or_true, true_or, Option.toList_some, Option.toList_none, List.cons_append, List.nil_append, if_true, if_false]
    simp only [rX11_piece_4, rX11_piece_5, rX11_piece_6, s0, r1, up2_eq, va_rf, eq_self, or_true, true_or, Option.toList_some, Option.toList_none, List.cons_append, List.nil_append, if_true, if_false]
    rw [rX11_piece_9 t1, k_Bytes_clear t1]
    simp only [rX11_piece_12, rX11_piece_13, up2_eq, va_rf, eq_self, or_true, true_or, Option.toList_some, Option.toList_none, List.cons_append, List.nil_append, if_true, if_false]
    exact hQ n u _ _ _ _ _ _ _ w1 w2 (by omega) (by omega)
  rw [if_neg (fun e => e.elim c0 c1)] at hQ
  have g1 : nI (T.1 0 0) ≤ nI 200 := nI_le (by omega) (by omega)
  by_cases c2 : 20 ≤ T.1 4 24
  · rw [if_pos c2] at hQ
    have g2 : ¬ nI (T.1 4 24) < nI 20 := nI_nlt c2 (by omega)
    simp only [rX11_draftPiece_0, rX11_draftPiece_1, rX11_draftPiece_4, rX11_draftPiece_7, rX11_draftPiece_10, rX11_draftPiece_11, rX11_draftPiece_14, rX11_draftPiece_17, rX11_draftPiece_20, rX11_draftPiece_26, rX11_draftPiece_27, rX11_draftPiece_30, rX11_draftPiece_33, rX11_draftPiece_35, rX11_draftPiece_38, rX11_draftPiece_40, s0, r1, t1, r5, t5, hDr.1, hTO.1.1, g0, g1, g2, up2_eq, va_rf, eq_self, or_true, true_or, Option.toList_some, Option.toList_none, List.cons_append, List.nil_append, if_true, if_false]
    simp only [rX11_piece_4, rX11_piece_5, rX11_piece_6, s0, r1, up2_eq, va_rf, eq_self, or_true, true_or, Option.toList_some, Option.toList_none, List.cons_append, List.nil_append, if_true, if_false]
    rw [rX11_piece_9 t1, k_Bytes_clear t1]
    simp only [rX11_piece_12, rX11_piece_13, up2_eq, va_rf, eq_self, or_true, true_or, Option.toList_some, Option.toList_none, List.cons_append, List.nil_append, if_true, if_false]
    exact hQ n u _ _ _ _ _ _ _ w1 w2 (by omega) (by omega)
  rw [if_neg c2] at hQ
  have g2 : nI (T.1 4 24) < nI 20 := nI_lt (by omega) (by omega)
  simp only [rX11_draftPiece_0, rX11_draftPiece_1, rX11_draftPiece_4, rX11_draftPiece_7, rX11_draftPiece_10, rX11_draftPiece_11, rX11_draftPiece_14, rX11_draftPiece_17, rX11_draftPiece_20, rX11_draftPiece_26, rX11_draftPiece_27, rX11_draftPiece_30, rX11_draftPiece_33, rX11_draftPiece_35, rX11_draftPiece_41, rX11_draftPiece_42, rX11_draftPiece_45, rX11_draftPiece_46, rX11_draftPiece_49, rX11_draftPiece_50, rX11_draftPiece_51, rX11_draftPiece_54, s0, r1, t1, r5, t5, hDr.1, hTO.1.1, g0, g1, g2, up2_eq, va_rf, eq_self, or_true, true_or, Option.toList_some, Option.toList_none, List.cons_append, List.nil_append, if_true, if_false]
  rw [rX11_draftPiece_57 t5, k_Pieces_append hP hB (by omega) (by omega) (by omega) (fun e => by omega) (fun j hj => by rw [hTO.1.2 j hj]; exact nI_byte (hT.1.2 j hj))]
  simp only [rX11_draftPiece_60, rX11_draftPiece_61, rX11_draftPiece_64, rX11_draftPiece_67, s0, r5, t5, up2_eq, va_rf, eq_self, or_true, true_or, Option.toList_some, Option.toList_none, List.cons_append, List.nil_append, if_true, if_false]
  simp only [rX11_piece_4, rX11_piece_5, rX11_piece_6, s0, r1, up2_eq, va_rf, eq_self, or_true, true_or, Option.toList_some, Option.toList_none, List.cons_append, List.nil_append, if_true, if_false]
  rw [rX11_piece_9 t1, k_Bytes_clear t1]
  simp only [rX11_piece_12, rX11_piece_13, up2_eq, va_rf, eq_self, or_true, true_or, Option.toList_some, Option.toList_none, List.cons_append, List.nil_append, if_true, if_false]
  refine hQ n u _ _ _ _ _ ba ma ⟨hx, hX, ?_, ?_, ?_, ?_, ?_, ?_, ?_, ?_⟩ ⟨Nat.le_refl _, fun _ _ => rfl, fun q a _ hq => ⟨by rw [up2_o (by omega), up2_o (by omega), up2_o (by omega)], rfl⟩, fun a ha => by rw [up2_row (by omega), acp_row (by omega)]⟩ (by omega) (by omega)
  · refine ⟨⟨up2_eq, fun j hj => absurd hj (Nat.not_lt_zero _)⟩, ?_, fun j hj => ?_⟩
    · rw [up2_o (by omega), up2_o (by omega), up2_o (by omega)]; exact hTO.2.1
    · rw [up2_row (by omega), acp_row (by omega)]; exact hTO.2.2 j hj
  · refine ⟨?_, ?_, fun q hq => ?_, fun j hj => ?_⟩
    · rw [up2_o (by omega), up2_eq]; rfl
    · rw [up2_o (by omega), up2_o (by omega), up2_eq]; rfl
    · show _ = nI (apE (T.2.1 3 24) (T.1 4 24) (T.1 5 24 + T.1 0 0) q)
      have hq' : q < T.1 4 24 + 1 := hq
      unfold apE
      by_cases e : q = T.1 4 24
      · rw [if_pos e, e, up2_eq]
      · rw [if_neg e, up2_a e, acp_out (Or.inl (by omega))]
        exact hDr.2.2.1 q (by omega)
    · show _ = nI (if j < T.1 5 24 then T.2.1 0 24 j else T.1 30 (j - T.1 5 24))
      have hj' : j < T.1 5 24 + T.1 0 0 := hj
      rw [up2_k (by omega)]
      by_cases e : j < T.1 5 24
      · rw [if_pos e, acp_out (by omega)]
        exact hDr.2.2.2 j e
      · rw [if_neg e, acp_in (by omega) hj', Nat.zero_add]
        exact hTO.1.2 _ (by omega)
  · refine xBk_T (T := T) (xBk_cong hBk hx (Nat.le_refl _) (fun _ _ => rfl) (fun _ _ _ _ => rfl) (fun q a _ hq => by rw [up2_o (by omega), up2_o (by omega), up2_o (by omega)]) (by rw [up2_o (by omega), up2_o (by omega), up2_o (by omega)]) (fun a _ ha => by rw [up2_row (by omega), acp_row (by omega)]) rfl) rfl (fun b hb => ?_)
    have h24 := isB3_24 hb d24
    exact ⟨⟨rfl, (by dsimp only; (repeat rw [up2_o (by omega)]); first | done | rfl), (by dsimp only; (repeat rw [up2_o (by omega)]); first | done | rfl), (by dsimp only; (repeat rw [up2_o (by omega)]); first | done | rfl), (by dsimp only; (repeat rw [up2_o (by omega)]); first | done | rfl)⟩, rfl, rfl, rfl, rfl, rfl, rfl⟩
  · exact xPk_cong (T := T) hPk (by rw [up2_o (by omega), up2_o (by omega), up2_o (by omega)]) (by rw [up2_o (by omega), up2_o (by omega), up2_o (by omega)]) (by rw [up2_o (by omega), up2_o (by omega), up2_o (by omega)]) (fun a _ _ => by rw [up2_row (by omega), acp_row (by omega)])
  · exact xGm_cong hGm (by rw [up2_row (by omega), acp_row (by omega)]) (by rw [up2_row (by omega), acp_row (by omega)])
  · exact xSm_cong (T := T) hSm (fun q hq => by rw [up2_o (by omega), up2_o (by omega), up2_o (by omega)]) (fun a _ _ => by rw [up2_o (by omega), up2_o (by omega), up2_o (by omega)]) (by rw [up2_o (by omega), up2_o (by omega), up2_o (by omega)]) (fun a _ _ => by rw [up2_row (by omega), acp_row (by omega)])
  · refine xWi_T (T := T) (xWi_cong hWi (Nat.le_refl _) (fun _ _ => rfl) (fun _ _ _ _ => rfl) (fun q a _ hq => by rw [up2_o (by omega), up2_o (by omega), up2_o (by omega)]) (fun q _ _ => by rw [up2_o (by omega), up2_o (by omega), up2_o (by omega)]) rfl (fun a _ ha => by rw [up2_row (by omega), acp_row (by omega)]) rfl) rfl rfl rfl rfl rfl (fun m hm => ⟨rfl, rfl, rfl, rfl, rfl, rfl, rfl⟩) (fun m hm => ?_)
    have h24 := isB3_24 (hT.2.2.2.2.2.2.1.2.1 m hm).2.1 d24
    exact ⟨rfl, (by dsimp only; (repeat rw [up2_o (by omega)]); first | done | rfl), (by dsimp only; (repeat rw [up2_o (by omega)]); first | done | rfl), (by dsimp only; (repeat rw [up2_o (by omega)]); first | done | rfl), (by dsimp only; (repeat rw [up2_o (by omega)]); first | done | rfl)⟩
  · exact xRd_cong hRd (fun a ha => by rw [up2_o (by omega), up2_o (by omega), up2_o (by omega)])
end PCE
