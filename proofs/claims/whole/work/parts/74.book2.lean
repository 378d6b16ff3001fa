/-! ===== the class: a book more on the shelf; book ===== -/
section BK2
variable {k n n' u : Nat} {sh sh' : hs_} {F F' : hF_} {R R' : hR_} {A A' : hF_} {B B' : hR_} {Q : Option Value → pm_H → Prop} {x : Nat} {ba ma : Nat → Nat} {T T' : TT} {b m : Nat} {kd c s o r v z e ze : Nat} {E f : Nat → Nat}
theorem k_append7 (h : XS n sh F R A B x ba ma T) (hn24 : T.1 2 0 < 24) (hmb : ∀ m, m < T.1 8 0 → isB3 T.1 (mbk T.1 m)) (hp : isP sh F R A o r v z s e ze c E) (hE : okE E c s) (ho : o < n) (hr : r < n) (hv : v < n) (he : e < n) (hf : ∀ j, j < s → A v j = nI (f j) ∧ f j < 256) (hc : c < 2 ^ 20) (hs : s < 2 ^ 20)
    (hQ : ∀ n' u' sh' F' R' A' B' ba', XS n' sh' F' R' A' B' x ba' ma (apB T kd c s E f) → frX x n sh F R A n' sh' F' R' A' → n' ≤ n + 5 → u' ≤ u + 14 + s + c → Q (some (.int (nI (T.1 2 0)))) (mkh n' u' sh' F' R' A' B')) :
    rc_ (k + 4) mX7_append [.ref (x + 9), .int (nI kd), .ref o] (mkh n u sh F R A B) Q := by
  obtain ⟨hx, hX, hTO, hDr, hBk, hPk, hGm, hSm, hWi, hRd⟩ := id h
  have hS := hX.shelf hBk (by omega)
  have s9 := hX.s 9 0 7 0 (by decide)
  have r10 := hX.r 700 9 10 (by decide)
  have s10 := hX.s 10 2 0 24 (by decide)
  have h701 := hBk.1
  rw [eX7_append]
  simp only [rX7_append_0]
  rw [rX7_append_1 s9, k_Shelf_isFull hS, if_pos hn24]
  simp only [rX7_append_4, rX7_append_10, rX7_append_11, rX7_append_14, rX7_append_15, s9, r10, h701, up2_eq, va_rf, eq_self, or_true, true_or, Option.toList_some, Option.toList_none, List.cons_append, List.nil_append, if_true, if_false]
  rw [rX7_append_18]
  have e9 : up1 sh n (some (0, 0, 0)) (x + 9) = some (0, 7, 0) := by rw [up1_ne (by omega)]; exact s9
  have e701 : zap F n 0 701 (x + 9) = nI (T.1 2 0) := by rw [zap_ne (by omega)]; exact h701
  simp only [rX7_append_21, rX7_append_22, rX7_append_23, rX7_append_26, rX7_append_27, rX7_append_27_n, e9, e701, up2_eq, va_rf, eq_self, or_true, true_or, Option.toList_some, Option.toList_none, List.cons_append, List.nil_append, if_true, if_false]
  obtain ⟨p1, p2, p3, p4, p5, p6, p7, p8, p9⟩ := id hp
  have hp1 : isP (up1 sh n (some (0, 0, 0))) (zap F n 0) (zap R n none) A o r v z s e ze c E :=
    ⟨by rw [up1_ne (by omega)]; exact p1, by rw [zap_ne (by omega)]; exact p2, by rw [zap_ne (by omega)]; exact p3, by rw [up1_ne (by omega)]; exact p4, p5, by rw [zap_ne (by omega)]; exact p6, p7, p8, by rw [up1_ne (by omega)]; exact p9.1, by rw [zap_ne (by omega)]; exact p9.2.1, by rw [up1_ne (by omega)]; exact p9.2.2.1, p9.2.2.2.1, by rw [zap_ne (by omega)]; exact p9.2.2.2.2.1, p9.2.2.2.2.2⟩
  rw [rX7_append_28 hp1.1]
  refine k_copy hp1 hE (by omega) (by omega) (by omega) (by omega) (fun j hj => by rw [(hf j hj).1]; exact nI_byte (hf j hj).2) hc hs ?_
  intro sh2 F2 R2 A2 g1 g2 g3 g4 g5 g6 g7 g8 g9 g10 g11 g12 g13 g14 g15
  simp only [up2_eq, va_rf, eq_self, or_true, true_or, Option.toList_some, Option.toList_none, List.cons_append, List.nil_append, if_true, if_false]
  have en : sh2 n = some (0, 0, 0) := by rw [g1 n (by omega), up1_eq]
  have e9' : sh2 (x + 9) = some (0, 7, 0) := by rw [g1 _ (by omega)]; exact e9
  have e10' : sh2 (x + 10) = some (2, 0, 24) := by rw [g1 _ (by omega), up1_ne (by omega)]; exact s10
  rw [rX7_append_31, k_Book_init en]
  simp only [up2_eq, va_rf, eq_self, or_true, true_or, Option.toList_some, Option.toList_none, List.cons_append, List.nil_append, if_true, if_false]
  rw [rX7_append_34 e10' en (by omega) (by omega)]
  have hF3 : ∀ q a, a < n → up2 (up2 (up2 F2 3 n (nI 0)) 0 n (nI (T.1 2 0))) 1 n (nI kd) q a = F q a := fun q a ha => by rw [up2_o (by omega), up2_o (by omega), up2_o (by omega), g2 q a (by omega), zap_ne (by omega)]
  have e701' : up2 (up2 (up2 F2 3 n (nI 0)) 0 n (nI (T.1 2 0))) 1 n (nI kd) 701 (x + 9) = nI (T.1 2 0) := by rw [hF3 _ _ (by omega)]; exact h701
  have hdec : nI (T.1 2 0 + 1) - nI 1 = nI (T.1 2 0) := nI_sub1 _
  simp only [rX7_append_35, rX7_append_36, rX7_append_37, rX7_append_40, rX7_append_41, rX7_append_42, rX7_append_45, rX7_append_46, rX7_append_49, rX7_append_50, rX7_append_51, e9', e701', nI_add, hdec, up2_eq, va_rf, eq_self, or_true, true_or, Option.toList_some, Option.toList_none, List.cons_append, List.nil_append, if_true, if_false]
  have hz : ∀ q, F2 q n = 0 := fun q => by rw [g2 q n (by omega), zap_eq]
  obtain ⟨q1, q2⟩ := XS_apB (n' := n + 1 + 4) (kd := kd) (c := c) (s := s) (E := E) (f := f) (sh' := sh2) (F' := up2 (up2 (up2 (up2 F2 3 n (nI 0)) 0 n (nI (T.1 2 0))) 1 n (nI kd)) 701 (x + 9) (nI (T.1 2 0 + 1))) (R' := up2 R2 2 n (some (n + 1))) (A' := A2) (B' := up2 B (x + 10) (T.1 2 0) (some n)) h hn24 hmb (by omega) (fun a ha => by rw [g1 a (by omega), up1_ne (by omega)]) (fun q a ha hq => by rw [up2_o (by omega)]; exact hF3 q a ha) (fun q a ha => by rw [up2_o (by omega), g3 q a (by omega), zap_ne (by omega)]) (fun a ha => g4 a (by omega)) (fun a ha => up2_row ha) (fun j hj => up2_a hj) up2_eq up2_eq ⟨en, up2_eq, g5, by rw [up2_k (by decide)]; exact g6, by rw [up2_k (by decide)]; exact g7, g9, by rw [up2_k (by decide)]; exact g10, g11, g8⟩ ⟨by rw [up2_o (by omega), up2_eq], by rw [up2_o (by omega), up2_o (by omega), up2_o (by omega), up2_o (by omega)]; exact g12, by rw [up2_o (by omega), up2_o (by omega), up2_o (by omega), up2_o (by omega)]; exact g13, g14, fun j hj => by rw [g15 j hj]; exact (hf j hj).1⟩ ⟨by rw [up2_o (by omega), up2_o (by omega), up2_eq], by rw [up2_o (by omega), up2_o (by omega), up2_o (by omega), up2_eq], by rw [up2_o (by omega), up2_o (by omega), up2_o (by omega), up2_o (by omega)]; exact hz _, by rw [up2_o (by omega), up2_o (by omega), up2_o (by omega), up2_o (by omega)]; exact hz _, by rw [up2_o (by omega), up2_o (by omega), up2_o (by omega), up2_o (by omega)]; exact hz _, by rw [up2_o (by omega), up2_o (by omega), up2_o (by omega), up2_o (by omega)]; exact hz _, by rw [up2_o (by omega), up2_o (by omega), up2_o (by omega), up2_o (by omega)]; exact hz _⟩
  exact hQ _ _ _ _ _ _ _ _ q1 q2 (by omega) (by omega)
/-- the draft with one empty piece, where it has none -/
def dr1 (T : TT) : TT := if T.1 4 24 = 0 then (up2 T.1 4 24 1, up2 T.2.1 3 24 (fun _ => 0), T.2.2) else T
def bokT (T : TT) (kd : Nat) : TT := (up2 (up2 (apB (dr1 T) kd ((dr1 T).1 4 24) ((dr1 T).1 5 24) ((dr1 T).2.1 3 24) ((dr1 T).2.1 0 24)).1 4 24 0) 5 24 0, (apB (dr1 T) kd ((dr1 T).1 4 24) ((dr1 T).1 5 24) ((dr1 T).2.1 3 24) ((dr1 T).2.1 0 24)).2)
def s_book (T : TT) (i : Int32) : Int32 × TT := match ix i 3 with
  | none => (-3, T)
  | some kd => if fitB (T.2.1 3 24) (T.1 4 24) kd = true then (if 24 ≤ T.1 2 0 then (-5, T) else (nI (T.1 2 0), bokT T kd)) else (-3, T)
theorem dr1_ok (hT : okT T) : okE ((dr1 T).2.1 3 24) ((dr1 T).1 4 24) ((dr1 T).1 5 24) ∧ (dr1 T).1 4 24 ≤ 20 ∧ (dr1 T).1 2 0 = T.1 2 0 ∧ (∀ q, q < (dr1 T).1 4 24 → (dr1 T).2.1 3 24 q - pst ((dr1 T).2.1 3 24) q ≤ 200) ∧ (∀ j, j < (dr1 T).1 5 24 → (dr1 T).2.1 0 24 j < 256) ∧ 1 ≤ (dr1 T).1 4 24 := by
  obtain ⟨d1, d2, d3, d4⟩ := hT.2.2.1
  unfold dr1
  by_cases c : T.1 4 24 = 0
  · rw [if_pos c]
    have hz : T.1 5 24 = 0 := by
      have := d2.2
      rw [c] at this
      exact this.symm
    dsimp only
    rw [up2_eq, up2_eq, up2_k (by decide), up2_k (by decide), hz]
    refine ⟨⟨fun j hj => ?_, rfl⟩, by omega, rfl, fun q hq => by omega, fun j hj => absurd hj (Nat.not_lt_zero _), by omega⟩
    have : j = 0 := by omega
    subst this
    exact Nat.le_refl _
  · rw [if_neg c]
    exact ⟨d2, d1, rfl, fun q hq => (d3 q hq).2, d4, by omega⟩
theorem XS_dclr (h : XS n sh F R A B x ba ma T) (h24 : T.1 2 0 ≤ 24) (hmb : ∀ m, m < T.1 8 0 → isB3 T.1 (mbk T.1 m)) : XS n sh (up2 (up2 F 101 (x + 6) (nI 0)) 502 (x + 5) (nI 0)) R A B x ba ma (up2 (up2 T.1 4 24 0) 5 24 0, T.2) ∧ frX x n sh F R A n sh (up2 (up2 F 101 (x + 6) (nI 0)) 502 (x + 5) (nI 0)) R A := by
  obtain ⟨hx, hX, hTO, hDr, hBk, hPk, hGm, hSm, hWi, hRd⟩ := h
  refine ⟨⟨hx, hX, xTO_cong (N := T.1) hTO (fun a ha => (by (repeat rw [up2_o (by omega)]); first | done | rfl)) (fun a ha => (by (repeat (first | rw [up2_row (by omega)] | rw [acp_row (by omega)])); first | done | rfl)), ⟨up2_eq, by rw [up2_k (by decide), up2_eq]; rfl, fun q hq => absurd hq (Nat.not_lt_zero _), fun q hq => absurd hq (Nat.not_lt_zero _)⟩, xBk_T (T := T) (xBk_cong (T := T) hBk hx (Nat.le_refl _) (fun _ _ => rfl) (fun q a ha hq => (by (repeat rw [up2_o (by omega)]); first | done | rfl)) (fun q a ha hq => (by (repeat rw [up2_o (by omega)]); first | done | rfl)) (by (repeat rw [up2_o (by omega)]); first | done | rfl) (fun a ha ha2 => (by (repeat (first | rw [up2_row (by omega)] | rw [acp_row (by omega)])); first | done | rfl)) rfl) rfl (fun b hb => ?_), xPk_cong (T := T) hPk (by (repeat rw [up2_o (by omega)]); first | done | rfl) (by (repeat rw [up2_o (by omega)]); first | done | rfl) (by (repeat rw [up2_o (by omega)]); first | done | rfl) (fun a ha ha2 => (by (repeat (first | rw [up2_row (by omega)] | rw [acp_row (by omega)])); first | done | rfl)), hGm, xSm_cong (T := T) hSm (fun q hq => (by (repeat rw [up2_o (by omega)]); first | done | rfl)) (fun a ha ha2 => (by (repeat rw [up2_o (by omega)]); first | done | rfl)) (by (repeat rw [up2_o (by omega)]); first | done | rfl) (fun a ha ha2 => (by (repeat (first | rw [up2_row (by omega)] | rw [acp_row (by omega)])); first | done | rfl)), xWi_T (T := T) (xWi_cong (T := T) hWi (Nat.le_refl _) (fun _ _ => rfl) (fun q a ha hq => (by (repeat rw [up2_o (by omega)]); first | done | rfl)) (fun q a ha hq => (by (repeat rw [up2_o (by omega)]); first | done | rfl)) (fun q ha ha2 => (by (repeat rw [up2_o (by omega)]); first | done | rfl)) (by (repeat rw [up2_o (by omega)]); first | done | rfl) (fun a ha ha2 => (by (repeat (first | rw [up2_row (by omega)] | rw [acp_row (by omega)])); first | done | rfl)) rfl) rfl rfl rfl rfl rfl (fun m hm => ⟨rfl, rfl, rfl, rfl, rfl, rfl, rfl⟩) (fun m hm => ?_), xRd_cong hRd (fun a ha => (by (repeat rw [up2_o (by omega)]); first | done | rfl))⟩, ⟨Nat.le_refl _, fun _ _ => rfl, fun q a ha hq => ⟨(by (repeat rw [up2_o (by omega)]); first | done | rfl), (by (repeat rw [up2_o (by omega)]); first | done | rfl)⟩, fun a ha => (by (repeat (first | rw [up2_row (by omega)] | rw [acp_row (by omega)])); first | done | rfl)⟩⟩
  · have := isB3_24 hb h24
    exact ⟨⟨rfl, (by dsimp only; (repeat rw [up2_o (by omega)]); first | done | rfl), (by dsimp only; (repeat rw [up2_o (by omega)]); first | done | rfl), rfl, rfl⟩, rfl, rfl, rfl, rfl, rfl, rfl⟩
  · have := isB3_24 (hmb m hm) h24
    exact ⟨rfl, (by dsimp only; (repeat rw [up2_o (by omega)]); first | done | rfl), (by dsimp only; (repeat rw [up2_o (by omega)]); first | done | rfl), rfl, rfl⟩
theorem XS_dr1 (h : XS n sh F R A B x ba ma T) (hT : okT T) (hc : T.1 4 24 = 0) : XS n sh (up2 (up2 F 101 (x + 6) (nI 0)) 502 (x + 5) (nI 1)) R (up2 A (x + 8) 0 (nI 0)) B x ba ma (dr1 T) ∧ frX x n sh F R A n sh (up2 (up2 F 101 (x + 6) (nI 0)) 502 (x + 5) (nI 1)) R (up2 A (x + 8) 0 (nI 0)) := by
  obtain ⟨hx, hX, hTO, hDr, hBk, hPk, hGm, hSm, hWi, hRd⟩ := h
  have h24 := hT.2.2.2.1.1
  have hz : T.1 5 24 = 0 := by
    have := hT.2.2.1.2.1.2
    rw [hc] at this
    exact this.symm
  unfold dr1
  rw [if_pos hc]
  refine ⟨⟨hx, hX, xTO_cong (N := T.1) hTO (fun a ha => (by (repeat rw [up2_o (by omega)]); first | done | rfl)) (fun a ha => (by (repeat (first | rw [up2_row (by omega)] | rw [acp_row (by omega)])); first | done | rfl)), ⟨up2_eq, ?_, fun q hq => ?_, fun q hq => ?_⟩, xBk_T (T := T) (xBk_cong (T := T) hBk hx (Nat.le_refl _) (fun _ _ => rfl) (fun q a ha hq => (by (repeat rw [up2_o (by omega)]); first | done | rfl)) (fun q a ha hq => (by (repeat rw [up2_o (by omega)]); first | done | rfl)) (by (repeat rw [up2_o (by omega)]); first | done | rfl) (fun a ha ha2 => (by (repeat (first | rw [up2_row (by omega)] | rw [acp_row (by omega)])); first | done | rfl)) rfl) rfl (fun b hb => ?_), xPk_cong (T := T) hPk (by (repeat rw [up2_o (by omega)]); first | done | rfl) (by (repeat rw [up2_o (by omega)]); first | done | rfl) (by (repeat rw [up2_o (by omega)]); first | done | rfl) (fun a ha ha2 => (by (repeat (first | rw [up2_row (by omega)] | rw [acp_row (by omega)])); first | done | rfl)), xGm_cong hGm (by (repeat (first | rw [up2_row (by omega)] | rw [acp_row (by omega)])); first | done | rfl) (by (repeat (first | rw [up2_row (by omega)] | rw [acp_row (by omega)])); first | done | rfl), xSm_cong (T := T) hSm (fun q hq => (by (repeat rw [up2_o (by omega)]); first | done | rfl)) (fun a ha ha2 => (by (repeat rw [up2_o (by omega)]); first | done | rfl)) (by (repeat rw [up2_o (by omega)]); first | done | rfl) (fun a ha ha2 => (by (repeat (first | rw [up2_row (by omega)] | rw [acp_row (by omega)])); first | done | rfl)), xWi_T (T := T) (xWi_cong (T := T) hWi (Nat.le_refl _) (fun _ _ => rfl) (fun q a ha hq => (by (repeat rw [up2_o (by omega)]); first | done | rfl)) (fun q a ha hq => (by (repeat rw [up2_o (by omega)]); first | done | rfl)) (fun q ha ha2 => (by (repeat rw [up2_o (by omega)]); first | done | rfl)) (by (repeat rw [up2_o (by omega)]); first | done | rfl) (fun a ha ha2 => (by (repeat (first | rw [up2_row (by omega)] | rw [acp_row (by omega)])); first | done | rfl)) rfl) rfl rfl rfl rfl rfl (fun m hm => ⟨rfl, rfl, rfl, rfl, rfl, rfl, rfl⟩) (fun m hm => ?_), xRd_cong hRd (fun a ha => (by (repeat rw [up2_o (by omega)]); first | done | rfl))⟩, ⟨Nat.le_refl _, fun _ _ => rfl, fun q a ha hq => ⟨(by (repeat rw [up2_o (by omega)]); first | done | rfl), (by (repeat rw [up2_o (by omega)]); first | done | rfl)⟩, fun a ha => (by (repeat (first | rw [up2_row (by omega)] | rw [acp_row (by omega)])); first | done | rfl)⟩⟩
  · rw [up2_k (by decide), up2_eq]
    show nI 0 = nI (T.1 5 24)
    rw [hz]
  · have hq' : q < 1 := hq
    have e : q = 0 := by omega
    subst e
    rw [up2_eq]
    rfl
  · have hq' : q < T.1 5 24 := hq
    omega
  · have := isB3_24 hb h24
    exact ⟨⟨rfl, (by dsimp only; (repeat rw [up2_o (by omega)]); first | done | rfl), (by dsimp only; (repeat rw [up2_o (by omega)]); first | done | rfl), (by dsimp only; (repeat rw [up2_o (by omega)]); first | done | rfl), (by dsimp only; (repeat rw [up2_o (by omega)]); first | done | rfl)⟩, rfl, rfl, rfl, rfl, rfl, rfl⟩
  · have := isB3_24 (hT.2.2.2.2.2.2.1.2.1 m hm).2.1 h24
    exact ⟨rfl, (by dsimp only; (repeat rw [up2_o (by omega)]); first | done | rfl), (by dsimp only; (repeat rw [up2_o (by omega)]); first | done | rfl), (by dsimp only; (repeat rw [up2_o (by omega)]); first | done | rfl), (by dsimp only; (repeat rw [up2_o (by omega)]); first | done | rfl)⟩
theorem c_book {i : Int32} (h : XS n sh F R A B x ba ma T) (hT : okT T) (hQ : xPost n u sh F R A x (s_book T i) Q) : rc_ (k + 8) mX11_book [.ref x, .int i] (mkh n u sh F R A B) Q := by
  obtain ⟨hx, hX, hTO, hDr, hBk, hPk, hGm, hSm, hWi, hRd⟩ := id h
  have r1 := hX.r0 1100 1 (by decide)
  have r5 := hX.r0 1102 5 (by decide)
  have r9 := hX.r0 1103 9 (by decide)
  have s0 := hX.s0
  have t5 := hX.s 5 0 5 0 (by decide)
  have s9 := hX.s 9 0 7 0 (by decide)
  have h24 := hT.2.2.2.1.1
  have hS := hX.shelf hBk h24
  obtain ⟨d1, d2, d3, d4⟩ := hT.2.2.1
  have hP := hX.draft hDr d1 d2 (fun q hq => (d3 q hq).2)
  rw [eX11_book]
  unfold s_book at hQ
  cases hi : ix i 3 with
  | none =>
    rw [hi] at hQ
    rcases ix_none hi with c1 | ⟨c1, c2⟩
    · simp only [rX11_book_0, rX11_book_1, rX11_book_20, rX11_book_22, c1, up2_eq, va_rf, eq_self, or_true, true_or, Option.toList_some, Option.toList_none, List.cons_append, List.nil_append, if_true, if_false]
      exact xPost_same hQ h
    · have g2 : nI 2 < i := by
        obtain ⟨j, hj, rfl⟩ := nI_of c1
        rw [nI_leI (by omega) hj] at c2
        exact nI_lt (by omega) hj
      simp only [rX11_book_0, rX11_book_1, rX11_book_4, rX11_book_5, rX11_book_6, rX11_book_20, rX11_book_22, c1, g2, up2_eq, va_rf, eq_self, or_true, true_or, Option.toList_some, Option.toList_none, List.cons_append, List.nil_append, if_true, if_false]
      exact xPost_same hQ h
  | some kd =>
    rw [hi] at hQ
    obtain ⟨hk3, hk31, rfl⟩ := ix_some hi
    dsimp only at hQ
    have c1 : ¬ nI kd < nI 0 := nI_nlt (Nat.zero_le _) hk31
    have c2 : ¬ nI 2 < nI kd := nI_nlt (by omega) (by omega)
    simp only [rX11_book_0, rX11_book_1, rX11_book_4, rX11_book_5, rX11_book_6, rX11_book_9, rX11_book_10, rX11_book_13, c1, c2, s0, r5, up2_eq, va_rf, eq_self, or_true, true_or, Option.toList_some, Option.toList_none, List.cons_append, List.nil_append, if_true, if_false]
    rw [rX11_book_14 t5, k_Pieces_fits hP d2 (by omega)]
    cases hfit : fitB (T.2.1 3 24) (T.1 4 24) kd with
    | false =>
      rw [hfit] at hQ
      simp only [Bool.false_eq_true, rX11_book_17, rX11_book_20, rX11_book_22, up2_eq, va_rf, eq_self, or_true, true_or, Option.toList_some, Option.toList_none, List.cons_append, List.nil_append, if_true, if_false]
      exact xPost_same hQ h
    | true =>
      rw [hfit] at hQ
      simp only [up2_eq, va_rf, eq_self, or_true, true_or, Option.toList_some, Option.toList_none, List.cons_append, List.nil_append, if_true, if_false] at hQ
      have g3 : ¬ nI 1 = nI 0 := by decide
      simp only [rX11_book_17, rX11_book_23, rX11_book_24, g3, s0, r9, up2_eq, va_rf, eq_self, or_true, true_or, Option.toList_some, Option.toList_none, List.cons_append, List.nil_append, if_true, if_false]
      rw [rX11_book_27 s9, k_Shelf_isFull hS]
      by_cases c4 : 24 ≤ T.1 2 0
      · rw [if_pos c4] at hQ
        rw [if_neg (by omega)]
        simp only [rX11_book_30, rX11_book_33, rX11_book_35, g3, up2_eq, va_rf, eq_self, or_true, true_or, Option.toList_some, Option.toList_none, List.cons_append, List.nil_append, if_true, if_false]
        exact xPost_same hQ h
      · rw [if_neg c4] at hQ
        rw [if_pos (by omega)]
        simp only [rX11_book_30, rX11_book_36, rX11_book_37, rX11_book_40, s0, r5, t5, hDr.1, up2_eq, va_rf, eq_self, or_true, true_or, Option.toList_some, Option.toList_none, List.cons_append, List.nil_append, if_true, if_false]
        obtain ⟨o1, o2, o3, o4, o5, o6⟩ := dr1_ok hT
        have hmb1 : ∀ m, m < (dr1 T).1 8 0 → isB3 (dr1 T).1 (mbk (dr1 T).1 m) := by
          intro m hm
          unfold dr1 at hm ⊢
          by_cases c : T.1 4 24 = 0
          · rw [if_pos c] at hm ⊢
            exact (hT.2.2.2.2.2.2.1.2.1 m hm).2.1
          · rw [if_neg c] at hm ⊢
            exact (hT.2.2.2.2.2.2.1.2.1 m hm).2.1
        have fin : ∀ F1 A1, XS n sh F1 R A1 B x ba ma (dr1 T) → frX x n sh F R A n sh F1 R A1 → rw_ (k + 8) mX11_book 59 [.ref x, .int (nI kd), .retAddr 0] [] (mkh n u sh F1 R A1 B) Q := by
          intro F1 A1 q1 q2
          obtain ⟨hx1, hX1, hTO1, hDr1, hBk1, -⟩ := id q1
          have hP1 := hX1.draft hDr1 o2 o1 o4
          have dsum := okE_sum _ o1 o4 ((dr1 T).1 4 24) (Nat.le_refl _)
          rw [o1.2] at dsum
          simp only [rX11_book_59, rX11_book_60, rX11_book_63, rX11_book_64, rX11_book_65, s0, r9, r5, up2_eq, va_rf, eq_self, or_true, true_or, Option.toList_some, Option.toList_none, List.cons_append, List.nil_append, if_true, if_false]
          rw [rX11_book_68 s9]
          refine k_append7 (k := k + 3) (f := (dr1 T).2.1 0 24) q1 (by omega) hmb1 hP1 o1 (by omega) (by omega) (by omega) (by omega) (fun j hj => ⟨hDr1.2.2.2 j hj, o5 j hj⟩) (by omega) (by omega) ?_
          intro n2 u2 sh2 F2 R2 A2 B2 ba2 g1 g2 g3' g4
          obtain ⟨hx2, hX2, hTO2, hDr2, -⟩ := id g1
          have hne : (24 : Nat) ≠ (dr1 T).1 2 0 := by omega
          have hP2 : isP sh2 F2 R2 A2 (x + 5) (x + 6) (x + 7) 4000 ((dr1 T).1 5 24) (x + 8) 20 ((dr1 T).1 4 24) ((dr1 T).2.1 3 24) := by
            have e1 := apB_o (T := dr1 T) (kd := kd) (c := (dr1 T).1 4 24) (s := (dr1 T).1 5 24) (E := (dr1 T).2.1 3 24) (f := (dr1 T).2.1 0 24) (q := 4) (b := 24) (by decide) hne
            have e2 := apB_o (T := dr1 T) (kd := kd) (c := (dr1 T).1 4 24) (s := (dr1 T).1 5 24) (E := (dr1 T).2.1 3 24) (f := (dr1 T).2.1 0 24) (q := 5) (b := 24) (by decide) hne
            have e3 := apB_oJ (T := dr1 T) (kd := kd) (c := (dr1 T).1 4 24) (s := (dr1 T).1 5 24) (E := (dr1 T).2.1 3 24) (f := (dr1 T).2.1 0 24) (q := 3) (b := 24) hne
            have := hX2.draft hDr2 (by rw [e1]; exact o2) (by rw [e1, e2, e3]; exact o1) (by rw [e1, e3]; exact o4)
            rw [e1, e2, e3] at this
            exact this
          have s0' := hX2.s0
          have r5' := hX2.r0 1102 5 (by decide)
          simp only [rX11_book_71, rX11_book_72, rX11_book_73, s0', r5', up2_eq, va_rf, eq_self, or_true, true_or, Option.toList_some, Option.toList_none, List.cons_append, List.nil_append, if_true, if_false]
          rw [rX11_book_76 hP2.1, k_Pieces_clear hP2]
          simp only [rX11_book_79, rX11_book_80, up2_eq, va_rf, eq_self, or_true, true_or, Option.toList_some, Option.toList_none, List.cons_append, List.nil_append, if_true, if_false]
          have hmb2 : ∀ m, m < (apB (dr1 T) kd ((dr1 T).1 4 24) ((dr1 T).1 5 24) ((dr1 T).2.1 3 24) ((dr1 T).2.1 0 24)).1 8 0 → isB3 (apB (dr1 T) kd ((dr1 T).1 4 24) ((dr1 T).1 5 24) ((dr1 T).2.1 3 24) ((dr1 T).2.1 0 24)).1 (mbk (apB (dr1 T) kd ((dr1 T).1 4 24) ((dr1 T).1 5 24) ((dr1 T).2.1 3 24) ((dr1 T).2.1 0 24)).1 m) := by
            intro m hm
            have := hmb1 m hm
            unfold isB3 at this ⊢
            show mbk (dr1 T).1 m < (dr1 T).1 2 0 + 1 ∨ mbk (dr1 T).1 m = 25
            omega
          obtain ⟨y1, y2⟩ := XS_dclr g1 (show (dr1 T).1 2 0 + 1 ≤ 24 by omega) hmb2
          rw [o3]
          exact hQ _ _ _ _ _ _ _ _ _ y1 (frX_trans q2 (frX_trans g2 y2)) (by omega) (by omega)
        by_cases c5 : T.1 4 24 = 0
        · have g5 : nI (T.1 4 24) = nI 0 := by rw [c5]
          have hz : T.1 5 24 = 0 := by
            have := d2.2
            rw [c5] at this
            exact this.symm
          simp only [rX11_book_43, rX11_book_46, rX11_book_47, rX11_book_50, rX11_book_51, rX11_book_54, rX11_book_55, g5, s0, r1, r5, up2_eq, va_rf, eq_self, or_true, true_or, Option.toList_some, Option.toList_none, List.cons_append, List.nil_append, if_true, if_false]
          rw [rX11_book_56 t5, k_Pieces_append (st := 0) (cnt := 0) hP (hX.tape hTO hT.1.1) (by omega) (by omega) (by omega) (fun g => by omega) (fun j hj => by rw [hTO.1.2 j hj]; exact nI_byte (hT.1.2 j hj))]
          simp only [up2_eq, va_rf, eq_self, or_true, true_or, Option.toList_some, Option.toList_none, List.cons_append, List.nil_append, if_true, if_false]
          obtain ⟨q1, q2⟩ := XS_dr1 h hT c5
          rw [acp_0, c5, hz]
          exact fin _ _ q1 q2
        · have g5 : ¬ nI (T.1 4 24) = nI 0 := nI_ne0 (by omega) (by omega)
          simp only [rX11_book_43, g5, up2_eq, va_rf, eq_self, or_true, true_or, Option.toList_some, Option.toList_none, List.cons_append, List.nil_append, if_true, if_false]
          have : dr1 T = T := by unfold dr1; rw [if_neg c5]
          exact fin F A (by rw [this]; exact h) frX_refl
end BK2
