/-! ===== the class: samples, prices, messages looked at ===== -/
section CG2
variable {lf lf' f f' : Nat → Int32} {m s c : Nat} {E : Nat → Nat} {rk : Bool}
theorem lwS_cg {wh wh' : Nat → Bool} : ∀ c, (∀ q, q < c → wh q = wh' q) → lwS E wh c = lwS E wh' c
  | 0, _ => rfl
  | c + 1, h => by
    unfold lwS
    rw [lwS_cg c (fun q hq => h q (by omega)), h c (by omega)]
theorem gst_cg (hl : ∀ j, j < m → lf j = lf' j) (hf : ∀ j, j < s → f j = f' j) (hE : okE E c s) {i : Nat} (hi : i ≤ m) : gst lf f m s c E rk i = gst lf' f' m s c E rk i := by
  unfold gst
  rw [lwS_cg (wh := whl lf f m E i) (wh' := whl lf' f' m E i) c (fun q hq => whl_cg hl hf hE hq), mxf_congr (r := tol lf f m c E i) (r' := tol lf' f' m c E i) s (fun p _ => tol_cg hl hf hE), mxf_congr (r := fal lf m i) (r' := fal lf' m i) i (fun p _ => fal_cg hl hi)]
theorem grN_cg (hl : ∀ j, j < m → lf j = lf' j) (hf : ∀ j, j < s → f j = f' j) (hE : okE E c s) : ∀ t, grN lf f m s c E rk t = grN lf' f' m s c E rk t
  | 0 => rfl
  | t + 1 => by
    funext j
    unfold grN
    rw [grN_cg hl hf hE t]
    by_cases h : j = m - (t + 1)
    · rw [if_pos h, if_pos h, gst_cg hl hf hE (by omega)]
    · rw [if_neg h, if_neg h]
end CG2
theorem sTO_id {N : tN} : sTO N (N 0 0) (N 1 0) (N 30) (N 31) = N := by
  funext q i
  unfold sTO up1 up2
  by_cases h1 : q = 31
  · subst h1; rfl
  by_cases h2 : q = 30
  · subst h2; rfl
  rw [if_neg h1, if_neg h2]
  by_cases h3 : q = 1
  · subst h3
    by_cases h4 : i = 0
    · subst h4; rfl
    · simp [h4]
  · rw [if_neg h3]
    by_cases h4 : q = 0
    · subst h4
      by_cases h5 : i = 0
      · subst h5; rfl
      · simp [h5]
    · rw [if_neg h4]
def clrT (T : TT) : TT := (sTO T.1 0 (T.1 1 0) (T.1 30) (T.1 31), T.2)
/-- a book's place, or that of none -/
def bx (i : Int32) (nb : Nat) : Option Nat := if i = -1 then some 25 else ix i nb
theorem bx_some {i : Int32} {N : tN} {b : Nat} (h : bx i (N 2 0) = some b) : isB3 N b := by
  unfold bx at h
  split at h
  · cases h; exact Or.inr rfl
  · exact Or.inl (ix_some h).1
theorem bx_map {i : Int32} {nb y : Nat} {ba : Nat → Nat} (h : ba 25 = y) : (if i = -1 then some y else fnd ba nb i) = (bx i nb).map ba := by
  unfold bx
  split
  · rw [← h]; rfl
  · exact fnd_ix
theorem nI_rk {kd : Nat} (h : kd ≤ 2) : (if nI kd = nI 2 then nI 1 else nI 0) = (if decide (kd = 2) = true then nI 1 else nI 0) := by
  by_cases e : kd = 2
  · subst e; rfl
  · have : ¬ nI kd = nI 2 := by rw [nI_eq (by omega) (by omega)]; exact e
    rw [if_neg this]
    simp [e]
section MOR
variable {k n u : Nat} {sh : hs_} {F F' : hF_} {R R' : hR_} {A A' : hF_} {B : hR_} {Q : Option Value → pm_H → Prop} {x : Nat} {ba ma : Nat → Nat} {T T' : TT}
def s_sample (T : TT) : Int32 × TT :=
  if T.1 0 0 = 0 ∨ 40 < T.1 0 0 then (-3, clrT T) else if 8 ≤ T.1 6 0 then (-5, clrT T)
  else (nI (T.1 6 0 + 1), (up2 (up2 (clrT T).1 6 0 (T.1 6 0 + 1)) 7 (T.1 6 0) (T.1 0 0), up2 T.2.1 1 (T.1 6 0) (T.1 30), T.2.2))
theorem c_sample (h : XS n sh F R A B x ba ma T) (hT : okT T) (hQ : xPost n u sh F R A x (s_sample T) Q) : rc_ (k + 8) mX11_sample [.ref x] (mkh n u sh F R A B) Q := by
  obtain ⟨hx, hX, hTO, hDr, hBk, hPk, hGm, hSm, hWi, hRd⟩ := id h
  have r1 := hX.r0 1100 1 (by decide)
  have r38 := hX.r0 1108 38 (by decide)
  have s0 := hX.s0
  have t1 := hX.s 1 0 1 0 (by decide)
  have t38 := hX.s 38 0 8 0 (by decide)
  have hB := hX.tape hTO hT.1.1
  have t0 := hT.1.1
  obtain ⟨m1, m2, m3, m4, m5, cc, ss, m6, m7, m8, m9, EE, m10⟩ := id hSm
  have h802 := m1.1
  have n8 := m1.2.1
  rw [eX11_sample]
  simp only [rX11_sample_0]
  rw [rX11_sample_1 s0, eX11_addSample]
  obtain ⟨w1, w2⟩ := XS_clr h
  unfold s_sample clrT at hQ
  by_cases c0 : T.1 0 0 = 0
  · rw [if_pos (Or.inl c0)] at hQ
    have g0 : nI (T.1 0 0) = nI 0 := by rw [c0]
    simp only [rX11_addSample_0, rX11_addSample_1, rX11_addSample_4, rX11_addSample_7, rX11_addSample_22, rX11_addSample_24, s0, r1, t1, hTO.1.1, g0, up2_eq, va_rf, eq_self, or_true, true_or, Option.toList_some, Option.toList_none, List.cons_append, List.nil_append, if_true, if_false]
    simp only [rX11_sample_4, rX11_sample_5, rX11_sample_6, s0, r1, up2_eq, va_rf, eq_self, or_true, true_or, Option.toList_some, Option.toList_none, List.cons_append, List.nil_append, if_true, if_false]
    rw [rX11_sample_9 t1, k_Bytes_clear t1]
    simp only [rX11_sample_12, rX11_sample_13, up2_eq, va_rf, eq_self, or_true, true_or, Option.toList_some, Option.toList_none, List.cons_append, List.nil_append, if_true, if_false]
    exact hQ n u _ _ _ _ _ _ _ w1 w2 (by omega) (by omega)
  have g0 : ¬ nI (T.1 0 0) = nI 0 := nI_ne0 (by omega) (by omega)
  by_cases c1 : 40 < T.1 0 0
  · rw [if_pos (Or.inr c1)] at hQ
    have g1 : ¬ nI (T.1 0 0) ≤ nI 40 := nI_ge c1 (by omega)
    simp only [rX11_addSample_0, rX11_addSample_1, rX11_addSample_4, rX11_addSample_7, rX11_addSample_10, rX11_addSample_11, rX11_addSample_14, rX11_addSample_17, rX11_addSample_19, rX11_addSample_22, rX11_addSample_24, s0, r1, t1, hTO.1.1, g0, g1, up2_eq, va_rf, eq_self, or_true, true_or, Option.toList_some, Option.toList_none, List.cons_append, List.nil_append, if_true, if_false]
    simp only [rX11_sample_4, rX11_sample_5, rX11_sample_6, s0, r1, up2_eq, va_rf, eq_self, or_true, true_or, Option.toList_some, Option.toList_none, List.cons_append, List.nil_append, if_true, if_false]
    rw [rX11_sample_9 t1, k_Bytes_clear t1]
    simp only [rX11_sample_12, rX11_sample_13, up2_eq, va_rf, eq_self, or_true, true_or, Option.toList_some, Option.toList_none, List.cons_append, List.nil_append, if_true, if_false]
    exact hQ n u _ _ _ _ _ _ _ w1 w2 (by omega) (by omega)
  rw [if_neg (fun e => e.elim c0 c1)] at hQ
  have g1 : nI (T.1 0 0) ≤ nI 40 := nI_le (by omega) (by omega)
  simp only [rX11_addSample_0, rX11_addSample_1, rX11_addSample_4, rX11_addSample_7, rX11_addSample_10, rX11_addSample_11, rX11_addSample_14, rX11_addSample_17, rX11_addSample_19, rX11_addSample_25, rX11_addSample_26, rX11_addSample_29, rX11_addSample_30, s0, r1, t1, r38, hTO.1.1, g0, g1, up2_eq, va_rf, eq_self, or_true, true_or, Option.toList_some, Option.toList_none, List.cons_append, List.nil_append, if_true, if_false]
  rw [rX11_addSample_33 t38, eX8_keepSample]
  by_cases c2 : 8 ≤ T.1 6 0
  · rw [if_pos c2] at hQ
    have g2 : ¬ nI (T.1 6 0) < nI 8 := nI_nlt c2 (by omega)
    simp only [rX8_keepSample_0, rX8_keepSample_1, rX8_keepSample_4, rX8_keepSample_6, rX8_keepSample_9, rX8_keepSample_10, t38, h802, g2, up2_eq, va_rf, eq_self, or_true, true_or, Option.toList_some, Option.toList_none, List.cons_append, List.nil_append, if_true, if_false]
    simp only [rX11_addSample_36, rX11_addSample_49, rX11_addSample_51, up2_eq, va_rf, eq_self, or_true, true_or, Option.toList_some, Option.toList_none, List.cons_append, List.nil_append, if_true, if_false]
    simp only [rX11_sample_4, rX11_sample_5, rX11_sample_6, s0, r1, up2_eq, va_rf, eq_self, or_true, true_or, Option.toList_some, Option.toList_none, List.cons_append, List.nil_append, if_true, if_false]
    rw [rX11_sample_9 t1, k_Bytes_clear t1]
    simp only [rX11_sample_12, rX11_sample_13, up2_eq, va_rf, eq_self, or_true, true_or, Option.toList_some, Option.toList_none, List.cons_append, List.nil_append, if_true, if_false]
    exact hQ n u _ _ _ _ _ _ _ w1 w2 (by omega) (by omega)
  rw [if_neg c2] at hQ
  have g2 : nI (T.1 6 0) < nI 8 := nI_lt (by omega) (by omega)
  obtain ⟨b1, b2, b3, b4⟩ := hX.T.2.2.2.2.2.2.2.1 (T.1 6 0) (by omega)
  have r39 := hX.r 801 38 39 (by decide)
  have s39 := hX.s 39 2 1 8 (by decide)
  simp only [rX8_keepSample_0, rX8_keepSample_1, rX8_keepSample_4, rX8_keepSample_6, rX8_keepSample_11, rX8_keepSample_12, rX8_keepSample_15, rX8_keepSample_16, t38, h802, g2, r39, up2_eq, va_rf, eq_self, or_true, true_or, Option.toList_some, Option.toList_none, List.cons_append, List.nil_append, if_true, if_false]
  rw [rX8_keepSample_19 s39 (by omega) (by omega), show B (x + 39) (T.1 6 0) = some (x + 38 + 9 + 2 * T.1 6 0) from b1]
  simp only [rX8_keepSample_20, rX8_keepSample_20_n, up2_eq, va_rf, eq_self, or_true, true_or, Option.toList_some, Option.toList_none, List.cons_append, List.nil_append, if_true, if_false]
  rw [rX8_keepSample_21 b2, eX1_become]
  simp only [rX1_become_0]
  rw [rX1_become_1 b2, k_Bytes_clear b2]
  have hB0 : isB sh (up2 F 101 (x + 38 + 9 + 2 * T.1 6 0) (nI 0)) R (x + 38 + 9 + 2 * T.1 6 0) (x + 38 + 10 + 2 * T.1 6 0) 40 0 := ⟨b2, b3, b4, by decide, up2_eq, by omega⟩
  have hB1 : isB sh (up2 F 101 (x + 38 + 9 + 2 * T.1 6 0) (nI 0)) R (x + 1) (x + 2) 240 (T.1 0 0) := isB_cong hB (up2_o (by omega)) rfl
  have e101 : up2 F 101 (x + 38 + 9 + 2 * T.1 6 0) (nI 0) 101 (x + 1) = nI (T.1 0 0) := by rw [up2_o (by omega)]; exact hTO.1.1
  simp only [rX1_become_4, rX1_become_5, rX1_become_5_n, rX1_become_6, rX1_become_7, rX1_become_7_n, rX1_become_8, t1, e101, up2_eq, va_rf, eq_self, or_true, true_or, Option.toList_some, Option.toList_none, List.cons_append, List.nil_append, if_true, if_false]
  rw [rX1_become_11 b2, k_Bytes_append hB0 hB1 (by omega) (by omega) (fun e => by omega) (fun j hj => by rw [hTO.1.2 j hj]; exact nI_byte (hT.1.2 j hj))]
  simp only [rX1_become_14, up2_up2, Nat.zero_add, up2_eq, va_rf, eq_self, or_true, true_or, Option.toList_some, Option.toList_none, List.cons_append, List.nil_append, if_true, if_false]
  have e802 : up2 F 101 (x + 38 + 9 + 2 * T.1 6 0) (nI (T.1 0 0)) 802 (x + 38) = nI (T.1 6 0) := by rw [up2_o (by omega)]; exact h802
  have g3 : ¬ nI 1 = nI 0 := by decide
  simp only [rX8_keepSample_24, rX8_keepSample_25, rX8_keepSample_26, rX8_keepSample_29, rX8_keepSample_30, rX8_keepSample_31, rX8_keepSample_34, rX8_keepSample_35, t38, e802, nI_add, up2_eq, va_rf, eq_self, or_true, true_or, Option.toList_some, Option.toList_none, List.cons_append, List.nil_append, if_true, if_false]
  simp only [rX11_addSample_36, rX11_addSample_39, rX11_addSample_40, rX11_addSample_43, rX11_addSample_46, rX11_addSample_51, s0, r38, t38, g3, up2_eq, va_rf, eq_self, or_true, true_or, Option.toList_some, Option.toList_none, List.cons_append, List.nil_append, if_true, if_false]
  simp only [rX11_sample_4, rX11_sample_5, rX11_sample_6, s0, r1, up2_eq, va_rf, eq_self, or_true, true_or, Option.toList_some, Option.toList_none, List.cons_append, List.nil_append, if_true, if_false]
  rw [rX11_sample_9 t1, k_Bytes_clear t1]
  simp only [rX11_sample_12, rX11_sample_13, up2_eq, va_rf, eq_self, or_true, true_or, Option.toList_some, Option.toList_none, List.cons_append, List.nil_append, if_true, if_false]
  refine hQ n u _ _ _ _ _ ba ma ⟨hx, hX, ?_, xDr_cong (N := T.1) (J := T.2.1) hDr (by (repeat rw [up2_o (by omega)]); first | done | rfl) (by (repeat rw [up2_o (by omega)]); first | done | rfl) (fun a ha => (by (repeat (first | rw [up2_row (by omega)] | rw [acp_row (by omega)])); first | done | rfl)), xBk_cong (T := T) hBk hx (Nat.le_refl _) (fun _ _ => rfl) (fun q a ha hq => (by (repeat rw [up2_o (by omega)]); first | done | rfl)) (fun q a ha hq => (by (repeat rw [up2_o (by omega)]); first | done | rfl)) (by (repeat rw [up2_o (by omega)]); first | done | rfl) (fun a ha ha2 => (by (repeat (first | rw [up2_row (by omega)] | rw [acp_row (by omega)])); first | done | rfl)) rfl, xPk_cong (T := T) hPk (by (repeat rw [up2_o (by omega)]); first | done | rfl) (by (repeat rw [up2_o (by omega)]); first | done | rfl) (by (repeat rw [up2_o (by omega)]); first | done | rfl) (fun a ha ha2 => (by (repeat (first | rw [up2_row (by omega)] | rw [acp_row (by omega)])); first | done | rfl)), xGm_cong hGm (by (repeat (first | rw [up2_row (by omega)] | rw [acp_row (by omega)])); first | done | rfl) (by (repeat (first | rw [up2_row (by omega)] | rw [acp_row (by omega)])); first | done | rfl), ?_, xWi_cong (T := T) hWi (Nat.le_refl _) (fun _ _ => rfl) (fun q a ha hq => (by (repeat rw [up2_o (by omega)]); first | done | rfl)) (fun q a ha hq => (by (repeat rw [up2_o (by omega)]); first | done | rfl)) (fun q ha ha2 => (by (repeat rw [up2_o (by omega)]); first | done | rfl)) (by (repeat rw [up2_o (by omega)]); first | done | rfl) (fun a ha ha2 => (by (repeat (first | rw [up2_row (by omega)] | rw [acp_row (by omega)])); first | done | rfl)) rfl, xRd_cong hRd (fun a ha => (by (repeat rw [up2_o (by omega)]); first | done | rfl))⟩ ⟨Nat.le_refl _, fun _ _ => rfl, fun q a ha hq => ⟨(by (repeat rw [up2_o (by omega)]); first | done | rfl), (by (repeat rw [up2_o (by omega)]); first | done | rfl)⟩, fun a ha => (by (repeat (first | rw [up2_row (by omega)] | rw [acp_row (by omega)])); first | done | rfl)⟩ (by omega) (by omega)
  · refine ⟨⟨up2_eq, fun j hj => absurd hj (Nat.not_lt_zero _)⟩, ?_, fun j hj => ?_⟩
    · rw [up2_o (by omega), up2_o (by omega), up2_o (by omega)]; exact hTO.2.1
    · rw [acp_row (by omega)]; exact hTO.2.2 j hj
  · refine ⟨⟨?_, ?_, fun i hi => ?_⟩, fun i hi j hj => ?_, ?_, ?_, ?_, cc, ss, m6, m7, ?_, ?_, EE, ?_⟩
    · rw [up2_o (by omega), up2_eq]; rfl
    · show T.1 6 0 + 1 ≤ 8
      omega
    · have hi' : i < T.1 6 0 + 1 := hi
      show _ ∧ up2 (up2 (sTO T.1 0 (T.1 1 0) (T.1 30) (T.1 31)) 6 0 (T.1 6 0 + 1)) 7 (T.1 6 0) (T.1 0 0) 7 i ≤ 40
      show _ = nI (up2 (up2 (sTO T.1 0 (T.1 1 0) (T.1 30) (T.1 31)) 6 0 (T.1 6 0 + 1)) 7 (T.1 6 0) (T.1 0 0) 7 i) ∧ _
      by_cases e : i = T.1 6 0
      · subst e
        rw [up2_eq, up2_o (by omega), up2_o (by omega), up2_eq]
        exact ⟨rfl, by omega⟩
      · rw [up2_a e, up2_o (by omega), up2_o (by omega), up2_o (by omega), up2_k (by decide)]
        exact m1.2.2 i (by omega)
    · have hi' : i < T.1 6 0 + 1 := hi
      show _ = nI (up2 T.2.1 1 (T.1 6 0) (T.1 30) 1 i j)
      have hj' : j < up2 (up2 (sTO T.1 0 (T.1 1 0) (T.1 30) (T.1 31)) 6 0 (T.1 6 0 + 1)) 7 (T.1 6 0) (T.1 0 0) 7 i := hj
      by_cases e : i = T.1 6 0
      · subst e
        rw [up2_eq] at hj'
        rw [up2_eq, show x + 48 + 2 * T.1 6 0 = x + 38 + 10 + 2 * T.1 6 0 by omega, acp_in (Nat.zero_le _) (by omega), Nat.zero_add, Nat.sub_zero]
        exact hTO.1.2 j hj'
      · rw [up2_a e, up2_k (by decide)] at hj'
        rw [up2_a e, acp_row (by omega)]
        exact m2 i (by omega) j hj'
    · rw [up2_o (by omega), up2_o (by omega), up2_o (by omega)]; exact m3
    · rw [up2_o (by omega), up2_o (by omega), up2_o (by omega)]; exact m4
    · rw [acp_row (by omega)]; exact m5
    · rw [up2_o (by omega), up2_o (by omega), up2_o (by omega)]; exact m8
    · rw [up2_o (by omega), up2_o (by omega), up2_o (by omega)]; exact m9
    · rw [acp_row (by omega)]; exact m10
theorem c_forget (h : XS n sh F R A B x ba ma T) (hQ : xPost n u sh F R A x (nI (T.1 6 0), (up2 T.1 6 0 0, T.2)) Q) : rc_ (k + 8) mX11_forget [.ref x] (mkh n u sh F R A B) Q := by
  obtain ⟨hx, hX, hTO, hDr, hBk, hPk, hGm, hSm, hWi, hRd⟩ := id h
  have r38 := hX.r0 1108 38 (by decide)
  have s0 := hX.s0
  have t38 := hX.s 38 0 8 0 (by decide)
  obtain ⟨m1, m2, m3, m4, m5, cc, ss, m6, m7, m8, m9, EE, m10⟩ := id hSm
  rw [eX11_forget]
  simp only [rX11_forget_0, rX11_forget_1, rX11_forget_4, rX11_forget_7, rX11_forget_8, rX11_forget_9, rX11_forget_12, rX11_forget_13, rX11_forget_16, rX11_forget_17, s0, r38, t38, m1.1, up2_eq, va_rf, eq_self, or_true, true_or, Option.toList_some, Option.toList_none, List.cons_append, List.nil_append, if_true, if_false]
  refine hQ n u _ _ _ _ _ ba ma ⟨hx, hX, xTO_cong (N := T.1) hTO (fun a ha => (by (repeat rw [up2_o (by omega)]); first | done | rfl)) (fun a ha => (by (repeat (first | rw [up2_row (by omega)] | rw [acp_row (by omega)])); first | done | rfl)), xDr_cong (N := T.1) (J := T.2.1) hDr (by (repeat rw [up2_o (by omega)]); first | done | rfl) (by (repeat rw [up2_o (by omega)]); first | done | rfl) (fun a ha => (by (repeat (first | rw [up2_row (by omega)] | rw [acp_row (by omega)])); first | done | rfl)), xBk_cong (T := T) hBk hx (Nat.le_refl _) (fun _ _ => rfl) (fun q a ha hq => (by (repeat rw [up2_o (by omega)]); first | done | rfl)) (fun q a ha hq => (by (repeat rw [up2_o (by omega)]); first | done | rfl)) (by (repeat rw [up2_o (by omega)]); first | done | rfl) (fun a ha ha2 => (by (repeat (first | rw [up2_row (by omega)] | rw [acp_row (by omega)])); first | done | rfl)) rfl, xPk_cong (T := T) hPk (by (repeat rw [up2_o (by omega)]); first | done | rfl) (by (repeat rw [up2_o (by omega)]); first | done | rfl) (by (repeat rw [up2_o (by omega)]); first | done | rfl) (fun a ha ha2 => (by (repeat (first | rw [up2_row (by omega)] | rw [acp_row (by omega)])); first | done | rfl)), hGm, ⟨⟨up2_eq, Nat.zero_le _, fun i hi => absurd hi (Nat.not_lt_zero _)⟩, fun i hi => absurd hi (Nat.not_lt_zero _), ?_, ?_, m5, cc, ss, m6, m7, ?_, ?_, EE, m10⟩, xWi_cong (T := T) hWi (Nat.le_refl _) (fun _ _ => rfl) (fun q a ha hq => (by (repeat rw [up2_o (by omega)]); first | done | rfl)) (fun q a ha hq => (by (repeat rw [up2_o (by omega)]); first | done | rfl)) (fun q ha ha2 => (by (repeat rw [up2_o (by omega)]); first | done | rfl)) (by (repeat rw [up2_o (by omega)]); first | done | rfl) (fun a ha ha2 => (by (repeat (first | rw [up2_row (by omega)] | rw [acp_row (by omega)])); first | done | rfl)) rfl, xRd_cong hRd (fun a ha => (by (repeat rw [up2_o (by omega)]); first | done | rfl))⟩ ⟨Nat.le_refl _, fun _ _ => rfl, fun q a ha hq => ⟨(by (repeat rw [up2_o (by omega)]); first | done | rfl), (by (repeat rw [up2_o (by omega)]); first | done | rfl)⟩, fun a ha => (by (repeat (first | rw [up2_row (by omega)] | rw [acp_row (by omega)])); first | done | rfl)⟩ (by omega) (by omega)
  · rw [up2_o (by omega)]; exact m3
  · rw [up2_o (by omega)]; exact m4
  · rw [up2_o (by omega)]; exact m8
  · rw [up2_o (by omega)]; exact m9
def s_gained (T : TT) (w : Int32) : Int32 := if w < nI 0 then -3 else if T.1 17 0 = 0 then -1 else if w = nI 0 then nI (T.1 16 0) else if w = nI 1 then nI (T.1 17 0) else match ix (w - nI 2) (T.1 17 0) with
  | none => -1
  | some q => T.2.2 11 q
theorem c_gained {w : Int32} (h : XS n sh F R A B x ba ma T) (hT : okT T) (hQ : xPost n u sh F R A x (s_gained T w, T) Q) : rc_ (k + 8) mX11_gained [.ref x, .int w] (mkh n u sh F R A B) Q := by
  obtain ⟨hx, hX, hTO, hDr, hBk, hPk, hGm, hSm, hWi, hRd⟩ := id h
  have hq := xPost_same hQ h
  have r38 := hX.r0 1108 38 (by decide)
  have r46 := hX.r 808 38 46 (by decide)
  have s46 := hX.s 46 1 0 6 (by decide)
  have s0 := hX.s0
  have t38 := hX.s 38 0 8 0 (by decide)
  obtain ⟨m1, m2, m3, m4, m5, cc, ss, m6, m7, m8, m9, EE, m10⟩ := id hSm
  have k6 := hT.2.2.2.2.2.1.2.2
  rw [eX11_gained]
  unfold s_gained at hq
  by_cases c1 : w < nI 0
  · rw [if_pos c1] at hq
    have g1 : ¬ nI 0 ≤ w := Int32.not_le.mpr c1
    simp only [rX11_gained_0, rX11_gained_1, rX11_gained_4, rX11_gained_6, g1, up2_eq, va_rf, eq_self, or_true, true_or, Option.toList_some, Option.toList_none, List.cons_append, List.nil_append, if_true, if_false]
    exact hq
  rw [if_neg c1] at hq
  have g1 : nI 0 ≤ w := Int32.not_lt.mp c1
  by_cases c2 : T.1 17 0 = 0
  · rw [if_pos c2] at hq
    have g2 : nI (T.1 17 0) = nI 0 := by rw [c2]
    simp only [rX11_gained_0, rX11_gained_1, rX11_gained_7, rX11_gained_8, rX11_gained_11, rX11_gained_14, rX11_gained_17, rX11_gained_18, g1, s0, r38, t38, m4, g2, up2_eq, va_rf, eq_self, or_true, true_or, Option.toList_some, Option.toList_none, List.cons_append, List.nil_append, if_true, if_false]
    exact hq
  rw [if_neg c2] at hq
  have g2 : ¬ nI (T.1 17 0) = nI 0 := nI_ne0 (by omega) (by omega)
  simp only [rX11_gained_0, rX11_gained_1, rX11_gained_7, rX11_gained_8, rX11_gained_11, rX11_gained_14, rX11_gained_19, rX11_gained_20, g1, s0, r38, t38, m4, g2, up2_eq, va_rf, eq_self, or_true, true_or, Option.toList_some, Option.toList_none, List.cons_append, List.nil_append, if_true, if_false]
  by_cases w0 : w = nI 0
  · rw [if_pos w0] at hq ⊢
    simp only [rX11_gained_48, rX11_gained_49, rX11_gained_52, rX11_gained_55, s0, r38, t38, m3, up2_eq, va_rf, eq_self, or_true, true_or, Option.toList_some, Option.toList_none, List.cons_append, List.nil_append, if_true, if_false]
    exact hq
  rw [if_neg w0] at hq ⊢
  by_cases w0 : w = nI 1
  · rw [if_pos w0] at hq ⊢
    simp only [rX11_gained_56, rX11_gained_57, rX11_gained_60, rX11_gained_63, s0, r38, t38, m4, up2_eq, va_rf, eq_self, or_true, true_or, Option.toList_some, Option.toList_none, List.cons_append, List.nil_append, if_true, if_false]
    exact hq
  rw [if_neg w0] at hq ⊢
  simp only [rX11_gained_64, rX11_gained_65, rX11_gained_68, rX11_gained_69, rX11_gained_70, s0, r38, up2_eq, va_rf, eq_self, or_true, true_or, Option.toList_some, Option.toList_none, List.cons_append, List.nil_append, if_true, if_false]
  rw [rX11_gained_71 t38, eX8_keptGain]
  cases hi : ix (w - nI 2) (T.1 17 0) with
  | none =>
    rw [hi] at hq
    rcases ix_none hi with e1 | ⟨e1, e2⟩
    · simp only [rX8_keptGain_0, rX8_keptGain_1, rX8_keptGain_21, rX8_keptGain_22, e1, up2_eq, va_rf, eq_self, or_true, true_or, Option.toList_some, Option.toList_none, List.cons_append, List.nil_append, if_true, if_false]
      simp only [rX11_gained_74, up2_eq, va_rf, eq_self, or_true, true_or, Option.toList_some, Option.toList_none, List.cons_append, List.nil_append, if_true, if_false]
      exact hq
    · simp only [rX8_keptGain_0, rX8_keptGain_1, rX8_keptGain_4, rX8_keptGain_5, rX8_keptGain_6, rX8_keptGain_9, rX8_keptGain_21, rX8_keptGain_22, t38, m4, e1, e2, up2_eq, va_rf, eq_self, or_true, true_or, Option.toList_some, Option.toList_none, List.cons_append, List.nil_append, if_true, if_false]
      simp only [rX11_gained_74, up2_eq, va_rf, eq_self, or_true, true_or, Option.toList_some, Option.toList_none, List.cons_append, List.nil_append, if_true, if_false]
      exact hq
  | some q =>
    rw [hi] at hq
    obtain ⟨e1, e2, e3⟩ := ix_some hi
    rw [e3]
    have e4 : ¬ nI q < nI 0 := nI_nlt (Nat.zero_le _) e2
    have e5 : ¬ nI (T.1 17 0) ≤ nI q := nI_ge e1 (by omega)
    simp only [rX8_keptGain_0, rX8_keptGain_1, rX8_keptGain_4, rX8_keptGain_5, rX8_keptGain_6, rX8_keptGain_9, rX8_keptGain_12, rX8_keptGain_13, rX8_keptGain_16, t38, m4, r46, e4, e5, up2_eq, va_rf, eq_self, or_true, true_or, Option.toList_some, Option.toList_none, List.cons_append, List.nil_append, if_true, if_false]
    rw [rX8_keptGain_17 s46 (by decide) (by omega) (by omega), m5 q e1]
    simp only [rX8_keptGain_18, rX8_keptGain_22, up2_eq, va_rf, eq_self, or_true, true_or, Option.toList_some, Option.toList_none, List.cons_append, List.nil_append, if_true, if_false]
    simp only [rX11_gained_74, up2_eq, va_rf, eq_self, or_true, true_or, Option.toList_some, Option.toList_none, List.cons_append, List.nil_append, if_true, if_false]
    exact hq
end MOR
