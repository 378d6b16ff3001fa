/-! ===== the class: calls that only look; tape, OUT, tell ===== -/
section SIM
variable {k n u : Nat} {sh : hs_} {F F' : hF_} {R R' : hR_} {A A' : hF_} {B : hR_} {Q : Option Value → pm_H → Prop} {x : Nat} {ba ma : Nat → Nat} {T : TT}
def s_trim (T : TT) (i : Int32) : Int32 × TT := if i < nI 0 ∨ nI (T.1 0 0) < i then (-3, T) else (i, (sTO T.1 i.toNatClampNeg (T.1 1 0) (T.1 30) (T.1 31), T.2))
theorem c_trim {i : Int32} (h : XS n sh F R A B x ba ma T) (hT : okT T) (hQ : xPost n u sh F R A x (s_trim T i) Q) : rc_ (k + 8) mX11_trim [.ref x, .int i] (mkh n u sh F R A B) Q := by
  obtain ⟨hx, hX, hTO, hDr, hBk, hPk, hGm, hSm, hWi, hRd⟩ := id h
  have r1 := hX.r0 1100 1 (by decide)
  have s0 := hX.s0
  have t1 := hX.s 1 0 1 0 (by decide)
  have t0 := hT.1.1
  rw [eX11_trim]
  unfold s_trim at hQ
  by_cases c1 : i < nI 0
  · rw [if_pos (Or.inl c1)] at hQ
    simp only [rX11_trim_0, rX11_trim_1, rX11_trim_15, rX11_trim_17, c1, up2_eq, va_rf, eq_self, or_true, true_or, Option.toList_some, Option.toList_none, List.cons_append, List.nil_append, if_true, if_false]
    exact xPost_same hQ h
  · obtain ⟨j, hj, rfl⟩ := nI_of c1
    by_cases c2 : nI (T.1 0 0) < nI j
    · rw [if_pos (Or.inr c2)] at hQ
      have g1 : ¬ nI j ≤ nI (T.1 0 0) := Int32.not_le.mpr c2
      simp only [rX11_trim_0, rX11_trim_1, rX11_trim_4, rX11_trim_5, rX11_trim_6, rX11_trim_9, rX11_trim_12, rX11_trim_15, rX11_trim_17, c1, s0, r1, t1, hTO.1.1, g1, up2_eq, va_rf, eq_self, or_true, true_or, Option.toList_some, Option.toList_none, List.cons_append, List.nil_append, if_true, if_false]
      exact xPost_same hQ h
    · rw [if_neg (fun e => e.elim c1 c2), nI_clamp hj] at hQ
      have g1 : nI j ≤ nI (T.1 0 0) := Int32.not_lt.mp c2
      have hjt : j ≤ T.1 0 0 := Nat.not_lt.mp fun e => c2 (nI_lt e hj)
      simp only [rX11_trim_0, rX11_trim_1, rX11_trim_4, rX11_trim_5, rX11_trim_6, rX11_trim_9, rX11_trim_12, rX11_trim_18, rX11_trim_19, rX11_trim_22, c1, s0, r1, t1, hTO.1.1, g1, up2_eq, va_rf, eq_self, or_true, true_or, Option.toList_some, Option.toList_none, List.cons_append, List.nil_append, if_true, if_false]
      rw [rX11_trim_23 t1, k_Bytes_shorten (hX.tape hTO t0) hjt]
      simp only [rX11_trim_26, rX11_trim_27, up2_eq, va_rf, eq_self, or_true, true_or, Option.toList_some, Option.toList_none, List.cons_append, List.nil_append, if_true, if_false]
      obtain ⟨q1, q2⟩ := XS_TO (F' := up2 F 101 (x + 1) (nI j)) (R' := R) (A' := A) (t := j) (o := T.1 1 0) (f := T.1 30) (g := T.1 31) h (fun q a hq => up2_o (by omega)) (fun _ _ _ => rfl) (fun _ _ => rfl) up2_eq (fun q hq => hTO.1.2 q (by omega)) (by rw [up2_o (by omega)]; exact hTO.2.1) hTO.2.2 (xRd_cong hRd (fun a ha => up2_o (by omega)))
      exact hQ n u _ _ _ _ _ _ _ q1 q2 (by omega) (by omega)
def s_again (T : TT) : Int32 × TT := (nI (T.1 1 0), (sTO T.1 (T.1 1 0) (T.1 1 0) (T.1 31) (T.1 31), T.2))
theorem c_again (h : XS n sh F R A B x ba ma T) (hT : okT T) (hQ : xPost n u sh F R A x (s_again T) Q) : rc_ (k + 8) mX11_again [.ref x] (mkh n u sh F R A B) Q := by
  obtain ⟨hx, hX, hTO, hDr, hBk, hPk, hGm, hSm, hWi, hRd⟩ := id h
  have r1 := hX.r0 1100 1 (by decide)
  have r3 := hX.r0 1101 3 (by decide)
  have s0 := hX.s0
  have t1 := hX.s 1 0 1 0 (by decide)
  have t3 := hX.s 3 0 1 0 (by decide)
  have o1 := hT.2.1
  have g1 : nI (T.1 1 0) ≤ nI 240 := nI_le (by omega) (by omega)
  rw [eX11_again]
  simp only [rX11_again_0, rX11_again_1, rX11_again_4, rX11_again_7, rX11_again_10, rX11_again_16, rX11_again_17, rX11_again_20, rX11_again_21, s0, r1, r3, t3, hTO.2.1, g1, up2_eq, va_rf, eq_self, or_true, true_or, Option.toList_some, Option.toList_none, List.cons_append, List.nil_append, if_true, if_false]
  rw [rX11_again_24 t1, k_Bytes_become (hX.tape hTO hT.1.1) (hX.out hTO o1.1) (by omega) (by omega) o1.1 (fun j hj => by rw [hTO.2.2 j hj]; exact nI_byte (o1.2 j hj))]
  simp only [rX11_again_27, rX11_again_28, rX11_again_31, rX11_again_34, s0, r1, t1, up2_eq, va_rf, eq_self, or_true, true_or, Option.toList_some, Option.toList_none, List.cons_append, List.nil_append, if_true, if_false]
  have hh2 : ∀ j, j < T.1 1 0 → acp A (x + 2) 0 (x + 4) 0 (T.1 1 0) (x + 2) j = nI (T.1 31 j) := fun j hj => by
    rw [acp_in (Nat.zero_le _) (by omega), Nat.zero_add, Nat.sub_zero]
    exact hTO.2.2 j hj
  obtain ⟨q1, q2⟩ := XS_TO (F' := up2 F 101 (x + 1) (nI (T.1 1 0))) (R' := R) (A' := acp A (x + 2) 0 (x + 4) 0 (T.1 1 0)) (t := T.1 1 0) (o := T.1 1 0) (f := T.1 31) (g := T.1 31) h (fun q a hq => up2_o (by omega)) (fun _ _ _ => rfl) (fun a ha => acp_row (by omega)) up2_eq hh2 (by rw [up2_o (by omega)]; exact hTO.2.1) (fun j hj => by rw [acp_out (Or.inl (by omega))]; exact hTO.2.2 j hj) (xRd_cong hRd (fun a ha => up2_o (by omega)))
  exact hQ n u _ _ _ _ _ _ _ q1 q2 (by omega) (by omega)
def s_out (T : TT) (i : Int32) : Int32 := match ix i (T.1 1 0) with
  | none => -1
  | some j => nI (T.1 31 j)
theorem c_out {i : Int32} (h : XS n sh F R A B x ba ma T) (hT : okT T) (hQ : xPost n u sh F R A x (s_out T i, T) Q) : rc_ (k + 8) mX11_out [.ref x, .int i] (mkh n u sh F R A B) Q := by
  obtain ⟨hx, hX, hTO, hDr, hBk, hPk, hGm, hSm, hWi, hRd⟩ := id h
  have r3 := hX.r0 1101 3 (by decide)
  have s0 := hX.s0
  have t3 := hX.s 3 0 1 0 (by decide)
  have o1 := hT.2.1
  rw [eX11_out]
  simp only [rX11_out_0, rX11_out_1, rX11_out_4, s0, r3, up2_eq, va_rf, eq_self, or_true, true_or, Option.toList_some, Option.toList_none, List.cons_append, List.nil_append, if_true, if_false]
  rw [rX11_out_5 t3, k_Bytes_at (hX.out hTO o1.1)]
  simp only [rX11_out_8, up2_eq, va_rf, eq_self, or_true, true_or, Option.toList_some, Option.toList_none, List.cons_append, List.nil_append, if_true, if_false]
  have e : bat A (x + 4) (T.1 1 0) i = s_out T i := by
    unfold bat s_out ix
    by_cases c1 : i < nI 0
    · rw [if_pos c1, if_pos c1]
    · rw [if_neg c1, if_neg c1]
      by_cases c2 : nI (T.1 1 0) ≤ i
      · rw [if_pos c2, if_pos c2]
      · rw [if_neg c2, if_neg c2]
        obtain ⟨j, hj, rfl⟩ := nI_of c1
        rw [nI_clamp hj]
        exact hTO.2.2 j (Nat.not_le.mp fun e => c2 (nI_le e hj))
  rw [e]
  exact xPost_same hQ h
def s_about (T : TT) (i w : Int32) : Int32 := match ix i (T.1 2 0) with
  | none => -3
  | some b => if w = nI 0 then nI (T.1 3 b) else if w = nI 1 then nI (T.1 4 b) else if w = nI 2 then nI (T.1 5 b) else if w = nI 3 then nI (T.1 18 b) else if w = nI 4 then nI (T.1 19 b) else if w = nI 5 then T.2.2 2 b else -3
theorem c_about {i w : Int32} (h : XS n sh F R A B x ba ma T) (hT : okT T) (hQ : xPost n u sh F R A x (s_about T i w, T) Q) : rc_ (k + 8) mX11_about [.ref x, .int i, .int w] (mkh n u sh F R A B) Q := by
  obtain ⟨hx, hX, hTO, hDr, hBk, hPk, hGm, hSm, hWi, hRd⟩ := id h
  have r9 := hX.r0 1103 9 (by decide)
  have s0 := hX.s0
  have s9 := hX.s 9 0 7 0 (by decide)
  have hS := hX.shelf hBk hT.2.2.2.1.1
  have hq := xPost_same hQ h
  rw [eX11_about]
  simp only [rX11_about_0, rX11_about_1, rX11_about_4, s0, r9, up2_eq, va_rf, eq_self, or_true, true_or, Option.toList_some, Option.toList_none, List.cons_append, List.nil_append, if_true, if_false]
  rw [rX11_about_5 s9, k_Shelf_find hS, fnd_ix]
  unfold s_about at hq
  cases hi : ix i (T.1 2 0) with
  | none =>
    rw [hi] at hq
    simp only [Option.map_none, rX11_about_8, rX11_about_8_n, rX11_about_9, rX11_about_9_n, rX11_about_10, rX11_about_10_n, rX11_about_13, rX11_about_15, up2_eq, va_rf, eq_self, or_true, true_or, Option.toList_some, Option.toList_none, List.cons_append, List.nil_append, if_true, if_false]
    exact hq
  | some b =>
    rw [hi] at hq
    obtain ⟨hb, -, -⟩ := ix_some hi
    obtain ⟨⟨a1, a2, a3, a4, a5, a6, a7, a8, a9⟩, ⟨b1, b2, b3, b4, b5⟩, c1, c2, c3, c4, c5, c6, c7⟩ := hBk.2.2.2.2 b (Or.inl hb)
    have hheld := (hT.2.2.2.1.2.1 b (Or.inl hb)).2.2.1
    dsimp only at hq
    simp only [Option.map_some, rX11_about_8, rX11_about_8_n, rX11_about_9, rX11_about_9_n, rX11_about_10, rX11_about_10_n, rX11_about_16, rX11_about_17, up2_eq, va_rf, eq_self, or_true, true_or, Option.toList_some, Option.toList_none, List.cons_append, List.nil_append, if_true, if_false]
    by_cases w0 : w = nI 0
    · rw [if_pos w0] at hq ⊢
      simp only [rX11_about_56, rX11_about_56_n, rX11_about_57, rX11_about_60, a1, b1, up2_eq, va_rf, eq_self, or_true, true_or, Option.toList_some, Option.toList_none, List.cons_append, List.nil_append, if_true, if_false]
      exact hq
    rw [if_neg w0] at hq ⊢
    by_cases w0 : w = nI 1
    · rw [if_pos w0] at hq ⊢
      simp only [rX11_about_61, rX11_about_61_n, rX11_about_62, rX11_about_65, rX11_about_68, a1, a2, a3, b2, up2_eq, va_rf, eq_self, or_true, true_or, Option.toList_some, Option.toList_none, List.cons_append, List.nil_append, if_true, if_false]
      exact hq
    rw [if_neg w0] at hq ⊢
    by_cases w0 : w = nI 2
    · rw [if_pos w0] at hq ⊢
      simp only [rX11_about_69, rX11_about_69_n, rX11_about_70, rX11_about_73, rX11_about_76, rX11_about_79, a1, a2, a3, a4, a6, b3, up2_eq, va_rf, eq_self, or_true, true_or, Option.toList_some, Option.toList_none, List.cons_append, List.nil_append, if_true, if_false]
      exact hq
    rw [if_neg w0] at hq ⊢
    by_cases w0 : w = nI 3
    · rw [if_pos w0] at hq ⊢
      simp only [rX11_about_80, rX11_about_80_n, rX11_about_81, rX11_about_84, a1, c2, up2_eq, va_rf, eq_self, or_true, true_or, Option.toList_some, Option.toList_none, List.cons_append, List.nil_append, if_true, if_false]
      exact hq
    rw [if_neg w0] at hq ⊢
    by_cases w0 : w = nI 4
    · rw [if_pos w0] at hq ⊢
      by_cases e : T.1 19 b = 0
      · have g : nI (T.1 19 b) = nI 0 := by rw [e]
        rw [g] at hq c4
        simp only [rX11_about_85, rX11_about_85_n, rX11_about_86, rX11_about_89, rX11_about_92, rX11_about_93, rX11_about_96, rX11_about_97, a1, c4, up2_eq, va_rf, eq_self, or_true, true_or, Option.toList_some, Option.toList_none, List.cons_append, List.nil_append, if_true, if_false]
        exact hq
      · have e1 : T.1 19 b = 1 := by omega
        have g : nI (T.1 19 b) = nI 1 := by rw [e1]
        have g2 : ¬ nI 1 = nI 0 := by decide
        rw [g] at hq c4
        simp only [rX11_about_85, rX11_about_85_n, rX11_about_86, rX11_about_89, rX11_about_92, rX11_about_93, rX11_about_96, rX11_about_97, a1, c4, g2, up2_eq, va_rf, eq_self, or_true, true_or, Option.toList_some, Option.toList_none, List.cons_append, List.nil_append, if_true, if_false]
        exact hq
    rw [if_neg w0] at hq ⊢
    by_cases w0 : w = nI 5
    · rw [if_pos w0] at hq ⊢
      simp only [rX11_about_98, rX11_about_98_n, rX11_about_99, rX11_about_102, a1, c3, up2_eq, va_rf, eq_self, or_true, true_or, Option.toList_some, Option.toList_none, List.cons_append, List.nil_append, if_true, if_false]
      exact hq
    rw [if_neg w0] at hq ⊢
    simp only [rX11_about_103, rX11_about_105, up2_eq, va_rf, eq_self, or_true, true_or, Option.toList_some, Option.toList_none, List.cons_append, List.nil_append, if_true, if_false]
    exact hq
def s_isOf (T : TT) (i w : Int32) : Int32 := match ix i (T.1 2 0) with
  | none => -3
  | some b => if w < nI 0 ∨ nI 2 < w then -3 else if nI (T.1 3 b) < w then nI 0 else nI 1
theorem c_isOf {i w : Int32} (h : XS n sh F R A B x ba ma T) (hT : okT T) (hQ : xPost n u sh F R A x (s_isOf T i w, T) Q) : rc_ (k + 8) mX11_isOf [.ref x, .int i, .int w] (mkh n u sh F R A B) Q := by
  obtain ⟨hx, hX, hTO, hDr, hBk, hPk, hGm, hSm, hWi, hRd⟩ := id h
  have r9 := hX.r0 1103 9 (by decide)
  have s0 := hX.s0
  have s9 := hX.s 9 0 7 0 (by decide)
  have hS := hX.shelf hBk hT.2.2.2.1.1
  have hq := xPost_same hQ h
  rw [eX11_isOf]
  simp only [rX11_isOf_0, rX11_isOf_1, rX11_isOf_4, s0, r9, up2_eq, va_rf, eq_self, or_true, true_or, Option.toList_some, Option.toList_none, List.cons_append, List.nil_append, if_true, if_false]
  rw [rX11_isOf_5 s9, k_Shelf_find hS, fnd_ix]
  unfold s_isOf at hq
  cases hi : ix i (T.1 2 0) with
  | none =>
    rw [hi] at hq
    simp only [Option.map_none, rX11_isOf_8, rX11_isOf_8_n, rX11_isOf_9, rX11_isOf_9_n, rX11_isOf_10, rX11_isOf_10_n, rX11_isOf_22, rX11_isOf_24, up2_eq, va_rf, eq_self, or_true, true_or, Option.toList_some, Option.toList_none, List.cons_append, List.nil_append, if_true, if_false]
    exact hq
  | some b =>
    rw [hi] at hq
    obtain ⟨hb, -, -⟩ := ix_some hi
    obtain ⟨⟨a1, -⟩, ⟨b1, -⟩, -⟩ := hBk.2.2.2.2 b (Or.inl hb)
    dsimp only at hq
    simp only [Option.map_some, rX11_isOf_8, rX11_isOf_8_n, rX11_isOf_9, rX11_isOf_9_n, rX11_isOf_10, rX11_isOf_10_n, rX11_isOf_13, rX11_isOf_14, up2_eq, va_rf, eq_self, or_true, true_or, Option.toList_some, Option.toList_none, List.cons_append, List.nil_append, if_true, if_false]
    by_cases c1 : w < nI 0
    · rw [if_pos (Or.inl c1)] at hq
      simp only [rX11_isOf_22, rX11_isOf_24, c1, up2_eq, va_rf, eq_self, or_true, true_or, Option.toList_some, Option.toList_none, List.cons_append, List.nil_append, if_true, if_false]
      exact hq
    · by_cases c2 : nI 2 < w
      · rw [if_pos (Or.inr c2)] at hq
        have g1 : ¬ w ≤ nI 2 := Int32.not_le.mpr c2
        simp only [rX11_isOf_17, rX11_isOf_18, rX11_isOf_19, rX11_isOf_22, rX11_isOf_24, c1, g1, up2_eq, va_rf, eq_self, or_true, true_or, Option.toList_some, Option.toList_none, List.cons_append, List.nil_append, if_true, if_false]
        exact hq
      · rw [if_neg (fun e => e.elim c1 c2)] at hq
        have g1 : w ≤ nI 2 := Int32.not_lt.mp c2
        simp only [rX11_isOf_17, rX11_isOf_18, rX11_isOf_19, rX11_isOf_25, rX11_isOf_25_n, rX11_isOf_26, rX11_isOf_29, rX11_isOf_30, c1, g1, a1, b1, up2_eq, va_rf, eq_self, or_true, true_or, Option.toList_some, Option.toList_none, List.cons_append, List.nil_append, if_true, if_false]
        by_cases c3 : nI (T.1 3 b) < w
        · rw [if_pos c3] at hq ⊢
          simp only [rX11_isOf_37, rX11_isOf_38, up2_eq, va_rf, eq_self, or_true, true_or, Option.toList_some, Option.toList_none, List.cons_append, List.nil_append, if_true, if_false]
          exact hq
        · rw [if_neg c3] at hq ⊢
          simp only [rX11_isOf_33, rX11_isOf_34, rX11_isOf_38, up2_eq, va_rf, eq_self, or_true, true_or, Option.toList_some, Option.toList_none, List.cons_append, List.nil_append, if_true, if_false]
          exact hq
def s_bits (T : TT) : Int32 := if T.1 14 0 = 0 then -1 else nI (T.1 25 0)
theorem c_bits (h : XS n sh F R A B x ba ma T) (hQ : xPost n u sh F R A x (s_bits T, T) Q) : rc_ (k + 8) mX11_bits [.ref x] (mkh n u sh F R A B) Q := by
  obtain ⟨hx, hX, hTO, hDr, hBk, hPk, hGm, hSm, hWi, hRd⟩ := id h
  have hq := xPost_same hQ h
  rw [eX11_bits]
  simp only [rX11_bits_0, rX11_bits_1, rX11_bits_4, hX.s0, hPk.1, up2_eq, va_rf, eq_self, or_true, true_or, Option.toList_some, Option.toList_none, List.cons_append, List.nil_append, if_true, if_false]
  exact hq
theorem c_fault (h : XS n sh F R A B x ba ma T) (hQ : xPost n u sh F R A x (nI (T.1 26 0), T) Q) : rc_ (k + 8) mX11_fault [.ref x] (mkh n u sh F R A B) Q := by
  obtain ⟨hx, hX, hTO, hDr, hBk, hPk, hGm, hSm, hWi, hRd⟩ := id h
  have hq := xPost_same hQ h
  rw [eX11_fault]
  simp only [rX11_fault_0, rX11_fault_1, rX11_fault_4, hX.s0, hPk.2.2.2.2, up2_eq, va_rf, eq_self, or_true, true_or, Option.toList_some, Option.toList_none, List.cons_append, List.nil_append, if_true, if_false]
  exact hq
def s_rest (T : TT) (i : Int32) : Int32 := if i < nI 0 ∨ nI 120 < i then -3 else if T.1 14 0 = 0 then -1 else if nI (T.1 15 0) < i then -3 else nI (T.1 24 i.toNatClampNeg)
theorem c_rest {i : Int32} (h : XS n sh F R A B x ba ma T) (hT : okT T) (hQ : xPost n u sh F R A x (s_rest T i, T) Q) : rc_ (k + 8) mX11_rest [.ref x, .int i] (mkh n u sh F R A B) Q := by
  obtain ⟨hx, hX, hTO, hDr, hBk, hPk, hGm, hSm, hWi, hRd⟩ := id h
  have hq := xPost_same hQ h
  have s0 := hX.s0
  have r16 := hX.r0 1104 16 (by decide)
  have s16 := hX.s 16 0 4 0 (by decide)
  have hp := hPk.1
  obtain ⟨p1, p2, p3, p4, p5⟩ := hT.2.2.2.2.1
  rw [eX11_rest]
  unfold s_rest at hq
  by_cases c1 : i < nI 0
  · rw [if_pos (Or.inl c1)] at hq
    simp only [rX11_rest_0, rX11_rest_1, rX11_rest_10, rX11_rest_12, c1, up2_eq, va_rf, eq_self, or_true, true_or, Option.toList_some, Option.toList_none, List.cons_append, List.nil_append, if_true, if_false]
    exact hq
  · by_cases c2 : nI 120 < i
    · rw [if_pos (Or.inr c2)] at hq
      have g1 : ¬ i ≤ nI 120 := Int32.not_le.mpr c2
      simp only [rX11_rest_0, rX11_rest_1, rX11_rest_4, rX11_rest_5, rX11_rest_7, rX11_rest_10, rX11_rest_12, c1, g1, up2_eq, va_rf, eq_self, or_true, true_or, Option.toList_some, Option.toList_none, List.cons_append, List.nil_append, if_true, if_false]
      exact hq
    · rw [if_neg (fun e => e.elim c1 c2)] at hq
      have g1 : i ≤ nI 120 := Int32.not_lt.mp c2
      by_cases c3 : T.1 14 0 = 0
      · rw [if_pos c3] at hq hp
        simp only [rX11_rest_0, rX11_rest_1, rX11_rest_4, rX11_rest_5, rX11_rest_7, rX11_rest_13, rX11_rest_14, rX11_rest_17, rX11_rest_18, rX11_rest_21, rX11_rest_22, c1, g1, s0, hp, up2_eq, va_rf, eq_self, or_true, true_or, Option.toList_some, Option.toList_none, List.cons_append, List.nil_append, if_true, if_false]
        exact hq
      · rw [if_neg c3] at hq hp
        have g2 : ¬ nI (T.1 25 0) = -1 := fun e => by
          have h1 := nI_toInt (n := T.1 25 0) (by omega)
          rw [e] at h1
          have h2 : (-1 : Int32).toInt = -1 := by decide
          omega
        simp only [rX11_rest_0, rX11_rest_1, rX11_rest_4, rX11_rest_5, rX11_rest_7, rX11_rest_13, rX11_rest_14, rX11_rest_17, rX11_rest_18, rX11_rest_21, rX11_rest_22, rX11_rest_23, rX11_rest_24, rX11_rest_25, rX11_rest_28, rX11_rest_31, c1, g1, s0, hp, g2, r16, s16, hPk.2.1, up2_eq, va_rf, eq_self, or_true, true_or, Option.toList_some, Option.toList_none, List.cons_append, List.nil_append, if_true, if_false]
        by_cases c4 : nI (T.1 15 0) < i
        · rw [if_pos c4] at hq
          have g3 : ¬ i ≤ nI (T.1 15 0) := Int32.not_le.mpr c4
          simp only [rX11_rest_34, rX11_rest_36, rX11_rest_47, g3, up2_eq, va_rf, eq_self, or_true, true_or, Option.toList_some, Option.toList_none, List.cons_append, List.nil_append, if_true, if_false]
          exact hq
        · rw [if_neg c4] at hq
          have g3 : i ≤ nI (T.1 15 0) := Int32.not_lt.mp c4
          obtain ⟨j, hj, rfl⟩ := nI_of c1
          have hjm : j ≤ T.1 15 0 := Nat.not_lt.mp fun e => c4 (nI_lt e hj)
          rw [nI_clamp hj] at hq
          simp only [rX11_rest_39, rX11_rest_40, rX11_rest_43, g3, s0, r16, up2_eq, va_rf, eq_self, or_true, true_or, Option.toList_some, Option.toList_none, List.cons_append, List.nil_append, if_true, if_false]
          rw [rX11_rest_44 s16, k_least hX.K1 hPk.2.1 p1 hjm, hPk.2.2.1 c3 j hjm]
          simp only [rX11_rest_47, up2_eq, va_rf, eq_self, or_true, true_or, Option.toList_some, Option.toList_none, List.cons_append, List.nil_append, if_true, if_false]
          exact hq
theorem k_startOfN {pk m : Nat} {i : Int32} (hk : isK sh R pk) (hm : F 410 pk = nI m) (h0 : ¬ i < nI 0) (hi : nI m ≤ i) : rc_ k mX4_startOfPart [.ref pk, .int i] (mkh n u sh F R A B) Q ↔ Q (some (.int (-1))) (mkh n u sh F R A B) := by
  rw [eX4_startOfPart]
  have g1 : ¬ i < nI m := Int32.not_lt.mpr hi
  simp only [rX4_startOfPart_0, rX4_startOfPart_1, rX4_startOfPart_4, rX4_startOfPart_5, rX4_startOfPart_6, rX4_startOfPart_9, rX4_startOfPart_12, rX4_startOfPart_13, hk.1, hm, h0, g1, up2_eq, va_rf, eq_self, or_true, true_or, Option.toList_some, Option.toList_none, List.cons_append, List.nil_append, if_true, if_false]
def s_part (T : TT) (i w : Int32) : Int32 := if i < nI 0 ∨ (w < nI 0 ∨ nI 2 < w) then -3 else match ix i (T.1 15 0) with
  | none => -1
  | some q => if sop (T.1 22) (T.1 15 0) q < T.1 15 0 then (if w = nI 0 then nI (T.1 23 (sop (T.1 22) (T.1 15 0) q)) else if w = nI 1 then T.2.2 0 (sop (T.1 22) (T.1 15 0) q) else nI (T.1 22 (sop (T.1 22) (T.1 15 0) q))) else -1
theorem c_part {i w : Int32} (h : XS n sh F R A B x ba ma T) (hT : okT T) (hQ : xPost n u sh F R A x (s_part T i w, T) Q) : rc_ (k + 8) mX11_part [.ref x, .int i, .int w] (mkh n u sh F R A B) Q := by
  obtain ⟨hx, hX, hTO, hDr, hBk, hPk, hGm, hSm, hWi, hRd⟩ := id h
  have hq := xPost_same hQ h
  have s0 := hX.s0
  have r16 := hX.r0 1104 16 (by decide)
  have s16 := hX.s 16 0 4 0 (by decide)
  obtain ⟨p1, p2, p3, p4, p5⟩ := hT.2.2.2.2.1
  rw [eX11_part]
  unfold s_part at hq
  by_cases c1 : i < nI 0
  · rw [if_pos (Or.inl c1)] at hq
    simp only [rX11_part_0, rX11_part_1, rX11_part_13, rX11_part_15, c1, up2_eq, va_rf, eq_self, or_true, true_or, Option.toList_some, Option.toList_none, List.cons_append, List.nil_append, if_true, if_false]
    exact hq
  by_cases c2 : w < nI 0
  · rw [if_pos (Or.inr (Or.inl c2))] at hq
    simp only [rX11_part_0, rX11_part_1, rX11_part_4, rX11_part_5, rX11_part_13, rX11_part_15, c1, c2, up2_eq, va_rf, eq_self, or_true, true_or, Option.toList_some, Option.toList_none, List.cons_append, List.nil_append, if_true, if_false]
    exact hq
  by_cases c3 : nI 2 < w
  · rw [if_pos (Or.inr (Or.inr c3))] at hq
    have g1 : ¬ w ≤ nI 2 := Int32.not_le.mpr c3
    simp only [rX11_part_0, rX11_part_1, rX11_part_4, rX11_part_5, rX11_part_8, rX11_part_9, rX11_part_10, rX11_part_13, rX11_part_15, c1, c2, g1, up2_eq, va_rf, eq_self, or_true, true_or, Option.toList_some, Option.toList_none, List.cons_append, List.nil_append, if_true, if_false]
    exact hq
  rw [if_neg (fun e => e.elim c1 (fun e => e.elim c2 c3))] at hq
  have g1 : w ≤ nI 2 := Int32.not_lt.mp c3
  simp only [rX11_part_0, rX11_part_1, rX11_part_4, rX11_part_5, rX11_part_8, rX11_part_9, rX11_part_10, rX11_part_16, rX11_part_17, rX11_part_20, c1, c2, g1, s0, r16, up2_eq, va_rf, eq_self, or_true, true_or, Option.toList_some, Option.toList_none, List.cons_append, List.nil_append, if_true, if_false]
  cases hi : ix i (T.1 15 0) with
  | none =>
    rw [hi] at hq
    have hi2 := (ix_none hi).resolve_left c1
    rw [rX11_part_21 s16, k_startOfN hX.K1 hPk.2.1 c1 hi2.2]
    simp only [rX11_part_24, rX11_part_25, rX11_part_26, rX11_part_27, rX11_part_30, rX11_part_31, up2_eq, va_rf, eq_self, or_true, true_or, Option.toList_some, Option.toList_none, List.cons_append, List.nil_append, if_true, if_false]
    exact hq
  | some q =>
    rw [hi] at hq
    obtain ⟨hqm, hq31, rfl⟩ := ix_some hi
    dsimp only at hq
    rw [rX11_part_21 s16, k_startOf (ln := T.1 22) hX.K1 hPk.2.1 p1 hqm (fun j hj => ⟨(hPk.2.2.2.1 j hj).2.2, (p5 j hj).2⟩)]
    generalize sop (T.1 22) (T.1 15 0) q = at_ at hq ⊢
    by_cases c4 : at_ < T.1 15 0
    · rw [if_pos c4] at hq ⊢
      obtain ⟨e1, e2, e3⟩ := hPk.2.2.2.1 at_ c4
      have g2 : ¬ nI at_ = -1 := fun e => by
        have h1 := nI_toInt (n := at_) (by omega)
        rw [e] at h1
        have h2 : (-1 : Int32).toInt = -1 := by decide
        omega
      simp only [rX11_part_24, rX11_part_25, rX11_part_26, rX11_part_27, rX11_part_32, rX11_part_33, g2, up2_eq, va_rf, eq_self, or_true, true_or, Option.toList_some, Option.toList_none, List.cons_append, List.nil_append, if_true, if_false]
      by_cases w0 : w = nI 0
      · rw [if_pos w0] at hq ⊢
        simp only [rX11_part_60, rX11_part_61, rX11_part_64, s0, r16, up2_eq, va_rf, eq_self, or_true, true_or, Option.toList_some, Option.toList_none, List.cons_append, List.nil_append, if_true, if_false]
        rw [rX11_part_65 s16, k_kindAt hX.K1 hPk.2.1 p1 c4, e1]
        simp only [rX11_part_68, up2_eq, va_rf, eq_self, or_true, true_or, Option.toList_some, Option.toList_none, List.cons_append, List.nil_append, if_true, if_false]
        exact hq
      rw [if_neg w0] at hq ⊢
      by_cases w0 : w = nI 1
      · rw [if_pos w0] at hq ⊢
        simp only [rX11_part_69, rX11_part_70, rX11_part_73, s0, r16, up2_eq, va_rf, eq_self, or_true, true_or, Option.toList_some, Option.toList_none, List.cons_append, List.nil_append, if_true, if_false]
        rw [rX11_part_74 s16, k_placeAt hX.K1 hPk.2.1 p1 c4, e2]
        simp only [rX11_part_77, up2_eq, va_rf, eq_self, or_true, true_or, Option.toList_some, Option.toList_none, List.cons_append, List.nil_append, if_true, if_false]
        exact hq
      rw [if_neg w0] at hq ⊢
      simp only [rX11_part_78, rX11_part_79, rX11_part_82, s0, r16, up2_eq, va_rf, eq_self, or_true, true_or, Option.toList_some, Option.toList_none, List.cons_append, List.nil_append, if_true, if_false]
      rw [rX11_part_83 s16, k_lengthAt hX.K1 hPk.2.1 p1 c4, e3]
      simp only [rX11_part_86, up2_eq, va_rf, eq_self, or_true, true_or, Option.toList_some, Option.toList_none, List.cons_append, List.nil_append, if_true, if_false]
      exact hq
    · rw [if_neg c4] at hq ⊢
      simp only [rX11_part_24, rX11_part_25, rX11_part_26, rX11_part_27, rX11_part_30, rX11_part_31, up2_eq, va_rf, eq_self, or_true, true_or, Option.toList_some, Option.toList_none, List.cons_append, List.nil_append, if_true, if_false]
      exact hq
def s_tell (T : TT) (i w : Int32) : Int32 × TT := match ix i (T.1 2 0) with
  | none => (-3, T)
  | some b => match ix w (T.1 4 b) with
    | none => (-3, T)
    | some q => (nI (T.2.1 3 b q - pst (T.2.1 3 b) q), (sTO T.1 (T.1 0 0) (T.2.1 3 b q - pst (T.2.1 3 b) q) (T.1 30) (fun j => T.2.1 0 b (pst (T.2.1 3 b) q + j)), T.2))
theorem c_tell {i w : Int32} (h : XS n sh F R A B x ba ma T) (hT : okT T) (hQ : xPost n u sh F R A x (s_tell T i w) Q) : rc_ (k + 8) mX11_tell [.ref x, .int i, .int w] (mkh n u sh F R A B) Q := by
  obtain ⟨hx, hX, hTO, hDr, hBk, hPk, hGm, hSm, hWi, hRd⟩ := id h
  have r9 := hX.r0 1103 9 (by decide)
  have r3 := hX.r0 1101 3 (by decide)
  have s0 := hX.s0
  have s9 := hX.s 9 0 7 0 (by decide)
  have t3 := hX.s 3 0 1 0 (by decide)
  have hS := hX.shelf hBk hT.2.2.2.1.1
  rw [eX11_tell]
  simp only [rX11_tell_0, rX11_tell_1, rX11_tell_4, s0, r9, up2_eq, va_rf, eq_self, or_true, true_or, Option.toList_some, Option.toList_none, List.cons_append, List.nil_append, if_true, if_false]
  rw [rX11_tell_5 s9, k_Shelf_find hS, fnd_ix]
  unfold s_tell at hQ
  cases hi : ix i (T.1 2 0) with
  | none =>
    rw [hi] at hQ
    simp only [Option.map_none, rX11_tell_8, rX11_tell_8_n, rX11_tell_9, rX11_tell_9_n, rX11_tell_10, rX11_tell_10_n, rX11_tell_28, rX11_tell_30, up2_eq, va_rf, eq_self, or_true, true_or, Option.toList_some, Option.toList_none, List.cons_append, List.nil_append, if_true, if_false]
    exact xPost_same hQ h
  | some b =>
    rw [hi] at hQ
    obtain ⟨hb, -, -⟩ := ix_some hi
    obtain ⟨hbS, hbD, -⟩ := hBk.2.2.2.2 b (Or.inl hb)
    obtain ⟨a1, a2, a3, a4, a5, a6, a7, a8, a9⟩ := id hbS
    obtain ⟨k1, k2, k3, k4, k5, k6, k7⟩ := (hT.2.2.2.1.2.1 b (Or.inl hb)).1
    have hP := bkP hbS hbD k2 k3
    obtain ⟨h117, -⟩ := xBk_at hBk hx (Or.inl hb)
    dsimp only at hQ
    simp only [Option.map_some, rX11_tell_8, rX11_tell_8_n, rX11_tell_9, rX11_tell_9_n, rX11_tell_10, rX11_tell_10_n, rX11_tell_13, rX11_tell_14, up2_eq, va_rf, eq_self, or_true, true_or, Option.toList_some, Option.toList_none, List.cons_append, List.nil_append, if_true, if_false]
    cases hw : ix w (T.1 4 b) with
    | none =>
      rw [hw] at hQ
      rcases ix_none hw with c1 | ⟨c1, c2⟩
      · simp only [rX11_tell_28, rX11_tell_30, c1, up2_eq, va_rf, eq_self, or_true, true_or, Option.toList_some, Option.toList_none, List.cons_append, List.nil_append, if_true, if_false]
        exact xPost_same hQ h
      · have g1 : ¬ w < nI (T.1 4 b) := Int32.not_lt.mpr c2
        simp only [rX11_tell_17, rX11_tell_18, rX11_tell_18_n, rX11_tell_19, rX11_tell_22, rX11_tell_25, rX11_tell_28, rX11_tell_30, c1, a1, a2, a3, hbD.2.1, g1, up2_eq, va_rf, eq_self, or_true, true_or, Option.toList_some, Option.toList_none, List.cons_append, List.nil_append, if_true, if_false]
        exact xPost_same hQ h
    | some q =>
      rw [hw] at hQ
      obtain ⟨hq, hq31, rfl⟩ := ix_some hw
      dsimp only at hQ
      have c1 : ¬ nI q < nI 0 := nI_nlt (Nat.zero_le _) hq31
      have g1 : nI q < nI (T.1 4 b) := nI_lt hq (by omega)
      have hlen := k6 q hq
      have hst := k1.1 q hq
      have hEn := k1.E_le hq
      simp only [rX11_tell_17, rX11_tell_18, rX11_tell_18_n, rX11_tell_19, rX11_tell_22, rX11_tell_25, rX11_tell_31, rX11_tell_32, c1, a1, a2, a3, hbD.2.1, g1, s0, r3, up2_eq, va_rf, eq_self, or_true, true_or, Option.toList_some, Option.toList_none, List.cons_append, List.nil_append, if_true, if_false]
      rw [rX11_tell_35 t3, k_Bytes_clear t3]
      have hB1 : isB sh (up2 F 101 (x + 3) (nI 0)) R (x + 3) (x + 4) 240 0 := (hX.out hTO hT.2.1.1).size (Nat.zero_le _)
      have hP1 : isP sh (up2 F 101 (x + 3) (nI 0)) R A (ba b + 1) (ba b + 2) (ba b + 3) (T.1 5 b) (T.1 5 b) (ba b + 4) (T.1 4 b) (T.1 4 b) (T.2.1 3 b) := isP_cong hP (up2_o (by omega)) (up2_o (by omega)) rfl rfl rfl rfl
      simp only [rX11_tell_38, rX11_tell_39, rX11_tell_42, rX11_tell_42_n, rX11_tell_43, rX11_tell_46, rX11_tell_49, rX11_tell_49_n, rX11_tell_50, rX11_tell_53, s0, r3, a1, a2, a3, a4, up2_eq, va_rf, eq_self, or_true, true_or, Option.toList_some, Option.toList_none, List.cons_append, List.nil_append, if_true, if_false]
      rw [rX11_tell_54 a3, k_Pieces_start hP1 (by omega)]
      simp only [rX11_tell_57, rX11_tell_57_n, rX11_tell_58, rX11_tell_61, a1, a2, up2_eq, va_rf, eq_self, or_true, true_or, Option.toList_some, Option.toList_none, List.cons_append, List.nil_append, if_true, if_false]
      rw [rX11_tell_62 a3, k_Pieces_length hP1 k1 hq]
      simp only [up2_eq, va_rf, eq_self, or_true, true_or, Option.toList_some, Option.toList_none, List.cons_append, List.nil_append, if_true, if_false]
      rw [rX11_tell_65 t3, k_Bytes_append hB1 hP1.2.2.2.2.2.2.2.2 (by omega) (by omega) (fun e => by omega) (fun j hj => by rw [hbD.2.2.2.2 j hj]; exact nI_byte (k7 j hj))]
      simp only [rX11_tell_68, rX11_tell_69, rX11_tell_72, rX11_tell_75, s0, r3, t3, up2_up2, Nat.zero_add, up2_eq, va_rf, eq_self, or_true, true_or, Option.toList_some, Option.toList_none, List.cons_append, List.nil_append, if_true, if_false]
      have hh4 : ∀ j, j < T.2.1 3 b q - pst (T.2.1 3 b) q → acp A (x + 4) 0 (ba b + 3) (pst (T.2.1 3 b) q) (T.2.1 3 b q - pst (T.2.1 3 b) q) (x + 4) j = nI (T.2.1 0 b (pst (T.2.1 3 b) q + j)) := fun j hj => by
        rw [acp_in (Nat.zero_le _) (by omega), Nat.sub_zero]
        exact hbD.2.2.2.2 _ (by omega)
      obtain ⟨q1, q2⟩ := XS_TO (F' := up2 F 101 (x + 3) (nI (T.2.1 3 b q - pst (T.2.1 3 b) q))) (R' := R) (A' := acp A (x + 4) 0 (ba b + 3) (pst (T.2.1 3 b) q) (T.2.1 3 b q - pst (T.2.1 3 b) q)) (t := T.1 0 0) (f := T.1 30) h (fun q a hq => up2_o (by omega)) (fun _ _ _ => rfl) (fun a ha => acp_row (by omega)) (by rw [up2_o (by omega)]; exact hTO.1.1) (fun j hj => by rw [acp_out (Or.inl (by omega))]; exact hTO.1.2 j hj) up2_eq hh4 (xRd_cong hRd (fun a ha => up2_o (by omega)))
      exact hQ n u _ _ _ _ _ _ _ q1 q2 (by omega) (by omega)
end SIM
