/-! ===== the class: pack ===== -/
section PKT
variable {N : tN} {J : tJ} {b m i : Nat} {L : Nat → Nat}
theorem plT_ok (hB : okB N J b) (hm : m ≤ 120) (h : i < m) : okO (fI L) (fI (J 0 b)) m (N 5 b) (N 4 b) (J 3 b) (decide (N 3 b = 2)) (fun q => (plT N J b m L q).1) (fun q => (plT N J b m L q).2.1) i (plT N J b m L i) := by
  obtain ⟨k1, k2, k3, k4, k5, k6, k7⟩ := hB
  exact plan_ok h (by omega) (by omega) (by omega) (fun e => k5 (by have := of_decide_eq_true e; omega))
theorem plT_m : (plT N J b m L m).1 = 0 := by
  unfold plT
  rw [plan_m]
theorem wrL_len (hB : okB N J b) (hm : m ≤ 120) : ∀ d i st, i ≤ m → m ≤ i + d → (wrL (fun j => (plT N J b m L j).2.2.1) (fun j => (plT N J b m L j).2.2.2.1.toNatClampNeg) (fun j => (plT N J b m L j).2.2.2.2) L (N 5 b) m d i st).2 = st.2 + (plT N J b m L i).1
  | 0, i, st, h1, h2 => by
    have e : i = m := by omega
    subst e
    rw [plT_m]
    rfl
  | d + 1, i, st, h1, h2 => by
    unfold wrL
    by_cases c : i < m
    · obtain ⟨⟨o1, o2⟩, o3, -⟩ := plT_ok (L := L) hB hm c
      rw [if_pos c, wrL_len hB hm d _ _ (by omega) (by omega), ptS_2, o3]
      dsimp only
      omega
    · have e : i = m := by omega
      subst e
      rw [if_neg c, plT_m]
      rfl
theorem wrT_2 (hB : okB N J b) (hm : m ≤ 120) : (wrT N J b m L).2 = 5 + gm (m + 1) + (plT N J b m L 0).1 := by
  unfold wrT
  rw [wrL_len hB hm 120 0 _ (Nat.zero_le _) (by omega)]
  show 0 + 5 + gm (m + 1) + _ = _
  omega
theorem wrT_cap (hB : okB N J b) (hm : m ≤ 120) : (wrT N J b m L).2 ≤ 993 := by
  rw [wrT_2 hB hm]
  have h1 : gm (m + 1) ≤ 13 := by
    have := wd_le 7 (m + 1) (by omega)
    unfold gm
    omega
  by_cases c : 0 < m
  · have h2 := plan_own (lf := fI L) (f := fI (J 0 b)) (s := N 5 b) (c := N 4 b) (E := J 3 b) (rk := decide (N 3 b = 2)) c
    have h3 := gm_120 (n := m - 0) (by omega)
    have h4 : (plT N J b m L 0).1 ≤ 2 + gm (m - 0) + 8 * (m - 0) := h2
    omega
  · have e : m = 0 := by omega
    subst e
    rw [plT_m]
    omega
end PKT
section PCK
variable {k n u : Nat} {sh : hs_} {F F' : hF_} {R R' : hR_} {A A' : hF_} {B : hR_} {Q : Option Value → pm_H → Prop} {x : Nat} {ba ma : Nat → Nat} {T T' : TT} {b pk : Nat}
theorem k_planT (h : XS n sh F R A B x ba ma T) (hT : okT T) (hb : isB3 T.1 b) (hm : T.1 0 0 ≤ 120) (hk : isK sh R pk) (hg : ∀ n, 1 ≤ n → n ≤ 120 → A (pk + 8) n = nI (gm n)) (hpk : pk = x + 16 ∨ pk = x + 25)
    (hQ : ∀ F' R' A', frP pk F R A F' R' A' → F' 410 pk = nI (T.1 0 0) → (∀ j, j ≤ T.1 0 0 → A' (pk + 1) j = nI (plT T.1 T.2.1 b (T.1 0 0) (T.1 30) j).1) → (∀ j, j < T.1 0 0 → A' (pk + 3) j = nI (plT T.1 T.2.1 b (T.1 0 0) (T.1 30) j).2.2.1 ∧ A' (pk + 4) j = (plT T.1 T.2.1 b (T.1 0 0) (T.1 30) j).2.2.2.1 ∧ A' (pk + 5) j = nI (plT T.1 T.2.1 b (T.1 0 0) (T.1 30) j).2.2.2.2) → Q none (mkh n u sh F' R' A' B)) :
    rc_ (k + 2) mX4_plan [.ref pk, .ref (x + 1), .ref (ba b + 1), .int (if decide (T.1 3 b = 2) = true then nI 1 else nI 0)] (mkh n u sh F R A B) Q := by
  obtain ⟨hx, hX, hTO, hDr, hBk, hPk, hGm, hSm, hWi, hRd⟩ := id h
  obtain ⟨hbS, hbD, -⟩ := hBk.2.2.2.2 b hb
  obtain ⟨k1, k2, k3, k4, k5, k6, k7⟩ := (hT.2.2.2.1.2.1 b hb).1
  have hP := bkP hbS hbD k2 k3
  obtain ⟨h117, -⟩ := xBk_at hBk hx hb
  refine k_planN hk hg hP k1 (hX.tape hTO hT.1.1) hm k3 k2 (by omega) (by omega) (by omega) (fun e => k5 (by have := of_decide_eq_true e; omega)) ?_
  intro F' R' A' hfr h410 hFo hRo hrow
  have e : plan (A (x + 2)) (A (ba b + 3)) (T.1 0 0) (T.1 5 b) (T.1 4 b) (T.2.1 3 b) (decide (T.1 3 b = 2)) = plT T.1 T.2.1 b (T.1 0 0) (T.1 30) := plan_cg hTO.1.2 hbD.2.2.2.2 k1
  rw [e] at hrow
  exact hQ F' R' A' hfr h410 (fun j hj => (hrow j hj).1) (fun j hj => (hrow j (by omega)).2 hj)
theorem k_writeT {tb tv tz ts : Nat} (h : XS n sh F R A B x ba ma T) (hT : okT T) (hb : isB3 T.1 b) (hm : T.1 0 0 ≤ 120) (hpk : pk = x + 16 ∨ pk = x + 25) (htb : tb = x + 3 ∧ tv = x + 4 ∧ tz = 240 ∨ tb = x + 76 ∧ tv = x + 77 ∧ tz = 125) (hB : isB sh F R tb tv tz ts) (hk : isK sh R pk)
    (hfr : frP pk F R A F' R' A') (h410 : F' 410 pk = nI (T.1 0 0)) (hrow : ∀ j, j < T.1 0 0 → A' (pk + 3) j = nI (plT T.1 T.2.1 b (T.1 0 0) (T.1 30) j).2.2.1 ∧ A' (pk + 4) j = (plT T.1 T.2.1 b (T.1 0 0) (T.1 30) j).2.2.2.1 ∧ A' (pk + 5) j = nI (plT T.1 T.2.1 b (T.1 0 0) (T.1 30) j).2.2.2.2) :
    rc_ (k + 4) mX10_write [.ref (x + 34), .ref (x + 1), .ref (ba b), .ref pk, .ref tb] (mkh n u sh F' R' A' B) Q ↔ Q none (mkh n u sh (wrF F' (x + 34) tb (wrT T.1 T.2.1 b (T.1 0 0) (T.1 30)).2) (up2 R' 1000 (x + 34) (some tb)) (wrA A' tv (wrT T.1 T.2.1 b (T.1 0 0) (T.1 30)).1 (wrT T.1 T.2.1 b (T.1 0 0) (T.1 30)).2) B) := by
  obtain ⟨hx, hX, hTO, hDr, hBk, hPk, hGm, hSm, hWi, hRd⟩ := id h
  obtain ⟨hbS, hbD, hbV⟩ := hBk.2.2.2.2 b hb
  have hok := (hT.2.2.2.1.2.1 b hb).1
  obtain ⟨k1, k2, k3, k4, k5, k6, k7⟩ := id hok
  have hP := bkP hbS hbD k2 k3
  obtain ⟨h117, -⟩ := xBk_at hBk hx hb
  have hcap := wrT_cap (L := T.1 30) hok hm
  have hb24 := hT.2.2.2.1.1
  have hB' : isB sh F' R' tb tv tz ts := isB_cong hB (hfr.1 _ _ (by omega) (by omega)) (hfr.2.1 _ _ (by decide) (by decide))
  have hL' : isB sh F' R' (x + 1) (x + 2) 240 (T.1 0 0) := isB_cong (hX.tape hTO hT.1.1) (hfr.1 _ _ (by omega) (by omega)) (hfr.2.1 _ _ (by decide) (by decide))
  have hP' : isP sh F' R' A' (ba b + 1) (ba b + 2) (ba b + 3) (T.1 5 b) (T.1 5 b) (ba b + 4) (T.1 4 b) (T.1 4 b) (T.2.1 3 b) := isP_cong hP (hfr.1 _ _ (by omega) (by omega)) (hfr.1 _ _ (by omega) (by omega)) (hfr.2.1 _ _ (by decide) (by decide)) (hfr.2.1 _ _ (by decide) (by decide)) (hfr.2.1 _ _ (by decide) (by decide)) (hfr.2.2 _ (by omega))
  have hk' : isK sh R' pk := isK_cong hk (fun q h1 h2 => hfr.2.1 _ _ (by omega) (by omega))
  have hbn : F' 0 (ba b) + nI 1 = nI (b5 b) := by
    rw [hfr.1 _ _ (by omega) (by omega), hbV.1]
    unfold nm3 b5
    by_cases c : b = 25
    · rw [if_pos c, if_pos c]; decide
    · rw [if_neg c, if_neg c, nI_add]
  have h5 : b5 b < 32 := by
    unfold b5
    split
    · omega
    · rcases hb with hb | hb
      · omega
      · omega
  refine k_write (S := wrT T.1 T.2.1 b (T.1 0 0) (T.1 30)) (hX.s 34 0 10 0 (by decide)) hB' hL' (by omega) (by omega) (fun j hj => ?_) hbS.1 (by rw [hfr.2.1 _ _ (by decide) (by decide)]; exact hbS.2.1) hbn h5 hP' (by omega) k3 hk' h410 hm (by omega) (fun j hj => ?_) rfl (by omega) (by omega)
  · rw [hfr.2.2 _ (by omega)]
    exact ⟨hTO.1.2 j hj, hT.1.2 j hj⟩
  · obtain ⟨⟨o1, o2⟩, o3, o4, o5⟩ := plT_ok (L := T.1 30) hok hm hj
    obtain ⟨r1, r2, r3⟩ := hrow j hj
    refine ⟨r1, ?_, fun hne => ?_, r3, o1, o2, fun hk12 => ?_⟩
    · rcases o5 with ⟨e, -⟩ | ⟨e, -⟩ | ⟨e, -⟩ | ⟨e, -⟩ <;> rw [e] <;> decide
    · rcases o5 with ⟨e, -⟩ | ⟨e, p, p1, p2, -⟩ | ⟨e, p, p1, p2, -⟩ | ⟨e, -, p, p1, p2, -⟩
      · exact absurd e hne
      · rw [r2, p2, nI_clamp (by omega)]; exact ⟨rfl, by omega⟩
      · rw [r2, p2, nI_clamp (by omega)]; exact ⟨rfl, by omega⟩
      · rw [r2, p2, nI_clamp (by omega)]; exact ⟨rfl, by omega⟩
    · rcases o5 with ⟨e, -⟩ | ⟨e, p, p1, p2, p3, -⟩ | ⟨e, p, p1, p2, p3, -⟩ | ⟨e, -⟩
      · omega
      · exact p3
      · exact p3
      · omega
theorem XS_gen (hx : x + 117 ≤ n) (hX : isX sh R B x) (hDr : xDr F A x T'.1 T'.2.1) (hBk : xBk n sh F R A B x ba T') (hGm : xGm A x) (hSm : xSm F A x T') (hWi : xWi n sh F R A B x ba ma T')
    (hF : ∀ q a, ¬ (q = 101 ∧ (a = x + 1 ∨ a = x + 3 ∨ a = x + 36 ∨ a = x + 76) ∨ 603 ≤ q ∧ q ≤ 607 ∨ q = 1001 ∨ q = 410 ∨ q = 411 ∨ q = 1111 ∨ q = 1112) → F' q a = F q a)
    (hR : ∀ q a, ¬ (q = 602 ∨ q = 1000 ∨ q = 408 ∨ q = 409) → R' q a = R q a)
    (hA : ∀ a, ¬ (a = x + 2 ∨ a = x + 4 ∨ a = x + 37 ∨ a = x + 77 ∨ x + 17 ≤ a ∧ a ≤ x + 23 ∨ x + 26 ≤ a ∧ a ≤ x + 32) → A' a = A a)
    (h1 : xTO F' A' x T'.1) (h2 : xPk F' A' x T') (h5 : xRd F' x) : XS n sh F' R' A' B x ba ma T' ∧ frX x n sh F R A n sh F' R' A' := by
  refine ⟨⟨hx, isX_cong hX (fun q a _ _ _ _ _ _ _ => hR q a (by omega)) (fun _ _ => rfl) rfl rfl, h1, ?_, ?_, h2, ?_, ?_, ?_, h5⟩, Nat.le_refl _, fun _ _ => rfl, fun q a _ hq => ⟨hF q a (by omega), hR q a (by omega)⟩, fun a ha => hA a (by omega)⟩
  · exact xDr_cong hDr (hF _ _ (by omega)) (hF _ _ (by omega)) (fun a ha => hA a (by omega))
  · exact xBk_cong hBk hx (Nat.le_refl _) (fun _ _ => rfl) (fun q a _ hq => hR q a (by omega)) (fun q a _ hq => hF q a (by omega)) (hF _ _ (by omega)) (fun a _ ha => hA a (by omega)) rfl
  · exact xGm_cong hGm (hA _ (by omega)) (hA _ (by omega))
  · exact xSm_cong hSm (fun q hq => hF _ _ (by omega)) (fun a g1 g2 => hF _ _ (by omega)) (hF _ _ (by omega)) (fun a g1 g2 => hA a (by omega))
  · exact xWi_cong hWi (Nat.le_refl _) (fun _ _ => rfl) (fun q a _ hq => hR q a (by omega)) (fun q a _ hq => hF q a (by omega)) (fun q g1 g2 => hF q _ (by omega)) (hR _ _ (by omega)) (fun a _ ha => hA a (by omega)) rfl
/-- the state behind a pack -/
def pkT (T : TT) (b : Nat) : TT :=
  (up1 (up1 (up1 (up2 (up2 (up2 (sTO T.1 0 (((wrT T.1 T.2.1 b (T.1 0 0) (T.1 30)).2 + 7) / 8) (T.1 30) (byt (wrT T.1 T.2.1 b (T.1 0 0) (T.1 30)).1)) 14 0 1) 15 0 (T.1 0 0)) 25 0 (wrT T.1 T.2.1 b (T.1 0 0) (T.1 30)).2) 22 (fun j => (plT T.1 T.2.1 b (T.1 0 0) (T.1 30) j).2.2.2.2)) 23 (fun j => (plT T.1 T.2.1 b (T.1 0 0) (T.1 30) j).2.2.1)) 24 (fun j => (plT T.1 T.2.1 b (T.1 0 0) (T.1 30) j).1), T.2.1, up1 T.2.2 0 (fun j => (plT T.1 T.2.1 b (T.1 0 0) (T.1 30) j).2.2.2.1))
def s_pack (T : TT) (i : Int32) : Int32 × TT := match bx i (T.1 2 0) with
  | none => (-3, clrT T)
  | some b => if 120 < T.1 0 0 then (-3, clrT T) else (nI (plT T.1 T.2.1 b (T.1 0 0) (T.1 30) 0).1, pkT T b)
theorem c_pack {i : Int32} (h : XS n sh F R A B x ba ma T) (hT : okT T) (hQ : xPost n u sh F R A x (s_pack T i) Q) : rc_ (k + 8) mX11_pack [.ref x, .int i] (mkh n u sh F R A B) Q := by
  obtain ⟨hx, hX, hTO, hDr, hBk, hPk, hGm, hSm, hWi, hRd⟩ := id h
  have r9 := hX.r0 1103 9 (by decide)
  have r1 := hX.r0 1100 1 (by decide)
  have r3 := hX.r0 1101 3 (by decide)
  have r16 := hX.r0 1104 16 (by decide)
  have r34 := hX.r0 1106 34 (by decide)
  have s0 := hX.s0
  have s9 := hX.s 9 0 7 0 (by decide)
  have s34 := hX.s 34 0 10 0 (by decide)
  have t1 := hX.s 1 0 1 0 (by decide)
  have hS := hX.shelf hBk hT.2.2.2.1.1
  have t0 := hT.1.1
  obtain ⟨w1, w2⟩ := XS_clr h
  rw [eX11_pack]
  simp only [rX11_pack_0, rX11_pack_1, rX11_pack_4, s0, r9, up2_eq, va_rf, eq_self, or_true, true_or, Option.toList_some, Option.toList_none, List.cons_append, List.nil_append, if_true, if_false]
  rw [rX11_pack_5 s9, k_Shelf_findOr hS, bx_map hBk.2.1]
  unfold s_pack at hQ
  cases hi : bx i (T.1 2 0) with
  | none =>
    rw [hi] at hQ
    simp only [Option.map_none, rX11_pack_8, rX11_pack_8_n, rX11_pack_9, rX11_pack_11, rX11_pack_12, rX11_pack_12_n, rX11_pack_13, rX11_pack_13_n, rX11_pack_87, rX11_pack_88, s0, r1, up2_eq, va_rf, eq_self, or_true, true_or, Option.toList_some, Option.toList_none, List.cons_append, List.nil_append, if_true, if_false]
    rw [rX11_pack_91 t1, k_Bytes_clear t1]
    simp only [rX11_pack_94, rX11_pack_95, up2_eq, va_rf, eq_self, or_true, true_or, Option.toList_some, Option.toList_none, List.cons_append, List.nil_append, if_true, if_false]
    exact hQ n u _ _ _ _ _ _ _ w1 w2 (by omega) (by omega)
  | some b =>
    rw [hi] at hQ
    have hb := bx_some hi
    dsimp only at hQ
    obtain ⟨hbS, hbD, -⟩ := hBk.2.2.2.2 b hb
    obtain ⟨a1, a2, -⟩ := id hbS
    have k4 := (hT.2.2.2.1.2.1 b hb).1.2.2.2.1
    obtain ⟨h117, -⟩ := xBk_at hBk hx hb
    by_cases c1 : 120 < T.1 0 0
    · rw [if_pos c1] at hQ
      have g1 : nI 120 < nI (T.1 0 0) := nI_lt c1 (by omega)
      simp only [Option.map_some, rX11_pack_8, rX11_pack_8_n, rX11_pack_9, rX11_pack_11, rX11_pack_12, rX11_pack_12_n, rX11_pack_13, rX11_pack_13_n, rX11_pack_16, rX11_pack_17, rX11_pack_20, rX11_pack_23, rX11_pack_25, rX11_pack_87, rX11_pack_88, s0, r1, t1, hTO.1.1, g1, up2_eq, va_rf, eq_self, or_true, true_or, Option.toList_some, Option.toList_none, List.cons_append, List.nil_append, if_true, if_false]
      rw [rX11_pack_91 t1, k_Bytes_clear t1]
      simp only [rX11_pack_94, rX11_pack_95, up2_eq, va_rf, eq_self, or_true, true_or, Option.toList_some, Option.toList_none, List.cons_append, List.nil_append, if_true, if_false]
      exact hQ n u _ _ _ _ _ _ _ w1 w2 (by omega) (by omega)
    · rw [if_neg c1] at hQ
      have hm : T.1 0 0 ≤ 120 := by omega
      have g1 : ¬ nI 120 < nI (T.1 0 0) := nI_nlt (by omega) (by omega)
      simp only [Option.map_some, rX11_pack_8, rX11_pack_8_n, rX11_pack_9, rX11_pack_11, rX11_pack_12, rX11_pack_12_n, rX11_pack_13, rX11_pack_13_n, rX11_pack_16, rX11_pack_17, rX11_pack_20, rX11_pack_23, rX11_pack_25, rX11_pack_28, rX11_pack_29, rX11_pack_32, rX11_pack_33, rX11_pack_36, rX11_pack_36_n, rX11_pack_37, rX11_pack_40, rX11_pack_40_n, s0, r1, t1, r16, a1, a2, hTO.1.1, g1, up2_eq, va_rf, eq_self, or_true, true_or, Option.toList_some, Option.toList_none, List.cons_append, List.nil_append, if_true, if_false]
      rw [rX11_pack_41 a1, k_Book_isRanked a1, hbD.1, nI_rk k4]
      simp only [up2_eq, va_rf, eq_self, or_true, true_or, Option.toList_some, Option.toList_none, List.cons_append, List.nil_append, if_true, if_false]
      rw [rX11_pack_44 hX.K1.1]
      refine k_planT h hT hb hm hX.K1 (fun n g1 g2 => (hGm n g1 g2).1) (Or.inl rfl) ?_
      intro F1 R1 A1 hfr h410 hprice hrow
      have hX1 : isX sh R1 B x := isX_cong hX (fun q a _ _ h2 h3 _ _ _ => hfr.2.1 q a h2 h3) (fun _ _ => rfl) rfl rfl
      have r1' := hX1.r0 1100 1 (by decide)
      have r3' := hX1.r0 1101 3 (by decide)
      have r16' := hX1.r0 1104 16 (by decide)
      have r34' := hX1.r0 1106 34 (by decide)
      simp only [rX11_pack_47, rX11_pack_48, rX11_pack_51, rX11_pack_52, rX11_pack_55, rX11_pack_55_n, rX11_pack_56, rX11_pack_57, rX11_pack_60, rX11_pack_61, s0, r1', r3', r16', r34', up2_eq, va_rf, eq_self, or_true, true_or, Option.toList_some, Option.toList_none, List.cons_append, List.nil_append, if_true, if_false]
      rw [rX11_pack_64 s34, k_writeT (ts := T.1 1 0) h hT hb hm (Or.inl rfl) (Or.inl ⟨rfl, rfl, rfl⟩) (hX.out hTO hT.2.1.1) hX.K1 hfr h410 hrow]
      have hcap := wrT_cap (L := T.1 30) (hT.2.2.2.1.2.1 b hb).1 hm
      unfold pkT at hQ
      generalize hS2 : wrT T.1 T.2.1 b (T.1 0 0) (T.1 30) = S at hQ hcap ⊢
      have rr : ∀ q, q ≠ 1000 → ∀ a, up2 R1 1000 (x + 34) (some (x + 3)) q a = R1 q a := fun q hq a => up2_k hq
      have r1'' : up2 R1 1000 (x + 34) (some (x + 3)) 1100 x = some (x + 1) := by rw [rr _ (by decide)]; exact r1'
      have r16'' : up2 R1 1000 (x + 34) (some (x + 3)) 1104 x = some (x + 16) := by rw [rr _ (by decide)]; exact r16'
      have r34'' : up2 R1 1000 (x + 34) (some (x + 3)) 1106 x = some (x + 34) := by rw [rr _ (by decide)]; exact r34'
      have e1001 : wrF F1 (x + 34) (x + 3) S.2 1001 (x + 34) = nI S.2 := by unfold wrF; rw [up2_eq]
      simp only [rX11_pack_67, rX11_pack_68, rX11_pack_69, rX11_pack_72, rX11_pack_75, rX11_pack_78, rX11_pack_79, rX11_pack_82, s0, s34, r16'', r34'', e1001, up2_eq, va_rf, eq_self, or_true, true_or, Option.toList_some, Option.toList_none, List.cons_append, List.nil_append, if_true, if_false]
      have hK2 : isK sh (up2 R1 1000 (x + 34) (some (x + 3))) (x + 16) := isK_cong hX1.K1 (fun q h1 h2 => rr q (by omega) _)
      have e410 : up2 (wrF F1 (x + 34) (x + 3) S.2) 1111 x (nI S.2) 410 (x + 16) = nI (T.1 0 0) := by unfold wrF; rw [up2_o (by omega), up2_o (by omega), up2_o (by omega)]; exact h410
      have ew : ∀ a, a ≠ x + 4 → wrA A1 (x + 4) S.1 S.2 a = A1 a := fun a ha => by unfold wrA; rw [pfx_out ha]
      rw [rX11_pack_83 hX.K1.1, k_least (m := T.1 0 0) hK2 e410 hm (Nat.zero_le _), ew _ (by omega), hprice 0 (Nat.zero_le _)]
      simp only [rX11_pack_86, rX11_pack_87, rX11_pack_88, s0, r1'', up2_eq, va_rf, eq_self, or_true, true_or, Option.toList_some, Option.toList_none, List.cons_append, List.nil_append, if_true, if_false]
      rw [rX11_pack_91 t1, k_Bytes_clear t1]
      simp only [rX11_pack_94, rX11_pack_95, up2_eq, va_rf, eq_self, or_true, true_or, Option.toList_some, Option.toList_none, List.cons_append, List.nil_append, if_true, if_false]
      have hF4 : ∀ q a, ¬ (q = 101 ∧ (a = x + 1 ∨ a = x + 3) ∨ q = 1001 ∨ q = 1111 ∨ (q = 410 ∨ q = 411) ∧ a = x + 16) → up2 (up2 (wrF F1 (x + 34) (x + 3) S.2) 1111 x (nI S.2)) 101 (x + 1) (nI 0) q a = F q a := by
        intro q a hq
        unfold wrF
        rw [up2_o (by omega), up2_o (by omega), up2_o (by omega), up2_o (by omega)]
        exact hfr.1 q a (by omega) (by omega)
      have hA4 : ∀ a, ¬ (a = x + 4 ∨ x + 17 ≤ a ∧ a ≤ x + 23) → wrA A1 (x + 4) S.1 S.2 a = A a := fun a ha => by
        rw [ew a (by omega)]
        exact hfr.2.2 a (by omega)
      have hn4 : ∀ j, j < (S.2 + 7) / 8 → wrA A1 (x + 4) S.1 S.2 (x + 4) j = nI (byt S.1 j) := fun j hj => by
        unfold wrA
        rw [pfx_new hj]
      refine (fun q => hQ n u _ _ _ _ _ ba ma q.1 q.2 (by omega) (by omega)) (XS_gen (T' := (up1 (up1 (up1 (up2 (up2 (up2 (sTO T.1 0 ((S.2 + 7) / 8) (T.1 30) (byt S.1)) 14 0 1) 15 0 (T.1 0 0)) 25 0 S.2) 22 (fun j => (plT T.1 T.2.1 b (T.1 0 0) (T.1 30) j).2.2.2.2)) 23 (fun j => (plT T.1 T.2.1 b (T.1 0 0) (T.1 30) j).2.2.1)) 24 (fun j => (plT T.1 T.2.1 b (T.1 0 0) (T.1 30) j).1), T.2.1, up1 T.2.2 0 (fun j => (plT T.1 T.2.1 b (T.1 0 0) (T.1 30) j).2.2.2.1))) (F := F) (R := R) (A := A) hx hX hDr hBk hGm hSm hWi (fun q a hq => hF4 q a (by omega)) (fun q a hq => ?_) (fun a ha => hA4 a (by omega)) ⟨⟨up2_eq, fun j hj => absurd hj (Nat.not_lt_zero _)⟩, ?_, hn4⟩ ⟨?_, ?_, fun _ j hj => ?_, fun j hj => ?_, ?_⟩ (xRd_cong hRd (fun a ha => hF4 _ _ (by omega))))
      · rw [rr q (by omega)]
        exact hfr.2.1 q a (by omega) (by omega)
      · rw [up2_o (by omega), up2_o (by omega)]
        unfold wrF
        rw [up2_o (by omega), up2_eq]
        rfl
      · rw [up2_o (by omega), up2_eq]
        rfl
      · rw [up2_o (by omega)]
        exact e410
      · rw [ew _ (by omega)]
        exact hprice j hj
      · rw [ew _ (by omega), ew _ (by omega), ew _ (by omega)]
        exact hrow j hj
      · rw [hF4 _ _ (by omega)]
        exact hPk.2.2.2.2
end PCK
