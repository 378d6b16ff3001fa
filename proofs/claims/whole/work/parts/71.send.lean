/-! ===== the class: send ===== -/
section SND
variable {k n n' u : Nat} {sh sh' : hs_} {F F' : hF_} {R R' : hR_} {A A' : hF_} {B B' : hR_} {Q : Option Value → pm_H → Prop} {x : Nat} {ba ma : Nat → Nat} {T T' : TT} {b m : Nat}
def sndT (T : TT) (b : Nat) : TT := bvT (puT T 3 (b5 b) (T.2.2 2 b) (T.1 0 0) (T.1 30)) b (T.1 18 b) (T.1 19 b) (T.1 20 b) (T.2.2 2 b + nI 1) (T.2.2 3 b) (T.2.2 4 b)
def s_send (T : TT) (i : Int32) : Int32 × TT := match bx i (T.1 2 0) with
  | none => (-3, clrT T)
  | some b => if 120 < T.1 0 0 then (-3, clrT T) else if T.1 18 b ≠ 2 then (-4, clrT T) else if 200 ≤ T.1 8 0 then (-5, clrT T) else (nI (T.1 8 0 + 1), clrT (sndT T b))
theorem k_postLetter (h : XS n sh F R A B x ba ma T) (hT : okT T) (hb : isB3 T.1 b) (hm : T.1 0 0 ≤ 120) (hn : T.1 8 0 < 200) (h1 : F 101 (x + 76) = nI (((wrT T.1 T.2.1 b (T.1 0 0) (T.1 30)).2 + 7) / 8)) (h2 : ∀ j, j < ((wrT T.1 T.2.1 b (T.1 0 0) (T.1 30)).2 + 7) / 8 → A (x + 77) j = nI (byt (wrT T.1 T.2.1 b (T.1 0 0) (T.1 30)).1 j))
    (hQ : ∀ n' u' sh' F' R' A' B' ma', XS n' sh' F' R' A' B' x ba ma' (sndT T b) → frX x n sh F R A n' sh' F' R' A' → n' ≤ n + 3 → u' ≤ u + 200 → Q none (mkh n' u' sh' F' R' A' B')) :
    rc_ (k + 4) mX9_postLetter [.ref (x + 72), .ref (ba b), .ref (x + 76)] (mkh n u sh F R A B) Q := by
  obtain ⟨hx, hX, hTO, hDr, hBk, hPk, hGm, hSm, hWi, hRd⟩ := id h
  have hcap := wrT_cap (L := T.1 30) (hT.2.2.2.1.2.1 b hb).1 hm
  have s76 := hX.s 76 0 1 0 (by decide)
  have s77 := hX.s 77 1 0 125 (by decide)
  have s72 := hX.s 72 0 9 0 (by decide)
  have r77 := hX.r 100 76 77 (by decide)
  obtain ⟨z, hz⟩ : ∃ z, ((wrT T.1 T.2.1 b (T.1 0 0) (T.1 30)).2 + 7) / 8 = z := ⟨_, rfl⟩
  rw [hz] at h1 h2
  have hz125 : z ≤ 125 := by omega
  rw [eX9_postLetter, rX9_postLetter_0]
  have e76 : up1 sh n (some (0, 1, 0)) (x + 76) = some (0, 1, 0) := by rw [up1_ne (by omega)]; exact s76
  have f76 : zap F n 0 101 (x + 76) = nI z := by rw [zap_ne (by omega)]; exact h1
  simp only [rX9_postLetter_3, rX9_postLetter_4, rX9_postLetter_4_n, rX9_postLetter_5, e76, f76, up2_eq, va_rf, eq_self, or_true, true_or, Option.toList_some, Option.toList_none, List.cons_append, List.nil_append, if_true, if_false]
  rw [rX9_postLetter_8, k_Bytes_init up1_eq (by omega) (by omega)]
  simp only [rX9_postLetter_11, rX9_postLetter_11_n, rX9_postLetter_12, rX9_postLetter_12_n, rX9_postLetter_13, rX9_postLetter_13_n, up2_eq, va_rf, eq_self, or_true, true_or, Option.toList_some, Option.toList_none, List.cons_append, List.nil_append, if_true, if_false]
  have en : up1 (up1 sh n (some (0, 1, 0))) (n + 1) (some (1, 0, z)) n = some (0, 1, 0) := by rw [up1_ne (by omega), up1_eq]
  have hd : isB (up1 (up1 sh n (some (0, 1, 0))) (n + 1) (some (1, 0, z))) (zap F n 0) (up2 (zap R n none) 100 n (some (n + 1))) n (n + 1) z 0 := ⟨en, up2_eq, up1_eq, by omega, zap_eq, Nat.zero_le _⟩
  have hs : isB (up1 (up1 sh n (some (0, 1, 0))) (n + 1) (some (1, 0, z))) (zap F n 0) (up2 (zap R n none) 100 n (some (n + 1))) (x + 76) (x + 77) 125 z := ⟨by rw [up1_ne (by omega)]; exact e76, by rw [up2_o (by omega), zap_ne (by omega)]; exact r77, by rw [up1_ne (by omega), up1_ne (by omega)]; exact s77, by decide, f76, hz125⟩
  have hA77 : up1 A (n + 1) (fun _ => (0 : Int32)) (x + 77) = A (x + 77) := up1_ne (by omega)
  rw [rX9_postLetter_14 en, k_Bytes_become hd hs (by omega) (by omega) (Nat.le_refl _) (fun j hj => by rw [hA77, h2 j hj]; exact nI_byte byt_lt)]
  have hF1 : ∀ q a, a < n → up2 (zap F n 0) 101 n (nI z) q a = F q a := fun q a ha => by rw [up2_o (by omega), zap_ne (by omega)]
  obtain ⟨p1, p2⟩ := XS_alloc (n' := n + 1 + 1) (sh' := up1 (up1 sh n (some (0, 1, 0))) (n + 1) (some (1, 0, z))) (F' := up2 (zap F n 0) 101 n (nI z)) (R' := up2 (zap R n none) 100 n (some (n + 1))) (A' := acp (up1 A (n + 1) (fun _ => 0)) (n + 1) 0 (x + 77) 0 z) h (by omega) (fun a ha => by rw [up1_ne (by omega), up1_ne (by omega)]) hF1 (fun q a ha => by rw [up2_o (by omega), zap_ne (by omega)]) (fun a ha => by rw [acp_row (by omega), up1_ne (by omega)])
  obtain ⟨a1, v1, v2, v3, v4, v5, v6, v7⟩ := bkV_at p1 hb
  have e72 := p1.2.1.s 72 0 9 0 (by decide)
  simp only [rX9_postLetter_17, rX9_postLetter_18, rX9_postLetter_19, rX9_postLetter_19_n, rX9_postLetter_20, rX9_postLetter_20_n, rX9_postLetter_21, rX9_postLetter_24, rX9_postLetter_24_n, a1, v3, up2_eq, va_rf, eq_self, or_true, true_or, Option.toList_some, Option.toList_none, List.cons_append, List.nil_append, if_true, if_false]
  rw [rX9_postLetter_25 e72]
  refine k_Wput (so := 3) (lm := T.1 0 0) (L := T.1 30) p1 hT hb hn (fun _ => ⟨by omega, Nat.le_refl _, en, up2_eq, by rw [hz]; exact up1_eq, by rw [hz]; exact up2_eq, fun j hj => ?_⟩) ?_
  · rw [hz] at hj
    rw [acp_in (Nat.zero_le _) (by omega), Nat.zero_add, Nat.sub_zero, hA77]
    exact h2 j hj
  · intro sh2 F2 R2 B2 ma2 q1 q2
    have g1 : ¬ nI 1 = nI 0 := by decide
    have hb' : isB3 (puT T 3 (b5 b) (T.2.2 2 b) (T.1 0 0) (T.1 30)).1 b := okT_isB3 (puT_b (by decide)) hb
    obtain ⟨a1', w1, w2, w3, w4, w5, w6, w7⟩ := bkV_at q1 hb'
    have w3' : F2 4 (ba b) = T.2.2 2 b := w3
    simp only [rX9_postLetter_28, rX9_postLetter_31, rX9_postLetter_31_n, rX9_postLetter_32, rX9_postLetter_33, rX9_postLetter_36, rX9_postLetter_37, rX9_postLetter_38, rX9_postLetter_41, g1, a1', w3', up2_eq, va_rf, eq_self, or_true, true_or, Option.toList_some, Option.toList_none, List.cons_append, List.nil_append, if_true, if_false]
    have h24 : (puT T 3 (b5 b) (T.2.2 2 b) (T.1 0 0) (T.1 30)).1 2 0 ≤ 24 := by rw [puT_b (by decide)]; exact hT.2.2.2.1.1
    rw [puT_b (by decide)] at w2 w4 w5
    obtain ⟨g3, g4⟩ := XS_bk' (F' := up2 F2 4 (ba b) (T.2.2 2 b + nI 1)) (st := T.1 18 b) (hd := T.1 19 b) (go := T.1 20 b) (sn := T.2.2 2 b + nI 1) (tg := T.2.2 3 b) (se := T.2.2 4 b) q1 h24 hb' (fun q a hq => up2_o (by omega)) ⟨by rw [up2_k (by decide)]; exact w1, by rw [up2_k (by decide)]; exact w2, up2_eq, by rw [up2_k (by decide)]; exact w4, by rw [up2_k (by decide)]; exact w5, by rw [up2_k (by decide)]; exact w6, by rw [up2_k (by decide)]; exact w7⟩
    exact hQ _ _ _ _ _ _ _ _ g3 (frX_trans p2 (frX_trans q2 g4)) (by omega) (by omega)
theorem c_send {i : Int32} (h : XS n sh F R A B x ba ma T) (hT : okT T) (hQ : xPost n u sh F R A x (s_send T i) Q) : rc_ (k + 8) mX11_send [.ref x, .int i] (mkh n u sh F R A B) Q := by
  obtain ⟨hx, hX, hTO, hDr, hBk, hPk, hGm, hSm, hWi, hRd⟩ := id h
  have r9 := hX.r0 1103 9 (by decide)
  have r1 := hX.r0 1100 1 (by decide)
  have r72 := hX.r0 1109 72 (by decide)
  have r25 := hX.r0 1105 25 (by decide)
  have s0 := hX.s0
  have s9 := hX.s 9 0 7 0 (by decide)
  have s34 := hX.s 34 0 10 0 (by decide)
  have s72 := hX.s 72 0 9 0 (by decide)
  have t1 := hX.s 1 0 1 0 (by decide)
  have hS := hX.shelf hBk hT.2.2.2.1.1
  have t0 := hT.1.1
  obtain ⟨w1, w2⟩ := XS_clr h
  rw [eX11_send]
  simp only [rX11_send_0, rX11_send_1, rX11_send_2, rX11_send_5, s0, r9, up2_eq, va_rf, eq_self, or_true, true_or, Option.toList_some, Option.toList_none, List.cons_append, List.nil_append, if_true, if_false]
  rw [rX11_send_6 s9, k_Shelf_findOr hS, bx_map hBk.2.1]
  unfold s_send at hQ
  have fin0 : ∀ (y : Int32), xPost n u sh F R A x (y, clrT T) Q → rw_ (k + 8) mX11_send 12 [.ref x, .int i, .retAddr 0] [.int y] (mkh n u sh F R A B) Q := by
    intro y hQ
    simp only [rX11_send_12, rX11_send_13, rX11_send_14, s0, r1, up2_eq, va_rf, eq_self, or_true, true_or, Option.toList_some, Option.toList_none, List.cons_append, List.nil_append, if_true, if_false]
    rw [rX11_send_17 t1, k_Bytes_clear t1]
    simp only [rX11_send_20, rX11_send_21, up2_eq, va_rf, eq_self, or_true, true_or, Option.toList_some, Option.toList_none, List.cons_append, List.nil_append, if_true, if_false]
    exact hQ n u _ _ _ _ _ _ _ w1 w2 (by omega) (by omega)
  cases hi : bx i (T.1 2 0) with
  | none =>
    rw [hi] at hQ
    simp only [Option.map_none, up2_eq, va_rf, eq_self, or_true, true_or, Option.toList_some, Option.toList_none, List.cons_append, List.nil_append, if_true, if_false]
    rw [rX11_send_9_n s0, eX11_sendLetter]
    simp only [rX11_sendLetter_0, rX11_sendLetter_0_n, rX11_sendLetter_1, rX11_sendLetter_1_n, rX11_sendLetter_16, rX11_sendLetter_18, up2_eq, va_rf, eq_self, or_true, true_or, Option.toList_some, Option.toList_none, List.cons_append, List.nil_append, if_true, if_false]
    exact fin0 _ hQ
  | some b =>
    rw [hi] at hQ
    have hb := bx_some hi
    dsimp only at hQ
    obtain ⟨hbS, hbD, hbV⟩ := hBk.2.2.2.2 b hb
    obtain ⟨a1, a2, -⟩ := id hbS
    have k4 := (hT.2.2.2.1.2.1 b hb).1.2.2.2.1
    have h18 := (hT.2.2.2.1.2.1 b hb).2.1
    obtain ⟨h117, -⟩ := xBk_at hBk hx hb
    simp only [Option.map_some, up2_eq, va_rf, eq_self, or_true, true_or, Option.toList_some, Option.toList_none, List.cons_append, List.nil_append, if_true, if_false]
    rw [rX11_send_9 s0, eX11_sendLetter]
    by_cases c1 : 120 < T.1 0 0
    · rw [if_pos c1] at hQ
      have g1 : ¬ nI (T.1 0 0) ≤ nI 120 := nI_ge c1 (by omega)
      simp only [rX11_sendLetter_0, rX11_sendLetter_0_n, rX11_sendLetter_1, rX11_sendLetter_1_n, rX11_sendLetter_4, rX11_sendLetter_5, rX11_sendLetter_8, rX11_sendLetter_11, rX11_sendLetter_13, rX11_sendLetter_16, rX11_sendLetter_18, s0, r1, t1, hTO.1.1, g1, up2_eq, va_rf, eq_self, or_true, true_or, Option.toList_some, Option.toList_none, List.cons_append, List.nil_append, if_true, if_false]
      exact fin0 _ hQ
    rw [if_neg c1] at hQ
    have g1 : nI (T.1 0 0) ≤ nI 120 := nI_le (by omega) (by omega)
    have v2 := hbV.2.1
    by_cases c2 : T.1 18 b = 2
    · rw [if_neg (fun e => e c2)] at hQ
      rw [c2] at v2
      simp only [rX11_sendLetter_0, rX11_sendLetter_0_n, rX11_sendLetter_1, rX11_sendLetter_1_n, rX11_sendLetter_4, rX11_sendLetter_5, rX11_sendLetter_8, rX11_sendLetter_11, rX11_sendLetter_13, rX11_sendLetter_19, rX11_sendLetter_19_n, rX11_sendLetter_20, rX11_sendLetter_23, rX11_sendLetter_24, rX11_sendLetter_30, rX11_sendLetter_31, s0, r1, t1, r72, a1, v2, hTO.1.1, g1, up2_eq, va_rf, eq_self, or_true, true_or, Option.toList_some, Option.toList_none, List.cons_append, List.nil_append, if_true, if_false]
      rw [rX11_sendLetter_34 s72, k_Wfull hX hWi hT.2.2.2.2.2.2.1.1]
      by_cases c3 : 200 ≤ T.1 8 0
      · rw [if_pos c3] at hQ
        rw [if_neg (by omega)]
        have g3 : ¬ nI 1 = nI 0 := by decide
        simp only [rX11_sendLetter_37, rX11_sendLetter_40, rX11_sendLetter_42, g3, up2_eq, va_rf, eq_self, or_true, true_or, Option.toList_some, Option.toList_none, List.cons_append, List.nil_append, if_true, if_false]
        exact fin0 _ hQ
      · rw [if_neg c3] at hQ
        rw [if_pos (by omega)]
        have hm : T.1 0 0 ≤ 120 := by omega
        simp only [rX11_sendLetter_37, rX11_sendLetter_43, rX11_sendLetter_44, rX11_sendLetter_47, rX11_sendLetter_48, rX11_sendLetter_51, rX11_sendLetter_51_n, rX11_sendLetter_52, rX11_sendLetter_55, rX11_sendLetter_55_n, s0, r1, r25, a1, a2, up2_eq, va_rf, eq_self, or_true, true_or, Option.toList_some, Option.toList_none, List.cons_append, List.nil_append, if_true, if_false]
        rw [rX11_sendLetter_56 a1, k_Book_isRanked a1, hbD.1, nI_rk k4]
        simp only [up2_eq, va_rf, eq_self, or_true, true_or, Option.toList_some, Option.toList_none, List.cons_append, List.nil_append, if_true, if_false]
        rw [rX11_sendLetter_59 hX.K2.1]
        refine k_planT (k := k + 4) h hT hb hm hX.K2 (fun n g1 g2 => (hGm n g1 g2).2) (Or.inr rfl) ?_
        intro F1 R1 A1 hfr h410 hprice hrow
        have hX1 : isX sh R1 B x := isX_cong hX (fun q a _ _ h2 h3 _ _ _ => hfr.2.1 q a h2 h3) (fun _ _ => rfl) rfl rfl
        have r1' := hX1.r0 1100 1 (by decide)
        have r76' := hX1.r0 1110 76 (by decide)
        have r25' := hX1.r0 1105 25 (by decide)
        have r34' := hX1.r0 1106 34 (by decide)
        obtain ⟨es, hes, e76⟩ := hRd.2
        have hBe : isB sh F R (x + 76) (x + 77) 125 es := ⟨hX.s 76 0 1 0 (by decide), hX.r 100 76 77 (by decide), hX.s 77 1 0 125 (by decide), by decide, e76, hes⟩
        simp only [rX11_sendLetter_62, rX11_sendLetter_63, rX11_sendLetter_66, rX11_sendLetter_67, rX11_sendLetter_70, rX11_sendLetter_70_n, rX11_sendLetter_71, rX11_sendLetter_72, rX11_sendLetter_75, rX11_sendLetter_76, s0, r1', r76', r25', r34', up2_eq, va_rf, eq_self, or_true, true_or, Option.toList_some, Option.toList_none, List.cons_append, List.nil_append, if_true, if_false]
        rw [rX11_sendLetter_79 s34, k_writeT (k := k + 2) (ts := es) h hT hb hm (Or.inr rfl) (Or.inr ⟨rfl, rfl, rfl⟩) hBe hX.K2 hfr h410 hrow]
        have hcap := wrT_cap (L := T.1 30) (hT.2.2.2.1.2.1 b hb).1 hm
        have rr : ∀ q, q ≠ 1000 → ∀ a, up2 R1 1000 (x + 34) (some (x + 76)) q a = R1 q a := fun q hq a => up2_k hq
        have r72'' : up2 R1 1000 (x + 34) (some (x + 76)) 1109 x = some (x + 72) := by rw [rr _ (by decide)]; exact hX1.r0 1109 72 (by decide)
        have r76'' : up2 R1 1000 (x + 34) (some (x + 76)) 1110 x = some (x + 76) := by rw [rr _ (by decide)]; exact r76'
        have ew : ∀ a, a ≠ x + 77 → wrA A1 (x + 77) (wrT T.1 T.2.1 b (T.1 0 0) (T.1 30)).1 (wrT T.1 T.2.1 b (T.1 0 0) (T.1 30)).2 a = A1 a := fun a ha => by unfold wrA; rw [pfx_out ha]
        have hF4 : ∀ q a, ¬ (q = 101 ∧ a = x + 76 ∨ q = 1001 ∨ (q = 410 ∨ q = 411) ∧ a = x + 25) → wrF F1 (x + 34) (x + 76) (wrT T.1 T.2.1 b (T.1 0 0) (T.1 30)).2 q a = F q a := by
          intro q a hq
          unfold wrF
          rw [up2_o (by omega), up2_o (by omega)]
          exact hfr.1 q a (by omega) (by omega)
        have e101 : wrF F1 (x + 34) (x + 76) (wrT T.1 T.2.1 b (T.1 0 0) (T.1 30)).2 101 (x + 76) = nI (((wrT T.1 T.2.1 b (T.1 0 0) (T.1 30)).2 + 7) / 8) := by
          unfold wrF
          rw [up2_k (by decide), up2_eq]
        have q := XS_TO (F' := wrF F1 (x + 34) (x + 76) (wrT T.1 T.2.1 b (T.1 0 0) (T.1 30)).2) (R' := up2 R1 1000 (x + 34) (some (x + 76))) (A' := wrA A1 (x + 77) (wrT T.1 T.2.1 b (T.1 0 0) (T.1 30)).1 (wrT T.1 T.2.1 b (T.1 0 0) (T.1 30)).2) (t := T.1 0 0) (o := T.1 1 0) (f := T.1 30) (g := T.1 31) h (fun q a hq => hF4 q a (by omega)) (fun q a hq => by rw [rr q (by omega)]; exact hfr.2.1 q a (by omega) (by omega)) (fun a ha => by rw [ew a (by omega)]; exact hfr.2.2 a (by omega)) (by rw [hF4 _ _ (by omega)]; exact hTO.1.1) (fun j hj => by rw [ew _ (by omega), hfr.2.2 _ (by omega)]; exact hTO.1.2 j hj) (by rw [hF4 _ _ (by omega)]; exact hTO.2.1) (fun j hj => by rw [ew _ (by omega), hfr.2.2 _ (by omega)]; exact hTO.2.2 j hj) ⟨by rw [hF4 _ _ (by omega)]; exact hRd.1, _, (by omega : ((wrT T.1 T.2.1 b (T.1 0 0) (T.1 30)).2 + 7) / 8 ≤ 125), e101⟩
        rw [sTO_id] at q
        obtain ⟨q1, q2⟩ := q
        simp only [rX11_sendLetter_82, rX11_sendLetter_83, rX11_sendLetter_86, rX11_sendLetter_86_n, rX11_sendLetter_87, rX11_sendLetter_88, s0, r72'', r76'', up2_eq, va_rf, eq_self, or_true, true_or, Option.toList_some, Option.toList_none, List.cons_append, List.nil_append, if_true, if_false]
        rw [rX11_sendLetter_91 s72]
        refine k_postLetter (k := k + 2) (T := T) q1 hT hb hm (by omega) e101 (fun j hj => by unfold wrA; rw [pfx_new hj]) ?_
        intro n3 u3 sh3 F3 R3 A3 B3 ma3 g1 g2 g3 g4
        have s0' := g1.2.1.s0
        have r1'' := g1.2.1.r0 1100 1 (by decide)
        have t1'' := g1.2.1.s 1 0 1 0 (by decide)
        have r72''' := g1.2.1.r0 1109 72 (by decide)
        have s72''' := g1.2.1.s 72 0 9 0 (by decide)
        have e904 := g1.2.2.2.2.2.2.2.2.1.1
        have e8 : (sndT T b).1 8 0 = T.1 8 0 + 1 := rfl
        rw [e8] at e904
        simp only [rX11_sendLetter_94, rX11_sendLetter_95, rX11_sendLetter_98, rX11_sendLetter_101, s0', r72''', s72''', e904, up2_eq, va_rf, eq_self, or_true, true_or, Option.toList_some, Option.toList_none, List.cons_append, List.nil_append, if_true, if_false]
        simp only [rX11_send_12, rX11_send_13, rX11_send_14, s0', r1'', up2_eq, va_rf, eq_self, or_true, true_or, Option.toList_some, Option.toList_none, List.cons_append, List.nil_append, if_true, if_false]
        rw [rX11_send_17 t1'', k_Bytes_clear t1'']
        simp only [rX11_send_20, rX11_send_21, up2_eq, va_rf, eq_self, or_true, true_or, Option.toList_some, Option.toList_none, List.cons_append, List.nil_append, if_true, if_false]
        obtain ⟨y1, y2⟩ := XS_clr g1
        exact hQ _ _ _ _ _ _ _ _ _ y1 (frX_trans q2 (frX_trans g2 y2)) (by omega) (by omega)
    · rw [if_pos c2] at hQ
      have g2 : ¬ nI (T.1 18 b) = nI 2 := by rw [nI_eq (by omega) (by omega)]; exact c2
      simp only [rX11_sendLetter_0, rX11_sendLetter_0_n, rX11_sendLetter_1, rX11_sendLetter_1_n, rX11_sendLetter_4, rX11_sendLetter_5, rX11_sendLetter_8, rX11_sendLetter_11, rX11_sendLetter_13, rX11_sendLetter_19, rX11_sendLetter_19_n, rX11_sendLetter_20, rX11_sendLetter_23, rX11_sendLetter_24, rX11_sendLetter_27, rX11_sendLetter_29, s0, r1, t1, a1, v2, hTO.1.1, g1, g2, up2_eq, va_rf, eq_self, or_true, true_or, Option.toList_some, Option.toList_none, List.cons_append, List.nil_append, if_true, if_false]
      exact fin0 _ hQ
end SND
