/-! ===== the reference: pack, whole ===== -/
theorem okW_wrL {kd pp ln bl : Nat → Nat} {s m : Nat} : ∀ d i st, okW st → okW (wrL kd pp ln bl s m d i st)
  | 0, _, _, h => h
  | d + 1, i, st, h => by
    unfold wrL
    split
    · exact okW_wrL d _ _ (okW_ptS h)
    · exact h
theorem okW_wrT {N : tN} {J : tJ} {b m : Nat} {L : Nat → Nat} : okW (wrT N J b m L) := okW_wrL _ _ _ ((show okW ((fun _ => false), 0) from fun _ _ => rfl).wS).wS
section MP2
variable {k n u : Nat} {sh : hs_} {F F' : hF_} {R : hR_} {A A' : hF_} {B : hR_} {Q : Option Value → pm_H → Prop} {y : Nat} {T : TT} {b : Nat}
theorem plT_pt {N : tN} {J : tJ} {m j : Nat} {L : Nat → Nat} (hok : okB N J b) (hm : m ≤ 120) (hj : j < m) : (plT N J b m L j).2.2.1 < 4 ∧ ((plT N J b m L j).2.2.1 ≠ 0 → (plT N J b m L j).2.2.2.1 = nI (plT N J b m L j).2.2.2.1.toNatClampNeg ∧ (plT N J b m L j).2.2.2.1.toNatClampNeg < 2 ^ 13) ∧ 1 ≤ (plT N J b m L j).2.2.2.2 ∧ j + (plT N J b m L j).2.2.2.2 ≤ m ∧ ((plT N J b m L j).2.2.1 = 1 ∨ (plT N J b m L j).2.2.1 = 2 → 3 ≤ (plT N J b m L j).2.2.2.2) := by
  obtain ⟨⟨o1, o2⟩, o3, o4, o5⟩ := plT_ok (L := L) hok hm hj
  obtain ⟨k1, k2, k3, k4, k5, k6, k7⟩ := id hok
  refine ⟨?_, fun hne => ?_, o1, o2, fun hk12 => ?_⟩
  · rcases o5 with ⟨e, -⟩ | ⟨e, -⟩ | ⟨e, -⟩ | ⟨e, -⟩ <;> rw [e] <;> decide
  · rcases o5 with ⟨e, -⟩ | ⟨e, p, p1, p2, -⟩ | ⟨e, p, p1, p2, -⟩ | ⟨e, -, p, p1, p2, -⟩
    · exact absurd e hne
    · rw [p2, nI_clamp (by omega)]; exact ⟨rfl, by omega⟩
    · rw [p2, nI_clamp (by omega)]; exact ⟨rfl, by omega⟩
    · rw [p2, nI_clamp (by omega)]; exact ⟨rfl, by omega⟩
  · rcases o5 with ⟨e, -⟩ | ⟨e, p, p1, p2, p3, -⟩ | ⟨e, p, p1, p2, p3, -⟩ | ⟨e, -⟩
    · omega
    · exact p3
    · exact p3
    · omega
theorem l_packT {i : Int32} {F1 A1 : hF_} {x2 x3 x4 x5 : Value} (hM : isM sh R y) (h : MS F A y T) (hT : okT T) (hi : bx i (T.1 2 0) = some b) (hm : T.1 0 0 ≤ 120) (h32 : F1 1232 y = nI (T.1 0 0)) (hl : ∀ j, j < T.1 0 0 → A1 (y + 22) j = nI (T.1 30 j)) (h02 : F1 1202 y = nI 0) (hfF : ∀ q a, ¬ ((q = 1200 ∨ q = 1202 ∨ q = 1232) ∧ a = y) → F1 q a = F q a) (hfA : ∀ a, a ≠ y + 22 → A1 a = A a)
    (hQ : ∀ F' A', MS F' A' y (pkT T b) → frM y F A F' A' → Q (some (.int (nI (plT T.1 T.2.1 b (T.1 0 0) (T.1 30) 0).1))) (mkh n u sh F' R A' B)) :
    rw_ (k + 8) mX12_pack 25 [.ref y, .int i, x2, x3, x4, x5] [] (mkh n u sh F1 R A1 B) Q := by
  have h24 := hT.2.2.2.1.1
  have hok := (hT.2.2.2.1.2.1 b (bx_some hi)).1
  obtain ⟨k1, k2, k3, -⟩ := id hok
  have hb : mBo A1 y i (T.1 4 b) (T.1 5 b) (T.2.1 3 b) (T.2.1 0 b) (decide (T.1 3 b = 2)) := mBo_cong (MS_bo h hT hi) (fun a x1 x2 => hfA a (by omega))
  have hcap := wrT_cap (L := T.1 30) hok hm
  have hpl := fun j (hj : j < T.1 0 0) => plT_pt (b := b) (L := T.1 30) hok hm hj
  have r23 := hM.r 1233 23 0 241 (by decide)
  have s23 := hM.s 1233 23 0 241 (by decide)
  have hgm : gm (T.1 0 0 + 1) ≤ 13 := by
    have := wd_le 7 (T.1 0 0 + 1) (by omega)
    unfold gm
    omega
  obtain ⟨b51, b52⟩ := bx_b5 hi h24
  have hSd : wrT T.1 T.2.1 b (T.1 0 0) (T.1 30) = wrL (fun j => (plT T.1 T.2.1 b (T.1 0 0) (T.1 30) j).2.2.1) (fun j => (plT T.1 T.2.1 b (T.1 0 0) (T.1 30) j).2.2.2.1.toNatClampNeg) (fun j => (plT T.1 T.2.1 b (T.1 0 0) (T.1 30) j).2.2.2.2) (T.1 30) (T.1 5 b) (T.1 0 0) 120 0 (wS (wS ((fun _ => false), 0) (b5 b) 5) (T.1 0 0 + 1) (gm (T.1 0 0 + 1))) := rfl
  have hokS : okW (wrT T.1 T.2.1 b (T.1 0 0) (T.1 30)) := okW_wrT
  have hMS := fun F' A' np => MS_pk (F' := F') (A' := A') (b := b) (np := np) h hT
  have hplT : plan (fI (T.1 30)) (fI (T.2.1 0 b)) (T.1 0 0) (T.1 5 b) (T.1 4 b) (T.2.1 3 b) (decide (T.1 3 b = 2)) = plT T.1 T.2.1 b (T.1 0 0) (T.1 30) := rfl
  generalize wrT T.1 T.2.1 b (T.1 0 0) (T.1 30) = S at hcap hSd hokS hMS
  simp only [rX12_pack_25, rX12_pack_26, up2_eq, va_rf, eq_self, or_true, true_or, Option.toList_some, Option.toList_none, List.cons_append, List.nil_append, if_true, if_false]
  rw [rX12_pack_27 hM.1]
  refine k_findLeast (k := k + 4) (lf := fI (T.1 30)) hM h32 hm hb k1 k2 k3 (okT_ne hT hi) hl ?_
  intro A2 p
  rw [hplT] at p
  obtain ⟨p1, p2, p3⟩ := p
  generalize plT T.1 T.2.1 b (T.1 0 0) (T.1 30) = pl at *
  simp only [rX12_pack_30, rX12_pack_31, rX12_pack_32, rX12_pack_35, rX12_pack_36, rX12_pack_37, rX12_pack_38, rX12_pack_39, hM.1, b51, up2_eq, va_rf, eq_self, or_true, true_or, Option.toList_some, Option.toList_none, List.cons_append, List.nil_append, if_true, if_false]
  rw [rX12_pack_40 hM.1]
  have w0 : isW12 (up2 F1 1247 y (nI 0)) A2 y ((fun _ => false), 0) := ⟨up2_eq, fun j hj => absurd hj (Nat.not_lt_zero _)⟩
  refine k_write12 hM w0 (by omega) (by omega) (by show 0 + 5 ≤ 2400; omega) ?_
  intro F3 A3 q1 w1
  have e32 : F3 1232 y = nI (T.1 0 0) := by rw [q1.1 _ _ (by omega), up2_k (by decide)]; exact h32
  simp only [rX12_pack_43, rX12_pack_44, rX12_pack_45, rX12_pack_48, rX12_pack_49, hM.1, e32, nI_add, up2_eq, va_rf, eq_self, or_true, true_or, Option.toList_some, Option.toList_none, List.cons_append, List.nil_append, if_true, if_false]
  rw [rX12_pack_50 hM.1]
  refine k_writeG (k := k + 6) hM w1 (by omega) (by omega) (by show 0 + 5 + gm (T.1 0 0 + 1) ≤ 2400; omega) ?_
  intro F4 A4 q2 w2
  have e32' : F4 1232 y = nI (T.1 0 0) := by rw [q2.1 _ _ (by omega)]; exact e32
  have a24 : ∀ a, (a < y + 23 ∨ y + 27 < a) → a ≠ y + 32 → A4 a = A1 a := fun a g1 g2 => by rw [q2.2 a g2, q1.2 a g2, p1 a g1]
  have a25 : ∀ a, a ≠ y + 32 → A4 a = A2 a := fun a g2 => by rw [q2.2 a g2, q1.2 a g2]
  have f41 : ∀ q a, ¬ (q = 1247 ∧ a = y) → F4 q a = F1 q a := fun q a g => by rw [q2.1 q a g, q1.1 q a g, up2_o g]
  simp only [rX12_pack_53, rX12_pack_54, rX12_pack_55, rX12_pack_58, rX12_pack_59, hM.1, up2_eq, va_rf, eq_self, or_true, true_or, Option.toList_some, Option.toList_none, List.cons_append, List.nil_append, if_true, if_false]
  refine l_pk (k := k + 5) (S := S) (F := up2 F4 1241 y (nI 0)) (A := A4) (m := T.1 0 0) (bl := T.1 30) (kd := fun j => (pl j).2.2.1) (pp := fun j => (pl j).2.2.2.1.toNatClampNeg) (ln := fun j => (pl j).2.2.2.2) (pa := fun j => (pl j).2.2.2.1) hM (by rw [up2_k (by decide)]; exact e32') hm (mBo_cong hb (fun a x1 x2 => a24 a (by omega) (by omega))) k1 k2 k3 (fun j hj => by rw [a24 _ (by omega) (by omega)]; exact ⟨hl j hj, hT.1.2 j hj⟩) (fun j hj => by rw [a25 _ (by omega), a25 _ (by omega), a25 _ (by omega)]; exact p3 j hj) hpl (by omega) ?_ 120 0 0 _ _ _ (by omega) (Nat.zero_le _) (Nat.le_refl _) rfl ⟨fun _ _ _ => rfl, fun _ _ _ => rfl⟩ ⟨by rw [up2_k (by decide)]; exact w2.1, w2.2⟩ up2_eq (fun q hq => absurd hq (Nat.not_lt_zero _)) hSd.symm
  intro F5 A5 np x3 t1 t2 t3 t4 t5 t6
  have e32'' : F5 1232 y = nI (T.1 0 0) := by rw [t1.1 _ _ (by omega), up2_k (by decide)]; exact e32'
  have e47 : F5 1247 y = nI S.2 := t2.1
  simp only [rX12_pack_141, rX12_pack_142, rX12_pack_143, rX12_pack_146, rX12_pack_147, rX12_pack_148, rX12_pack_151, rX12_pack_154, rX12_pack_155, rX12_pack_156, rX12_pack_159, rX12_pack_162, rX12_pack_163, hM.1, e32'', e47, up2_eq, va_rf, eq_self, or_true, true_or, Option.toList_some, Option.toList_none, List.cons_append, List.nil_append, if_true, if_false, up2_k, ne_eq, not_false_eq_true, Nat.reduceEqDiff, reduceCtorEq]
  have e32b : up2 (up2 (up2 F5 1238 y (nI 1)) 1239 y (nI (T.1 0 0))) 1240 y (nI S.2) 1232 y = nI (T.1 0 0) := by rw [up2_k (by decide), up2_k (by decide), up2_k (by decide)]; exact e32''
  have e47b : up2 (up2 (up2 F5 1238 y (nI 1)) 1239 y (nI (T.1 0 0))) 1240 y (nI S.2) 1247 y = nI S.2 := by rw [up2_k (by decide), up2_k (by decide), up2_k (by decide)]; exact e47
  have e38 : up2 (up2 (up2 F5 1238 y (nI 1)) 1239 y (nI (T.1 0 0))) 1240 y (nI S.2) 1238 y = nI 1 := by rw [up2_k (by decide), up2_k (by decide), up2_eq]
  have e39 : up2 (up2 (up2 F5 1238 y (nI 1)) 1239 y (nI (T.1 0 0))) 1240 y (nI S.2) 1239 y = nI (T.1 0 0) := by rw [up2_k (by decide), up2_eq]
  have e40 : up2 (up2 (up2 F5 1238 y (nI 1)) 1239 y (nI (T.1 0 0))) 1240 y (nI S.2) 1240 y = nI S.2 := up2_eq
  have e41 : up2 (up2 (up2 F5 1238 y (nI 1)) 1239 y (nI (T.1 0 0))) 1240 y (nI S.2) 1241 y = nI np := by rw [up2_k (by decide), up2_k (by decide), up2_k (by decide)]; exact t4
  have eF : ∀ q a, ¬ (1238 ≤ q ∧ q ≤ 1240 ∧ a = y) → up2 (up2 (up2 F5 1238 y (nI 1)) 1239 y (nI (T.1 0 0))) 1240 y (nI S.2) q a = F5 q a := fun q a g => by rw [up2_o (by omega), up2_o (by omega), up2_o (by omega)]
  generalize up2 (up2 (up2 F5 1238 y (nI 1)) 1239 y (nI (T.1 0 0))) 1240 y (nI S.2) = F6 at *
  refine l_pkRest (k := k + 8) (F := F6) (A := A5) hM e32b hm ?_ (T.1 0 0 + 1) 0 A5 (Nat.zero_add _) (fun _ _ => rfl) (fun j hj => absurd hj (Nat.not_lt_zero _))
  intro A6 x3 u1 u2
  refine l_pkPad (k := k + 7) (S := S) (F := F6) (A := A6) hM (by omega) hokS ?_ (8 * ((S.2 + 7) / 8) - S.2) S.2 F6 A6 (by omega) (Nat.le_refl _) frW12_refl ⟨e47b, fun j hj => by rw [u1 _ (by omega)]; exact t2.2 j hj⟩
  intro F7 A7 v1 v2
  have e47c : F7 1247 y = nI (8 * ((S.2 + 7) / 8)) := v2.1
  simp only [rX12_pack_209, rX12_pack_210, rX12_pack_211, rX12_pack_214, hM.1, e47c, up2_eq, va_rf, eq_self, or_true, true_or, Option.toList_some, Option.toList_none, List.cons_append, List.nil_append, if_true, if_false]
  rw [rX12_pack_216 (by decide), pk_div (by omega) (by omega) (by omega), Nat.mul_div_cancel_left _ (by omega)]
  simp only [rX12_pack_217, rX12_pack_220, rX12_pack_221, hM.1, up2_eq, va_rf, eq_self, or_true, true_or, Option.toList_some, Option.toList_none, List.cons_append, List.nil_append, if_true, if_false]
  refine l_pkOut (k := k + 8) (W := (S.2 + 7) / 8) (bt := S.1) (F := up2 F7 1204 y (nI ((S.2 + 7) / 8))) (A := A7) hM v2.2 (by omega) up2_eq ?_ _ 0 A7 _ _ (Nat.zero_add _) (fun _ _ => rfl) (fun j hj => absurd hj (Nat.not_lt_zero _))
  intro A8 x3 x4 x5 z1 z2
  have cA : ∀ a, a ≠ y + 2 → a ≠ y + 31 → a ≠ y + 32 → ¬ (y + 28 ≤ a ∧ a ≤ y + 30) → A8 a = A2 a := fun a g1 g2 g3 g4 => by rw [z1 a g1, v1.2 a g3, u1 a g2, t1.2 a g3 g4, a25 a g3]
  have cF : ∀ q a, ¬ ((q = 1204 ∨ q = 1247 ∨ q = 1241 ∨ (1238 ≤ q ∧ q ≤ 1240)) ∧ a = y) → up2 F7 1204 y (nI ((S.2 + 7) / 8)) q a = F1 q a := fun q a g => by rw [up2_o (by omega), v1.1 q a (by omega), eF q a (by omega), t1.1 q a (by omega), up2_o (by omega), f41 q a (by omega)]
  have cG : ∀ q, 1238 ≤ q → q ≤ 1241 → up2 F7 1204 y (nI ((S.2 + 7) / 8)) q y = F6 q y := fun q g1 g2 => by rw [up2_o (by omega), v1.1 q y (by omega)]
  simp only [rX12_pack_282, rX12_pack_283, rX12_pack_286, hM.1, r23, up2_eq, va_rf, eq_self, or_true, true_or, Option.toList_some, Option.toList_none, List.cons_append, List.nil_append, if_true, if_false]
  rw [rX12_pack_287 s23 (by decide) (by omega) (by omega), cA _ (by omega) (by omega) (by omega) (by omega), p2 0 (Nat.zero_le _)]
  simp only [rX12_pack_288, up2_eq, va_rf, eq_self, or_true, true_or, Option.toList_some, Option.toList_none, List.cons_append, List.nil_append, if_true, if_false]
  refine hQ _ _ (hMS _ _ np (fun q hq => by rw [cF q y (by omega), hfF q y (by omega)]) (fun k k1 k2 k3 => by rw [cA _ (by omega) (by omega) (by omega) (by omega), p1 _ (by omega), hfA _ (by omega)]) (by rw [cF _ _ (by omega)]; exact h02) up2_eq z2 (by rw [cG _ (by omega) (by omega)]; exact e38) (by rw [cG _ (by omega) (by omega)]; exact e39) (by rw [cG _ (by omega) (by omega)]; exact e40) (fun j hj => ?_) (by omega) (by rw [cG _ (by omega) (by omega)]; exact e41) t5 (fun q hq => ?_)) ⟨fun q a g => by rw [cF q a (by omega), hfF q a (by omega)], fun a g => by rw [cA _ (by omega) (by omega) (by omega) (by omega), p1 _ (by omega), hfA _ (by omega)]⟩
  · rw [z1 _ (by omega), v1.2 _ (by omega), u2 j hj, t1.2 _ (by omega) (by omega), a25 _ (by omega)]
    exact p2 j hj
  · rw [z1 (y + 28) (by omega), v1.2 (y + 28) (by omega), u1 (y + 28) (by omega), z1 (y + 29) (by omega), v1.2 (y + 29) (by omega), u1 (y + 29) (by omega), z1 (y + 30) (by omega), v1.2 (y + 30) (by omega), u1 (y + 30) (by omega)]
    exact t6 q hq
theorem m_pack {i : Int32} (hM : isM sh R y) (h : MS F A y T) (hT : okT T) (hQ : mPost n u sh F R A B y (s_pack T i) Q) : rc_ (k + 8) mX12_pack [.ref y, .int i] (mkh n u sh F R A B) Q := by
  have h0 := MS_th (v := nI 0) h hT
  have hc := MS_clr h0 hT
  have hTc := okT_clr hT
  have t0 := hT.1.1
  have h24 := hT.2.2.2.1.1
  have e02 : up2 F 1200 y (nI 0) 1202 y = nI (T.1 0 0) := h0.1.1.1
  have frc : frM y F A (up2 (up2 F 1200 y (nI 0)) 1202 y (nI 0)) A := frM_trans (frM_F (by decide)) (frM_F (by decide))
  have g : ¬ nI 1 = nI 0 := by decide
  rw [eX12_pack]
  simp only [rX12_pack_0, rX12_pack_1, rX12_pack_2, rX12_pack_5, hM.1, up2_eq, va_rf, eq_self, or_true, true_or, Option.toList_some, Option.toList_none, List.cons_append, List.nil_append, if_true, if_false]
  rw [rX12_pack_6 hM.1]
  unfold s_pack at hQ
  refine k_takeTape hM e02 t0 (fun c => ?_) (fun c A1 f1 f2 => ?_)
  · simp only [rX12_pack_9, rX12_pack_10, rX12_pack_11, up2_eq, va_rf, eq_self, or_true, true_or, Option.toList_some, Option.toList_none, List.cons_append, List.nil_append, if_true, if_false]
    rw [rX12_pack_12 hM.1, k_isBookOr hM hc.2.1.1 h24]
    have hq : mPost n u sh F R A B y (-3, clrT T) Q := by
      cases hi : bx i (T.1 2 0) with
      | none => rw [hi] at hQ; exact hQ
      | some b => rw [hi] at hQ; dsimp only at hQ; rw [if_pos c] at hQ; exact hQ
    have hq2 := hq _ _ hc frc
    have e05 : bx i ((clrT T).1 2 0) = bx i (T.1 2 0) := rfl
    rw [e05]
    cases hi : bx i (T.1 2 0) with
    | none =>
      rw [if_pos rfl]
      simp only [rX12_pack_15, rX12_pack_22, rX12_pack_24, up2_eq, va_rf, eq_self, or_true, true_or, Option.toList_some, Option.toList_none, List.cons_append, List.nil_append, if_true, if_false]
      exact hq2
    | some b =>
      rw [if_neg (by simp)]
      simp only [rX12_pack_15, rX12_pack_18, rX12_pack_19, rX12_pack_22, rX12_pack_24, g, up2_eq, va_rf, eq_self, or_true, true_or, Option.toList_some, Option.toList_none, List.cons_append, List.nil_append, if_true, if_false]
      exact hq2
  · have hs : MS (up2 (up2 (up2 F 1200 y (nI 0)) 1202 y (nI 0)) 1232 y (nI (T.1 0 0))) A1 y (clrT T) := MS_scr hc hTc (fun q hq => up2_k (by omega)) (fun k k1 k2 k3 => f1 _ (by omega)) (fun j _ => by rw [f1 _ (by omega)]) (fun j _ => by rw [f1 _ (by omega)]) (fun j _ => by rw [f1 _ (by omega)]) (fun j _ => by rw [f1 _ (by omega)])
    have frs : frM y F A (up2 (up2 (up2 F 1200 y (nI 0)) 1202 y (nI 0)) 1232 y (nI (T.1 0 0))) A1 := frM_trans frc ⟨fun q a g => up2_o (by omega), fun a g => f1 _ (by omega)⟩
    have e32 : up2 (up2 (up2 F 1200 y (nI 0)) 1202 y (nI 0)) 1232 y (nI (T.1 0 0)) 1232 y = nI (T.1 0 0) := up2_eq
    have eo : ∀ q a, ¬ ((q = 1200 ∨ q = 1202 ∨ q = 1232) ∧ a = y) → up2 (up2 (up2 F 1200 y (nI 0)) 1202 y (nI 0)) 1232 y (nI (T.1 0 0)) q a = F q a := fun q a g => by rw [up2_o (by omega), up2_o (by omega), up2_o (by omega)]
    generalize up2 (up2 (up2 F 1200 y (nI 0)) 1202 y (nI 0)) 1232 y (nI (T.1 0 0)) = F1 at hs frs e32 eo ⊢
    simp only [rX12_pack_9, rX12_pack_10, rX12_pack_11, up2_eq, va_rf, eq_self, or_true, true_or, Option.toList_some, Option.toList_none, List.cons_append, List.nil_append, if_true, if_false]
    rw [rX12_pack_12 hM.1, k_isBookOr hM hs.2.1.1 h24]
    have e05 : bx i ((clrT T).1 2 0) = bx i (T.1 2 0) := rfl
    rw [e05]
    cases hi : bx i (T.1 2 0) with
    | none =>
      rw [hi] at hQ
      rw [if_pos rfl]
      simp only [rX12_pack_15, rX12_pack_22, rX12_pack_24, up2_eq, va_rf, eq_self, or_true, true_or, Option.toList_some, Option.toList_none, List.cons_append, List.nil_append, if_true, if_false]
      exact hQ _ _ hs frs
    | some b =>
      rw [hi] at hQ
      dsimp only at hQ
      rw [if_neg (by omega)] at hQ
      rw [if_neg (by simp)]
      simp only [rX12_pack_15, rX12_pack_18, rX12_pack_19, g, up2_eq, va_rf, eq_self, or_true, true_or, Option.toList_some, Option.toList_none, List.cons_append, List.nil_append, if_true, if_false]
      exact l_packT hM h hT hi c e32 (fun j hj => by rw [f2 j hj]; exact h.1.1.2 j hj) hs.1.1.1 eo f1 (fun F' A' m1 m2 => hQ _ _ m1 m2)
end MP2
