/-! ===== what is written is read again: a letter ===== -/
section RW3
variable {N : tN} {J : tJ} {b m i : Nat} {L L' : Nat → Nat} {S st : wst} {B8 : Nat} {bb : Nat → Nat}
theorem W_of2 {a nb : Nat} (hb : ∀ j, bb j = b2 (S.1 j) 1) (h : exW (wS st a nb) S) : Wb bb st.2 a nb := by
  intro j hj
  have e := W_of h j hj
  rw [bof_byt] at e
  rw [hb]
  exact e
theorem rpP_W (hb : ∀ j, bb j = b2 (S.1 j) 1) (hB : okB N J b) (hm : m ≤ 120) (h8 : ∀ j, j < m → L j < 256) (hi : i < m) (hS : exW (ptS st (plT N J b m L i).2.2.1 (plT N J b m L i).2.2.2.1.toNatClampNeg (plT N J b m L i).2.2.2.2 i (N 5 b) L) S) (hN : S.2 ≤ B8) (hL : ∀ j, j < i → L' j = L j) :
    ∃ L'', rpP bb B8 m (st.2, 0, 0) i L' (N 5 b) (N 4 b) (J 3 b) (J 0 b) (decide (N 3 b = 2)) = (((ptS st (plT N J b m L i).2.2.1 (plT N J b m L i).2.2.2.1.toNatClampNeg (plT N J b m L i).2.2.2.2 i (N 5 b) L).2, 0, 0), i + (plT N J b m L i).2.2.2.2, L'') ∧ ∀ j, j < i + (plT N J b m L i).2.2.2.2 → L'' j = L j := by
  obtain ⟨⟨o1, o2⟩, o3, o4, o5⟩ := plT_ok (L := L) hB hm hi
  obtain ⟨k1, k2, k3, k4, k5, k6, k7⟩ := hB
  rw [ptS_2]
  generalize (plT N J b m L i).2.2.2.2 = nn at *
  generalize (plT N J b m L i).2.2.2.1 = pl at *
  generalize (plT N J b m L i).2.2.1 = kd at *
  rcases o5 with ⟨e, -⟩ | ⟨e, p, p1, p2, p3, p4⟩ | ⟨e, p, p1, p2, p3, p4⟩ | ⟨e, hrk, q, p1, p2, p3, p4⟩
  · subst e
    have hS' : exW (pbS (wS (wS st 0 2) nn (gm nn)) L i nn) S := hS
    have e2 : st.2 + ptW 0 pl.toNatClampNeg nn i (N 5 b) = st.2 + 2 + gm nn + 8 * nn := by
      show st.2 + (2 + gm nn + 8 * nn) = _
      omega
    rw [e2]
    have hpb := exW_trans (exW_pbS (st := wS (wS st 0 2) nn (gm nn)) (bl := L) (p := i) nn) hS'
    have hk := exW_trans (exW_wS (st := wS st 0 2) (a := nn) (nb := gm nn)) hpb
    have hle := hS'.1
    rw [pbS_2] at hle
    have hle2 : st.2 + 2 + gm nn + 8 * nn ≤ S.2 := hle
    have W0w := W_of2 hb hk
    have W0 : bv bb st.2 2 = 0 := bv_full W0w (by decide)
    have W1w := W_of2 hb hpb
    have W1 : Wb bb (st.2 + 2) nn (gm nn) := W1w
    have W2 : ∀ t, t < nn → Wb bb (st.2 + 2 + gm nn + 8 * t) (L (i + t)) 8 := fun t ht => by
      have h1 := exW_pb (st := wS (wS st 0 2) nn (gm nn)) (bl := L) (p := i) (i := t + 1) (nn - (t + 1))
      rw [show t + 1 + (nn - (t + 1)) = nn by omega] at h1
      have e := W_of2 (st := pbS (wS (wS st 0 2) nn (gm nn)) L i t) (a := L (i + t)) (nb := 8) hb (exW_trans h1 hS')
      rw [pbS_2] at e
      exact e
    exact rpO_W W0 W1 W2 (by omega) hL h8 o1 o2 hm
  · subst e p2
    rw [nI_clamp (by omega)] at *
    have hS' : exW (wS (wS (wS st 1 2) p (wd (N 5 b))) (nn - 2) (gm (nn - 2))) S := hS
    have e2 : st.2 + ptW 1 p nn i (N 5 b) = st.2 + 2 + wd (N 5 b) + gm (nn - 2) := by
      show st.2 + (2 + wd (N 5 b) + gm (nn - 2)) = _
      omega
    rw [e2]
    have hk2 := exW_trans (exW_wS (st := wS (wS st 1 2) p (wd (N 5 b))) (a := nn - 2) (nb := gm (nn - 2))) hS'
    have hk := exW_trans (exW_wS (st := wS st 1 2) (a := p) (nb := wd (N 5 b))) hk2
    have hle : st.2 + 2 + wd (N 5 b) + gm (nn - 2) ≤ S.2 := hS'.1
    have W0w := W_of2 hb hk
    have W0 : bv bb st.2 2 = 1 := bv_full W0w (by decide)
    have W1w := W_of2 hb hk2
    have W1 : bv bb (st.2 + 2) (wd (N 5 b)) = p := bv_full W1w (wd_lt p1)
    have W2w := W_of2 hb hS'
    have W2 : Wb bb (st.2 + 2 + wd (N 5 b)) (nn - 2) (gm (nn - 2)) := W2w
    unfold tol at p4
    have hcl := cpl_le (f := fun j => fI L (i + j)) (g := fun j => fI (J 0 b) (p + j)) (min (m - i) (ear (J 3 b) p (N 4 b) 0 - p))
    have hear := ear_le k1 (p := p) (N 4 b) 0 (by omega)
    refine rpT_W W0 W1 W2 (by omega) hL p3 o2 hm (by omega) (fun t ht => ?_)
    have he := cpl_eq _ t (Nat.lt_of_lt_of_le ht p4)
    have he2 : nI (L (i + t)) = nI (J 0 b (p + t)) := he
    have a1 := h8 (i + t) (by omega)
    have a2 := k7 (p + t) (by omega)
    rw [nI_eq (by omega) (by omega)] at he2
    exact he2.symm
  · subst e p2
    rw [nI_clamp (by omega)] at *
    have hS' : exW (wS (wS (wS st 2 2) p (wd i)) (nn - 2) (gm (nn - 2))) S := hS
    have e2 : st.2 + ptW 2 p nn i (N 5 b) = st.2 + 2 + wd i + gm (nn - 2) := by
      show st.2 + (2 + wd i + gm (nn - 2)) = _
      omega
    rw [e2]
    have hk2 := exW_trans (exW_wS (st := wS (wS st 2 2) p (wd i)) (a := nn - 2) (nb := gm (nn - 2))) hS'
    have hk := exW_trans (exW_wS (st := wS st 2 2) (a := p) (nb := wd i)) hk2
    have hle : st.2 + 2 + wd i + gm (nn - 2) ≤ S.2 := hS'.1
    have W0w := W_of2 hb hk
    have W0 : bv bb st.2 2 = 2 := bv_full W0w (by decide)
    have W1w := W_of2 hb hk2
    have W1 : bv bb (st.2 + 2) (wd i) = p := bv_full W1w (wd_lt p1)
    have W2w := W_of2 hb hS'
    have W2 : Wb bb (st.2 + 2 + wd i) (nn - 2) (gm (nn - 2)) := W2w
    unfold fal at p4
    have hcl := cpl_le (f := fun j => fI L (i + j)) (g := fun j => fI L (p + j)) (min (m - i) (i - p))
    refine rpF_W W0 W1 W2 (by omega) hL p3 o2 hm (by omega) (fun t ht => ?_)
    have he := cpl_eq _ t (Nat.lt_of_lt_of_le ht p4)
    have he2 : nI (L (i + t)) = nI (L (p + t)) := he
    have a1 := h8 (i + t) (by omega)
    have a2 := h8 (p + t) (by omega)
    rw [nI_eq (by omega) (by omega)] at he2
    rw [hL _ (by omega)]
    exact he2.symm
  · subst e p2
    rw [nI_clamp (by omega)] at *
    have hS' : exW (wS (wS st 3 2) (q + 1) (gm (q + 1))) S := hS
    have e2 : st.2 + ptW 3 q nn i (N 5 b) = st.2 + 2 + gm (q + 1) := by
      show st.2 + (2 + gm (q + 1)) = _
      omega
    rw [e2, p4]
    have hk := exW_trans (exW_wS (st := wS st 3 2) (a := q + 1) (nb := gm (q + 1))) hS'
    have hle : st.2 + 2 + gm (q + 1) ≤ S.2 := hS'.1
    have W0w := W_of2 hb hk
    have W0 : bv bb st.2 2 = 3 := bv_full W0w (by decide)
    have W1w := W_of2 hb hS'
    have W1 : Wb bb (st.2 + 2) (q + 1) (gm (q + 1)) := W1w
    unfold whl at p3
    rw [Bool.and_eq_true] at p3
    obtain ⟨w1, w2⟩ := p3
    have w1' := of_decide_eq_true w1
    have w2' := cpl_full.mp (of_decide_eq_true w2)
    have hEq := k1.E_le p1
    have hEs := k1.1 q p1
    refine rpW_W W0 W1 (by omega) hL p1 k2 hrk w1' (fun t ht => ?_)
    have he2 : nI (L (i + t)) = nI (J 0 b (pst (J 3 b) q + t)) := w2' t ht
    have a1 := h8 (i + t) (by omega)
    have a2 := k7 (pst (J 3 b) q + t) (by omega)
    rw [nI_eq (by omega) (by omega)] at he2
    exact he2.symm
theorem rpL_W (hb : ∀ j, bb j = b2 (S.1 j) 1) (hB : okB N J b) (hm : m ≤ 120) (h8 : ∀ j, j < m → L j < 256) (hN : S.2 ≤ B8) : ∀ d i st L', i ≤ m → m ≤ i + d → wrL (fun j => (plT N J b m L j).2.2.1) (fun j => (plT N J b m L j).2.2.2.1.toNatClampNeg) (fun j => (plT N J b m L j).2.2.2.2) L (N 5 b) m d i st = S → (∀ j, j < i → L' j = L j) →
    ∃ L'', rpL bb B8 m (N 5 b) (N 4 b) (J 3 b) (J 0 b) (decide (N 3 b = 2)) d ((st.2, 0, 0), i, L') = ((S.2, 0, 0), m, L'') ∧ ∀ j, j < m → L'' j = L j
  | 0, i, st, L', h1, h2, hS, hL => by
    have e : i = m := by omega
    subst e
    unfold wrL at hS
    subst hS
    exact ⟨L', rfl, hL⟩
  | d + 1, i, st, L', h1, h2, hS, hL => by
    unfold rpL
    unfold wrL at hS
    by_cases c : i < m
    · rw [if_pos c] at hS
      rw [if_pos ⟨rfl, c⟩]
      obtain ⟨⟨o1, o2⟩, -⟩ := plT_ok (L := L) hB hm c
      have hex : exW (ptS st (plT N J b m L i).2.2.1 (plT N J b m L i).2.2.2.1.toNatClampNeg (plT N J b m L i).2.2.2.2 i (N 5 b) L) S := by
        rw [← hS]
        exact exW_wrL d _ _
      obtain ⟨L2, e1, e2⟩ := rpP_W hb hB hm h8 c hex hN hL
      dsimp only
      rw [e1]
      exact rpL_W hb hB hm h8 hN d _ _ L2 o2 (by omega) hS e2
    · rw [if_neg c] at hS
      rw [if_neg (fun e => c e.2)]
      have e : i = m := by omega
      subst e hS
      exact ⟨L', rfl, hL⟩
theorem rw_T {lk : Nat → Option bkd} {y : Int32} (hB : okB N J b) (hb : b < 24 ∨ b = 25) (hm : m ≤ 120) (h8 : ∀ j, j < m → L j < 256) (hlk : lk (b5 b) = some (N 5 b, N 4 b, J 3 b, J 0 b, decide (N 3 b = 2))) :
    (rdAll (bof (byt (wrT N J b m L).1)) (8 * (((wrT N J b m L).2 + 7) / 8)) lk y).1.2.1 = m ∧ ∀ j, j < m → (rdAll (bof (byt (wrT N J b m L).1)) (8 * (((wrT N J b m L).2 + 7) / 8)) lk y).1.2.2 j = L j := by
  have h5 : b5 b < 32 := by
    unfold b5
    split <;> omega
  obtain ⟨S, hS⟩ : ∃ S, wrT N J b m L = S := ⟨_, rfl⟩
  rw [hS]
  unfold wrT at hS
  have hN : S.2 ≤ 8 * ((S.2 + 7) / 8) := by omega
  generalize 8 * ((S.2 + 7) / 8) = B8 at hN
  have hex2 : exW (wS (wS ((fun _ => false), 0) (b5 b) 5) (m + 1) (gm (m + 1))) S := by
    rw [← hS]
    exact exW_wrL 120 _ _
  have hex1 := exW_trans exW_wS hex2
  have hle : 0 + 5 + gm (m + 1) ≤ S.2 := hex2.1
  have hbb : ∀ j, bof (byt S.1) j = b2 (S.1 j) 1 := fun j => bof_byt
  generalize bof (byt S.1) = bb at hbb ⊢
  have W1w := W_of2 hbb hex1
  have W1 : bv bb 0 5 = b5 b := bv_full W1w h5
  have W2w := W_of2 hbb hex2
  have W2 : Wb bb 5 (m + 1) (gm (m + 1)) := W2w
  obtain ⟨g1, g2, g3⟩ := rg_W (N := B8) W2 (by omega) (by omega) (by omega)
  obtain ⟨L2, e1, e2⟩ := rpL_W hbb hB hm h8 hN 120 0 _ (fun _ => 0) (Nat.zero_le _) (by omega) hS (fun j hj => absurd hj (Nat.not_lt_zero _))
  have e3 : nI (m + 1) - nI 1 = nI m := nI_sub1 m
  have hle2 : nI m ≤ nI 120 := nI_le (by omega) (by omega)
  have hz : rsz bb B8 (5, 0, 0) = (nI m, (5 + gm (m + 1), 0, 0)) := by
    unfold rsz
    dsimp only
    rw [g3]
    dsimp only
    rw [e3, if_pos hle2, g1]
  have e1' : rpL bb B8 m (N 5 b) (N 4 b) (J 3 b) (J 0 b) (decide (N 3 b = 2)) 120 ((5 + gm (m + 1), 0, 0), 0, fun _ => 0) = ((S.2, 0, 0), m, L2) := by
    have e4 : (wS (wS ((fun _ => false), 0) (b5 b) 5) (m + 1) (gm (m + 1))).2 = 5 + gm (m + 1) := by
      show 0 + 5 + gm (m + 1) = _
      omega
    rw [e4] at e1
    exact e1
  have hfin : (rdAll bb B8 lk y).1.2 = (m, L2) := by
    unfold rdAll
    rw [rdB_z (by omega)]
    dsimp only
    rw [W1, hlk]
    simp only [if_true]
    rw [show (0 + 5, 0, 0) = ((5, 0, 0) : rst) from rfl, hz]
    simp only [if_true]
    rw [nI_clamp (by omega)]
    unfold rdP
    simp only [e1', if_true]
  rw [hfin]
  exact ⟨rfl, e2⟩
end RW3
