/-! ===== the reader: read ===== -/
section RD9
variable {k n u : Nat} {sh : hs_} {F : hF_} {R : hR_} {A : hF_} {B : hR_} {Q : Option Value → pm_H → Prop} {rd so sv sz ss N lt lv lz l0 m zs : Nat} {by_ L : Nat → Nat} {st : rst} {o r v z s e ze c bo : Nat} {E : Nat → Nat}
theorem rsz_ok {b : Nat → Nat} (hb : ∀ j, b j < 2) (h : (rsz b N st).2.2.1 = 0) : ∃ zs, zs ≤ 120 ∧ (rsz b N st).1 = nI zs ∧ (rsz b N st).2 = rgS b N st := by
  unfold rsz at h ⊢
  dsimp only at h ⊢
  split at h
  · rename_i h1
    obtain ⟨v1, v2, v3⟩ := rgV_ok hb h
    rw [v3] at h1 ⊢
    have e1 : nI (rgV b N st) - nI 1 = nI (rgV b N st - 1) := pk_sub v1
    rw [e1] at h1 ⊢
    refine ⟨rgV b N st - 1, Nat.not_lt.mp fun q => ?_, rfl, if_pos h1⟩
    exact nI_ge q (by omega) h1
  · exact absurd h (rdN_f (by decide))
theorem k_read {shf bk nb bc : Nat} {bs : Nat → Nat} {lk : Nat → Option bkd} (h1 : sh rd = some (0, 6, 0)) (hR : R 601 rd = some lt) (hb : isB sh F R lt lv 120 l0) (hsb : isB sh F R so sv sz ss) (hss : ss ≤ 240) (hso : so ≠ lt) (hsv : sv ≠ lv) (hby : ∀ j, j < ss → A sv j = nI (by_ j) ∧ by_ j < 256) (hS : R 600 rd = some shf) (hs : isS sh F R B shf bk nb bc bs)
    (hlk : ∀ j, j < 32 → match lk j with
      | none => (if nI j - nI 1 = -1 then some nb else fnd bs bc (nI j - nI 1)) = none
      | some bd => ∃ bo, (if nI j - nI 1 = -1 then some nb else fnd bs bc (nI j - nI 1)) = some bo ∧ isBk sh F R A bo bd lt lv) :
    rc_ (k + 5) mX6_read [.ref rd, .ref so] (mkh n u sh F R A B) Q ↔ Q (some (.int (nI (rdAll (bof by_) (8 * ss) lk (F 605 rd)).1.1.2.1))) (mkh n u sh (rsF (up2 (up2 F 604 rd (nI (8 * ss))) 605 rd (rdAll (bof by_) (8 * ss) lk (F 605 rd)).2) rd lt (rdAll (bof by_) (8 * ss) lk (F 605 rd)).1.1 (rdAll (bof by_) (8 * ss) lk (F 605 rd)).1.2.1) (up2 R 602 rd (some so)) (rsA A lv (rdAll (bof by_) (8 * ss) lk (F 605 rd)).1.2.2 (rdAll (bof by_) (8 * ss) lk (F 605 rd)).1.2.1) B) := by
  have h101 : F 101 so = nI ss := hsb.2.2.2.2.1
  have hR2 : up2 R 602 rd (some so) 601 rd = some lt := by rw [up2_k (by decide)]; exact hR
  have hm8 : nI 8 * nI ss = nI (8 * ss) := pk_mul _ _
  have ok0 : okR (0, 0, 0) (8 * ss) := ⟨by decide, Nat.zero_le _, Nat.zero_le _⟩
  have hA0 : rsA A lv (fun _ => 0) 0 = A := pfx_0
  have hr1 : isR sh (up2 (up2 F 604 rd (nI (8 * ss))) 101 lt (nI 0)) (up2 R 602 rd (some so)) A rd so sv sz ss by_ := ⟨h1, up2_eq, ((hsb.F (by decide)).other hso).R (by decide), hss, by rw [up2_k (by decide), up2_eq], hby⟩
  have hb1 : isB sh (up2 F 604 rd (nI (8 * ss))) (up2 R 602 rd (some so)) lt lv 120 l0 := (hb.F (by decide)).R (by decide)
  have hs1 : isS sh (up2 (up2 F 604 rd (nI (8 * ss))) 101 lt (nI 0)) (up2 R 602 rd (some so)) B shf bk nb bc bs := (((hs.oF (by decide)).oF (by decide)).oR (by decide) (by decide))
  have h600 : up2 R 602 rd (some so) 600 rd = some shf := by rw [up2_k (by decide)]; exact hS
  have ok1 : okR (rdB (0, 0, 0) 5 (8 * ss)) (8 * ss) := okR_B ok0
  have o1 := ok1.1
  have h605 : ∀ (st : rst) (m : Nat), rsF (up2 F 604 rd (nI (8 * ss))) rd lt st m = rsF (up2 (up2 F 604 rd (nI (8 * ss))) 605 rd (F 605 rd)) rd lt st m := by
    intro st m
    have e : up2 (up2 F 604 rd (nI (8 * ss))) 605 rd (F 605 rd) = up2 F 604 rd (nI (8 * ss)) := by
      rw [up2_sw (by decide), up2_id]
    rw [e]
  rw [eX6_read]
  simp only [rX6_read_0, rX6_read_1, rX6_read_1_n, rX6_read_2, rX6_read_5, rX6_read_6, rX6_read_7, rX6_read_10, rX6_read_11, rX6_read_13, rX6_read_13_n, rX6_read_14, rX6_read_17, rX6_read_18, rX6_read_21, rX6_read_22, rX6_read_23, rX6_read_26, rX6_read_27, rX6_read_28, rX6_read_31, rX6_read_32, h1, h101, hR2, hsb.1, hm8, up2_k, ne_eq, Nat.reduceEqDiff, not_false_eq_true, up2_eq, va_rf, eq_self, or_true, true_or, Option.toList_some, Option.toList_none, List.cons_append, List.nil_append, if_true, if_false]
  rw [rX6_read_35 hb.1, k_Bytes_clear hb.1, rsF_beg]
  simp only [rX6_read_38, up2_eq, va_rf, eq_self, or_true, true_or, Option.toList_some, Option.toList_none, List.cons_append, List.nil_append, if_true, if_false]
  rw [rX6_read_39 h1]
  unfold rsF
  rw [k_readBook hr1 ok0 h600 hs1]
  unfold rdAll
  by_cases c1 : (rdB (0, 0, 0) 5 (8 * ss)).2.1 = 0
  · rw [if_pos c1, if_pos c1]
    have hb8 := bv_lt (b := bof by_) (p := 0) bof_lt 5
    have hl := hlk (bv (bof by_) 0 5) hb8
    cases hc : lk (bv (bof by_) 0 5) with
    | none =>
      rw [hc] at hl
      dsimp only at hl ⊢
      rw [hl, if_pos rfl]
      simp only [rX6_read_42, rX6_read_42_n, rX6_read_43, rX6_read_43_n, rX6_read_44, rX6_read_44_n, rX6_read_47, rX6_read_48, rX6_read_51, h1, rdF_606, up2_eq, va_rf, eq_self, or_true, true_or, Option.toList_some, Option.toList_none, List.cons_append, List.nil_append, if_true, if_false]
      have := h605 (rdN (rdB (0, 0, 0) 5 (8 * ss)) 2 0) 0
      unfold rsF at this
      rw [this, hA0]
    | some bd =>
      rw [hc] at hl
      dsimp only at hl ⊢
      obtain ⟨bo, hbo, o, r, v, z, e, ze, q1, q2, q3, q4, q5, q6, q7, q8, q9, q10⟩ := hl
      rw [hbo, if_neg (by simp)]
      simp only [rX6_read_42, rX6_read_42_n, rX6_read_43, rX6_read_43_n, rX6_read_44, rX6_read_44_n, rX6_read_47, rX6_read_48, rX6_read_51, rX6_read_52, up2_eq, va_rf, eq_self, or_true, true_or, Option.toList_some, Option.toList_none, List.cons_append, List.nil_append, if_true, if_false]
      rw [rX6_read_53 h1, k_readSize hr1 ok1]
      simp only [rX6_read_56, rX6_read_57, up2_eq, va_rf, eq_self, or_true, true_or, Option.toList_some, Option.toList_none, List.cons_append, List.nil_append, if_true, if_false]
      have hsw : up2 (up2 (up2 F 604 rd (nI (8 * ss))) 101 lt (nI 0)) 605 rd (rsz (bof by_) (8 * ss) (rdB (0, 0, 0) 5 (8 * ss))).1 = up2 (up2 (up2 F 604 rd (nI (8 * ss))) 605 rd (rsz (bof by_) (8 * ss) (rdB (0, 0, 0) 5 (8 * ss))).1) 101 lt (nI 0) := up2_sw (by decide)
      rw [hsw]
      have okz : okR (rsz (bof by_) (8 * ss) (rdB (0, 0, 0) 5 (8 * ss))).2 (8 * ss) := by
        unfold rsz
        dsimp only
        split
        · exact okR_gS ok1
        · refine okR_N (okR_gS ok1) (by omega) ?_
          have : ¬ rdX (0, 0, 0) 5 (8 * ss) = true := fun hx => rdB_f hx c1
          exact (rdX_0 this).2
      have oz := okz.1
      by_cases c2 : (rsz (bof by_) (8 * ss) (rdB (0, 0, 0) 5 (8 * ss))).2.2.1 = 0
      · obtain ⟨zs, z1, z2, z3⟩ := rsz_ok bof_lt c2
        rw [if_pos c2]
        have hzc : (rsz (bof by_) (8 * ss) (rdB (0, 0, 0) 5 (8 * ss))).1.toNatClampNeg = zs := by rw [z2]; exact nI_clamp (by omega)
        rw [hzc]
        have hD : isD sh (up2 (up2 F 604 rd (nI (8 * ss))) 605 rd (rsz (bof by_) (8 * ss) (rdB (0, 0, 0) 5 (8 * ss))).1) (up2 R 602 rd (some so)) A rd so sv sz ss lt lv l0 zs by_ :=
          ⟨⟨h1, up2_eq, ((hsb.F (by decide)).F (by decide)).R (by decide), hss, by rw [up2_k (by decide), up2_eq], hby⟩, hso, hsv, hR2, hb1.F (by decide), by rw [up2_eq, z2], z1⟩
        have hq2 : up2 R 602 rd (some so) 2 bo = some o := by rw [up2_k (by decide)]; exact q2
        have hp : isP sh (up2 (up2 F 604 rd (nI (8 * ss))) 605 rd (rsz (bof by_) (8 * ss) (rdB (0, 0, 0) 5 (8 * ss))).1) (up2 R 602 rd (some so)) A o r v z bd.1 e ze bd.2.1 bd.2.2.1 := ((q3.F (by decide) (by decide)).F (by decide) (by decide)).R (by decide) (by decide) (by decide)
        have hrk : decide (up2 (up2 F 604 rd (nI (8 * ss))) 605 rd (rsz (bof by_) (8 * ss) (rdB (0, 0, 0) 5 (8 * ss))).1 1 bo = nI 2) = bd.2.2.2.2 := by rw [up2_k (by decide), up2_k (by decide), q7]
        have hok0 : okS ((rsz (bof by_) (8 * ss) (rdB (0, 0, 0) 5 (8 * ss))).2, 0, fun _ => 0) (8 * ss) zs := ⟨okz, Nat.zero_le _, fun j hj => absurd hj (Nat.not_lt_zero _)⟩
        have hokT := okS_rpL (rk := bd.2.2.2.2) (bof_lt (by_ := by_)) q4 (fun j hj => (q6 j hj).2) 120 _ hok0
        have key := l_read (k := k) (n := n) (u := u) (B := B) (Q := Q) (x1 := .ref so) (Z := Q (some (.int (nI (rdP (bof by_) (8 * ss) bd zs (rsz (bof by_) (8 * ss) (rdB (0, 0, 0) 5 (8 * ss))).2 (fun _ => 0)).1.2.1))) (mkh n u sh (rsF (up2 (up2 F 604 rd (nI (8 * ss))) 605 rd (rsz (bof by_) (8 * ss) (rdB (0, 0, 0) 5 (8 * ss))).1) rd lt (rdP (bof by_) (8 * ss) bd zs (rsz (bof by_) (8 * ss) (rdB (0, 0, 0) 5 (8 * ss))).2 (fun _ => 0)).1 (rdP (bof by_) (8 * ss) bd zs (rsz (bof by_) (8 * ss) (rdB (0, 0, 0) 5 (8 * ss))).2 (fun _ => 0)).2.1) (up2 R 602 rd (some so)) (rsA A lv (rdP (bof by_) (8 * ss) bd zs (rsz (bof by_) (8 * ss) (rdB (0, 0, 0) 5 (8 * ss))).2 (fun _ => 0)).2.2 (rdP (bof by_) (8 * ss) bd zs (rsz (bof by_) (8 * ss) (rdB (0, 0, 0) 5 (8 * ss))).2 (fun _ => 0)).2.1) B)) hD q1 hq2 hp q4 q8 q9 q10 q5 q6 (fun y => ?_) 120 0 _ rfl hok0 rfl
        · dsimp only at key
          unfold rsF at key
          rw [hA0] at key
          exact key
        · rw [hrk]
          unfold rdP
          generalize hTe : rpL (bof by_) (8 * ss) zs bd.1 bd.2.1 bd.2.2.1 bd.2.2.2.1 bd.2.2.2.2 120 ((rsz (bof by_) (8 * ss) (rdB (0, 0, 0) 5 (8 * ss))).2, 0, fun _ => 0) = T at hokT
          have oT := hokT.1.1
          simp only [rX6_read_96, rX6_read_97, h1, rsF_606, up2_eq, va_rf, eq_self, or_true, true_or, Option.toList_some, Option.toList_none, List.cons_append, List.nil_append, if_true, if_false]
          by_cases c3 : T.1.2.1 = 0
          · have g3 : nI T.1.2.1 = nI 0 := by rw [c3]
            rw [if_pos c3]
            simp only [rX6_read_100, rX6_read_103, g3, up2_eq, va_rf, eq_self, or_true, true_or, Option.toList_some, Option.toList_none, List.cons_append, List.nil_append, if_true, if_false]
            rw [rX6_read_104 h1]
            unfold rsF
            rw [k_readFill hD.r hokT.1 c3]
            simp only [rX6_read_107, rX6_read_108, rX6_read_111, h1, rdF_606, up2_eq, va_rf, eq_self, or_true, true_or, Option.toList_some, Option.toList_none, List.cons_append, List.nil_append, if_true, if_false]
          · have g3 : ¬ nI T.1.2.1 = nI 0 := nI_ne0 (by omega) (by omega)
            rw [if_neg c3]
            simp only [rX6_read_100, rX6_read_107, rX6_read_108, rX6_read_111, h1, rsF_606, g3, up2_eq, va_rf, eq_self, or_true, true_or, Option.toList_some, Option.toList_none, List.cons_append, List.nil_append, if_true, if_false]
      · have g2 : ¬ nI (rsz (bof by_) (8 * ss) (rdB (0, 0, 0) 5 (8 * ss))).2.2.1 = nI 0 := nI_ne0 (by omega) (by omega)
        have g3 : ¬ nI 120 ≤ nI 0 := by decide
        rw [if_neg c2]
        simp only [rX6_read_58, rX6_read_59, rX6_read_61, rX6_read_64, rX6_read_65, rX6_read_68, rX6_read_96, rX6_read_97, rX6_read_100, rX6_read_103, rX6_read_104, rX6_read_107, rX6_read_108, rX6_read_111, h1, rdF_606, g2, g3, hA0, up2_eq, va_rf, eq_self, or_true, true_or, Option.toList_some, Option.toList_none, List.cons_append, List.nil_append, if_true, if_false]
  · rw [if_neg c1, if_neg c1]
    simp only [rX6_read_42, rX6_read_42_n, rX6_read_43, rX6_read_43_n, rX6_read_44, rX6_read_44_n, rX6_read_47, rX6_read_48, rX6_read_51, h1, rdF_606, up2_eq, va_rf, eq_self, or_true, true_or, Option.toList_some, Option.toList_none, List.cons_append, List.nil_append, if_true, if_false]
    have := h605 (rdB (0, 0, 0) 5 (8 * ss)) 0
    unfold rsF at this
    rw [this, hA0]
end RD9
