/-! ===== the reader: a letter ===== -/
/-- what holds between parts -/
def okS (S : rss) (N zs : Nat) : Prop := okR S.1 N ∧ S.2.1 ≤ zs ∧ ∀ j, j < S.2.1 → S.2.2 j < 256
theorem okS_roL {b : Nat → Nat} {N zs : Nat} (hb : ∀ j, b j < 2) : ∀ d st m L, m + d ≤ zs → okS (st, m, L) N zs → okS (roL b N d st m L) N zs
  | 0, st, m, L, _, h => h
  | d + 1, st, m, L, hm, h => by
    unfold roL
    split
    · split
      · exact okS_roL hb d _ m L (by omega) ⟨okR_B h.1, h.2.1, h.2.2⟩
      · refine okS_roL hb d _ (m + 1) _ (by omega) ⟨okR_B h.1, by dsimp only; omega, fun j hj => ?_⟩
        dsimp only at hj ⊢
        split
        · exact bv_lt hb 8
        · exact h.2.2 j (by dsimp only; omega)
    · exact h
theorem okS_cp {st st' : rst} {m nn N zs fr : Nat} {L src : Nat → Nat} (h : okS (st, m, L) N zs) (h2 : okR st' N) (h3 : m + nn ≤ zs) (hsrc : ∀ j, j < fr + nn → src j < 256) : okS (st', m + nn, lcp L src m fr) N zs := by
  refine ⟨h2, h3, fun j hj => ?_⟩
  dsimp only at hj ⊢
  unfold lcp
  split
  · exact h.2.2 j (by dsimp only; omega)
  · exact hsrc _ (by omega)
theorem okR_gS {b : Nat → Nat} {N : Nat} {st : rst} (h : okR st N) : okR (rgS b N st) N := okR_G h.2.1 8 0 _ h
theorem okS_rpC {b : Nat → Nat} {N zs first w m : Nat} {st : rst} {L src en : Nat → Nat} (h : okS (st, m, L) N zs) (hf : first ≤ N) (hen : ∀ p j, j < en p → src j < 256) : okS (rpC b N zs st m L first w src en) N zs := by
  have h1 : okR (rgS b N (rdB st w N)) N := okR_gS (okR_B h.1)
  have hm : m ≤ zs := h.2.1
  unfold rpC
  split
  · split
    · exact ⟨okR_N h1 (by omega) hf, h.2⟩
    · exact okS_cp h h1 (by omega) (fun j hj => hen (bv b st.1 w) j (by omega))
  · exact ⟨h1, h.2⟩
theorem okS_rpP {b : Nat → Nat} {N zs s c m : Nat} {st : rst} {L E src : Nat → Nat} {rk : Bool} (hb : ∀ j, b j < 2) (hE : okE E c s) (hsrc : ∀ j, j < s → src j < 256) (h : okS (st, m, L) N zs) : okS (rpP b N zs st m L s c E src rk) N zs := by
  have h1 : okR (rdB st 2 N) N := okR_B h.1
  have hs1 : okS (rdB st 2 N, m, L) N zs := ⟨h1, h.2⟩
  have hf : st.1 ≤ N := h.1.2.1
  have hm : m ≤ zs := h.2.1
  have h2 : okR (rgS b N (rdB st 2 N)) N := okR_gS h1
  unfold rpP
  split
  · split
    · unfold rpO
      split
      · split
        · exact ⟨okR_N h2 (by omega) hf, h.2⟩
        · exact okS_roL hb _ _ _ _ (by omega) ⟨h2, h.2⟩
      · exact ⟨h2, h.2⟩
    · split
      · exact okS_rpC hs1 hf (fun p j hj => hsrc j (Nat.lt_of_lt_of_le hj (ear_le hE c 0 (by omega))))
      · split
        · exact okS_rpC hs1 hf (fun p j hj => h.2.2 j hj)
        · unfold rpW
          split
          · split
            · split
              · exact ⟨okR_N h2 (by omega) hf, h.2⟩
              · rename_i hq
                have hlt : rgV b N (rdB st 2 N) - 1 < c := by omega
                have g1 := hE.E_le hlt
                have g2 := hE.1 _ hlt
                exact okS_cp hs1 h2 (by omega) (fun j hj => hsrc j (by omega))
            · exact ⟨h2, h.2⟩
          · exact ⟨okR_N h1 (by omega) hf, h.2⟩
  · exact hs1
theorem okS_rpL {b : Nat → Nat} {N zs s c : Nat} {E src : Nat → Nat} {rk : Bool} (hb : ∀ j, b j < 2) (hE : okE E c s) (hsrc : ∀ j, j < s → src j < 256) : ∀ d S, okS S N zs → okS (rpL b N zs s c E src rk d S) N zs
  | 0, _, h => h
  | d + 1, S, h => by
    unfold rpL
    split
    · exact okS_rpL hb hE hsrc d _ (okS_rpP hb hE hsrc h)
    · exact h
section RD8
variable {k n u : Nat} {sh : hs_} {F : hF_} {R : hR_} {A : hF_} {B : hR_} {Q : Option Value → pm_H → Prop} {rd so sv sz ss N lt lv lz l0 m zs : Nat} {by_ L : Nat → Nat} {st : rst} {o r v z s e ze c bo : Nat} {E : Nat → Nat}
theorem l_read {src : Nat → Nat} {x1 : Value} {Z : Prop} {T : rss} (h : isD sh F R A rd so sv sz ss lt lv l0 zs by_) (hbo : sh bo = some (0, 0, 0)) (hbp : R 2 bo = some o) (hp : isP sh F R A o r v z s e ze c E) (hE : okE E c s) (hr : r ≠ lt) (he : e ≠ lv) (hv : v ≠ lv) (hs : s ≤ 320) (hsrc : isSrc A v s src)
    (hZ : ∀ y, (rw_ (k + 5) mX6_read 96 [.ref rd, x1, .ref bo, y] [] (mkh n u sh (rsF F rd lt T.1 T.2.1) R (rsA A lv T.2.2 T.2.1) B) Q ↔ Z)) :
    ∀ d j (S : rss), j + d = 120 → okS S (8 * ss) zs → rpL (bof by_) (8 * ss) zs s c E src (decide (F 1 bo = nI 2)) d S = T → (rw_ (k + 5) mX6_read 58 [.ref rd, x1, .ref bo, .int (nI j)] [] (mkh n u sh (rsF F rd lt S.1 S.2.1) R (rsA A lv S.2.2 S.2.1) B) Q ↔ Z) := by
  obtain ⟨hr0, hso, hsv, hR, hb, hz1, hz2⟩ := id h
  have h1 := hr0.1
  intro d
  induction d with
  | zero =>
    intro j S hj hok hT
    have g1 : nI 120 ≤ nI j := nI_le (by omega) (by omega)
    unfold rpL at hT
    subst hT
    simp only [rX6_read_58, rX6_read_59, rX6_read_61, g1, up2_eq, va_rf, eq_self, or_true, true_or, Option.toList_some, Option.toList_none, List.cons_append, List.nil_append, if_true, if_false]
    exact hZ _
  | succ d ih =>
    intro j S hj hok hT
    have g1 : ¬ nI 120 ≤ nI j := nI_ge (by omega) (by omega)
    have o1 := hok.1.1
    have o2 := hok.2.1
    unfold rpL at hT
    simp only [rX6_read_58, rX6_read_59, rX6_read_61, rX6_read_64, rX6_read_65, g1, h1, rsF_606, up2_eq, va_rf, eq_self, or_true, true_or, Option.toList_some, Option.toList_none, List.cons_append, List.nil_append, if_true, if_false]
    by_cases c1 : S.1.2.1 = 0
    · have g2 : nI S.1.2.1 = nI 0 := by rw [c1]
      simp only [rX6_read_68, rX6_read_71, rX6_read_72, rX6_read_75, rX6_read_78, rX6_read_79, g2, h1, hR, hb.1, rsF_605 hz1, rsF_101, up2_eq, va_rf, eq_self, or_true, true_or, Option.toList_some, Option.toList_none, List.cons_append, List.nil_append, if_true, if_false]
      by_cases c2 : S.2.1 < zs
      · have g3 : ¬ nI zs ≤ nI S.2.1 := nI_ge c2 (by omega)
        rw [if_pos ⟨c1, c2⟩] at hT
        simp only [rX6_read_82, rX6_read_85, rX6_read_86, rX6_read_86_n, g3, up2_eq, va_rf, eq_self, or_true, true_or, Option.toList_some, Option.toList_none, List.cons_append, List.nil_append, if_true, if_false]
        rw [rX6_read_87 h1, k_readPart h hok.1 o2 hok.2.2 hbo hbp hp hE hr he hv hs hsrc]
        simp only [rX6_read_90, rX6_read_93, nI_add, up2_eq, va_rf, eq_self, or_true, true_or, Option.toList_some, Option.toList_none, List.cons_append, List.nil_append, if_true, if_false]
        exact ih (j + 1) _ (by omega) (okS_rpP bof_lt hE (fun q hq => (hsrc q hq).2) hok) hT
      · have g3 : nI zs ≤ nI S.2.1 := nI_le (by omega) (by omega)
        rw [if_neg (fun x => c2 x.2)] at hT
        subst hT
        simp only [rX6_read_82, g3, up2_eq, va_rf, eq_self, or_true, true_or, Option.toList_some, Option.toList_none, List.cons_append, List.nil_append, if_true, if_false]
        exact hZ _
    · have g2 : ¬ nI S.1.2.1 = nI 0 := nI_ne0 (by omega) (by omega)
      rw [if_neg (fun x => c1 x.1)] at hT
      subst hT
      simp only [rX6_read_68, g2, up2_eq, va_rf, eq_self, or_true, true_or, Option.toList_some, Option.toList_none, List.cons_append, List.nil_append, if_true, if_false]
      exact hZ _
/-- a book as data -/
def isBk (sh : hs_) (F : hF_) (R : hR_) (A : hF_) (bo : Nat) (bd : bkd) (lt lv : Nat) : Prop := ∃ o r v z e ze, sh bo = some (0, 0, 0) ∧ R 2 bo = some o ∧ isP sh F R A o r v z bd.1 e ze bd.2.1 bd.2.2.1 ∧ okE bd.2.2.1 bd.2.1 bd.1 ∧ bd.1 ≤ 320 ∧ isSrc A v bd.1 bd.2.2.2.1 ∧ bd.2.2.2.2 = decide (F 1 bo = nI 2) ∧ r ≠ lt ∧ e ≠ lv ∧ v ≠ lv
def rdAll (b : Nat → Nat) (N : Nat) (lk : Nat → Option bkd) (x605 : Int32) : rss × Int32 :=
  if (rdB (0, 0, 0) 5 N).2.1 = 0 then (match lk (bv b 0 5) with
    | none => ((rdN (rdB (0, 0, 0) 5 N) 2 0, 0, fun _ => 0), x605)
    | some bd => (if (rsz b N (rdB (0, 0, 0) 5 N)).2.2.1 = 0 then rdP b N bd (rsz b N (rdB (0, 0, 0) 5 N)).1.toNatClampNeg (rsz b N (rdB (0, 0, 0) 5 N)).2 (fun _ => 0) else ((rsz b N (rdB (0, 0, 0) 5 N)).2, 0, fun _ => 0), (rsz b N (rdB (0, 0, 0) 5 N)).1))
  else ((rdB (0, 0, 0) 5 N, 0, fun _ => 0), x605)
theorem isS.oF {shf bk nb bc q a : Nat} {bs : Nat → Nat} {x : Int32} (h : isS sh F R B shf bk nb bc bs) (hq : 701 ≠ q) : isS sh (up2 F q a x) R B shf bk nb bc bs := by
  obtain ⟨a1, a2, a3, a4, a5⟩ := h
  exact ⟨a1, a2, a3, by rw [up2_k hq]; exact a4, a5⟩
theorem isS.oR {shf bk nb bc q a : Nat} {bs : Nat → Nat} {x : Option Nat} (h : isS sh F R B shf bk nb bc bs) (hq : 700 ≠ q) (hq2 : 702 ≠ q) : isS sh F (up2 R q a x) B shf bk nb bc bs := by
  obtain ⟨a1, a2, a3, a4, a5, a6, a7, a8⟩ := h
  exact ⟨a1, by rw [up2_k hq]; exact a2, a3, a4, a5, by rw [up2_k hq2]; exact a6, a7, a8⟩
theorem rsF_beg {x : Int32} : up2 (up2 (up2 (up2 (up2 F 603 rd (nI 0)) 604 rd x) 606 rd (nI 0)) 607 rd (nI 0)) 101 lt (nI 0) = rsF (up2 F 604 rd x) rd lt (0, 0, 0) 0 := by
  unfold rsF rdF
  rw [up2_sw (k := 603) (k' := 604) (by decide), up2_sw (k := 607) (k' := 101) (by decide), up2_sw (k := 606) (k' := 101) (by decide), up2_sw (k := 603) (k' := 101) (by decide)]
end RD8
