/-! ===== the class: unpack ===== -/
theorem rdAll_1 {b : Nat → Nat} {N : Nat} {lk : Nat → Option bkd} {y : Int32} : (rdAll b N lk y).1 = (rdAll b N lk 0).1 := by
  unfold rdAll
  split
  · cases lk (bv b 0 5) with
    | none => rfl
    | some bd => rfl
  · rfl
theorem okR_fL {b : Nat → Nat} {N : Nat} : ∀ d st, okR st N → okR (rfL b N d st).1 N
  | 0, st, h => h
  | d + 1, st, h => by
    unfold rfL
    split
    · exact okR_fL d _ (okR_B h)
    · exact okR_B h
theorem okR_fS {b : Nat → Nat} {N : Nat} {st : rst} (h : okR st N) : okR (rfS b N st) N := by
  unfold rfS
  split
  · split
    · exact okR_fL _ _ h
    · exact okR_N (okR_fL _ _ h) (by decide) h.2.1
  · exact okR_N h (by decide) h.2.1
theorem rdAll_ok {b : Nat → Nat} {N : Nat} {lk : Nat → Option bkd} {y : Int32} (hb : ∀ j, b j < 2) (hlk : ∀ j bd, lk j = some bd → okE bd.2.2.1 bd.2.1 bd.1 ∧ ∀ q, q < bd.1 → bd.2.2.2.1 q < 256) : okS (rdAll b N lk y).1 N 120 := by
  have ok0 : okR (0, 0, 0) N := ⟨by decide, Nat.zero_le _, Nat.zero_le _⟩
  have ok1 : okR (rdB (0, 0, 0) 5 N) N := okR_B ok0
  have z0 : ∀ st, okR st N → okS (st, 0, fun _ => 0) N 120 := fun st h => ⟨h, Nat.zero_le _, fun j hj => absurd hj (Nat.not_lt_zero _)⟩
  unfold rdAll
  split
  · rename_i c1
    have hN5 : 5 ≤ N := by
      have : ¬ rdX (0, 0, 0) 5 N = true := fun hx => rdB_f hx c1
      have := (rdX_0 this).2
      omega
    cases hl : lk (bv b 0 5) with
    | none => exact z0 _ (okR_N ok1 (by decide) (Nat.zero_le _))
    | some bd =>
      have okz : okR (rsz b N (rdB (0, 0, 0) 5 N)).2 N := by
        unfold rsz
        dsimp only
        split
        · exact okR_gS ok1
        · exact okR_N (okR_gS ok1) (by decide) hN5
      dsimp only
      split
      · rename_i c2
        obtain ⟨zs, z1, z2, z3⟩ := rsz_ok hb c2
        rw [z2, nI_clamp (by omega)]
        obtain ⟨e1, e2⟩ := hlk _ _ hl
        have hp := okS_rpL (rk := bd.2.2.2.2) (zs := zs) hb e1 e2 120 ((rsz b N (rdB (0, 0, 0) 5 N)).2, 0, fun _ => 0) ⟨okz, Nat.zero_le _, fun j hj => absurd hj (Nat.not_lt_zero _)⟩
        unfold rdP
        split
        · exact ⟨okR_fS hp.1, by have := hp.2.1; dsimp only; omega, hp.2.2⟩
        · exact ⟨hp.1, by have := hp.2.1; omega, hp.2.2⟩
      · exact z0 _ okz
  · exact z0 _ ok1
def bkT (T : TT) (b : Nat) : bkd := (T.1 5 b, T.1 4 b, T.2.1 3 b, T.2.1 0 b, decide (T.1 3 b = 2))
/-- the book of a number as read -/
def lkT (T : TT) (j : Nat) : Option bkd := if j = 0 then some (bkT T 25) else if j - 1 < T.1 2 0 then some (bkT T (j - 1)) else none
theorem lkT_ok {T : TT} (hT : okT T) : ∀ j bd, lkT T j = some bd → okE bd.2.2.1 bd.2.1 bd.1 ∧ ∀ q, q < bd.1 → bd.2.2.2.1 q < 256 := by
  intro j bd h
  unfold lkT at h
  split at h
  · cases h
    obtain ⟨k1, k2, k3, k4, k5, k6, k7⟩ := (hT.2.2.2.1.2.1 25 (Or.inr rfl)).1
    exact ⟨k1, k7⟩
  · split at h
    · rename_i hj
      cases h
      obtain ⟨k1, k2, k3, k4, k5, k6, k7⟩ := (hT.2.2.2.1.2.1 (j - 1) (Or.inl hj)).1
      exact ⟨k1, k7⟩
    · cases h
/-- what is read of ss bytes -/
def rdT (T : TT) (ss : Nat) (by_ : Nat → Nat) : rss := (rdAll (bof by_) (8 * ss) (lkT T) 0).1
theorem rdT_ok {T : TT} (hT : okT T) {ss : Nat} {by_ : Nat → Nat} : okS (rdT T ss by_) (8 * ss) 120 := rdAll_ok bof_lt (lkT_ok hT)
section UNP
variable {k n u : Nat} {sh : hs_} {F F' : hF_} {R R' : hR_} {A A' : hF_} {B : hR_} {Q : Option Value → pm_H → Prop} {x : Nat} {ba ma : Nat → Nat} {T T' : TT} {b : Nat}
theorem isBk_T (hx : x + 117 ≤ n) (hBk : xBk n sh F R A B x ba T) (hT : okT T) (hb : isB3 T.1 b) : isBk sh F R A (ba b) (bkT T b) (x + 36) (x + 37) := by
  obtain ⟨hbS, hbD, -⟩ := hBk.2.2.2.2 b hb
  obtain ⟨k1, k2, k3, k4, k5, k6, k7⟩ := (hT.2.2.2.1.2.1 b hb).1
  have hP := bkP hbS hbD k2 k3
  obtain ⟨h117, -⟩ := xBk_at hBk hx hb
  refine ⟨ba b + 1, ba b + 2, ba b + 3, T.1 5 b, ba b + 4, T.1 4 b, hbS.1, hbS.2.1, hP, k1, k3, fun j hj => ⟨hbD.2.2.2.2 j hj, k7 j hj⟩, ?_, by omega, by omega, by omega⟩
  show decide (T.1 3 b = 2) = decide (F 1 (ba b) = nI 2)
  rw [hbD.1]
  by_cases e : T.1 3 b = 2
  · rw [e]; rfl
  · have : ¬ nI (T.1 3 b) = nI 2 := by rw [nI_eq (by omega) (by omega)]; exact e
    rw [decide_eq_false e, decide_eq_false this]
theorem k_readT {so sv sz ss : Nat} {by_ : Nat → Nat} (h : XS n sh F R A B x ba ma T) (hT : okT T) (hsb : isB sh F R so sv sz ss) (hss : ss ≤ 240) (hso : so ≠ x + 36) (hsv : sv ≠ x + 37) (hby : ∀ j, j < ss → A sv j = nI (by_ j) ∧ by_ j < 256)
    (hQ : ∀ F', (∀ q a, ¬ (q = 101 ∧ a = x + 36 ∨ 603 ≤ q ∧ q ≤ 607) → F' q a = F q a) → F' 101 (x + 36) = nI (rdT T ss by_).2.1 → F' 607 (x + 35) = nI (rdT T ss by_).1.2.2 → Q (some (.int (nI (rdT T ss by_).1.2.1))) (mkh n u sh F' (up2 R 602 (x + 35) (some so)) (rsA A (x + 37) (rdT T ss by_).2.2 (rdT T ss by_).2.1) B)) :
    rc_ (k + 5) mX6_read [.ref (x + 35), .ref so] (mkh n u sh F R A B) Q := by
  obtain ⟨hx, hX, hTO, hDr, hBk, hPk, hGm, hSm, hWi, ⟨l0, hl0, e36⟩, hRd2⟩ := id h
  have hlt : isB sh F R (x + 36) (x + 37) 120 l0 := ⟨hX.s 36 0 1 0 (by decide), hX.r 100 36 37 (by decide), hX.s 37 1 0 120 (by decide), by decide, e36, hl0⟩
  have h24 := hT.2.2.2.1.1
  rw [k_read (lk := lkT T) (hX.s 35 0 6 0 (by decide)) (hX.r 601 35 36 (by decide)) hlt hsb hss hso hsv hby (hX.r 600 35 9 (by decide)) (hX.shelf hBk h24) (fun j hj => ?_)]
  · have e1 : (rdAll (bof by_) (8 * ss) (lkT T) (F 605 (x + 35))).1 = rdT T ss by_ := rdAll_1
    rw [e1]
    refine hQ _ (fun q a hq => ?_) ?_ ?_
    · unfold rsF rdF
      rw [up2_o (by omega), up2_o (by omega), up2_o (by omega), up2_o (by omega), up2_o (by omega), up2_o (by omega)]
    · unfold rsF rdF
      rw [up2_k (by decide), up2_k (by decide), up2_k (by decide), up2_eq]
    · unfold rsF rdF
      rw [up2_eq]
  · unfold lkT
    by_cases c0 : j = 0
    · subst c0
      rw [if_pos rfl]
      dsimp only
      refine ⟨x + 11, if_pos (by decide), ?_⟩
      have := isBk_T hx hBk hT (b := 25) (Or.inr rfl)
      rw [hBk.2.1] at this
      exact this
    · rw [if_neg c0]
      obtain ⟨q, rfl⟩ : ∃ q, j = q + 1 := ⟨j - 1, by omega⟩
      have e1 : nI (q + 1) - nI 1 = nI q := nI_sub1 q
      have g1 : ¬ nI q = -1 := fun e => by
        have h1 := nI_toInt (n := q) (by omega)
        rw [e] at h1
        have h2 : (-1 : Int32).toInt = -1 := by decide
        omega
      rw [e1, if_neg g1, Nat.add_sub_cancel, fnd_ix]
      by_cases c1 : q < T.1 2 0
      · rw [if_pos c1, ix_nI c1 (by omega) (by omega)]
        exact ⟨ba q, rfl, isBk_T hx hBk hT (Or.inl c1)⟩
      · rw [if_neg c1]
        dsimp only
        unfold ix
        rw [if_neg (nI_nlt (Nat.zero_le _) (by omega)), if_pos (nI_le (by omega) (by omega))]
        rfl
def s_unpack (T : TT) : Int32 × TT :=
  if (rdT T (T.1 0 0) (T.1 30)).1.2.1 = 0 then (nI (rdT T (T.1 0 0) (T.1 30)).2.1, (up2 (sTO T.1 0 (rdT T (T.1 0 0) (T.1 30)).2.1 (T.1 30) (rdT T (T.1 0 0) (T.1 30)).2.2) 26 0 0, T.2))
  else (-100 - nI (rdT T (T.1 0 0) (T.1 30)).1.2.2, (up2 (sTO T.1 0 (T.1 1 0) (T.1 30) (T.1 31)) 26 0 (rdT T (T.1 0 0) (T.1 30)).1.2.1, T.2))
theorem c_unpack (h : XS n sh F R A B x ba ma T) (hT : okT T) (hQ : xPost n u sh F R A x (s_unpack T) Q) : rc_ (k + 8) mX11_unpack [.ref x] (mkh n u sh F R A B) Q := by
  obtain ⟨hx, hX, hTO, hDr, hBk, hPk, hGm, hSm, hWi, hRd⟩ := id h
  have r1 := hX.r0 1100 1 (by decide)
  have r3 := hX.r0 1101 3 (by decide)
  have r35 := hX.r0 1107 35 (by decide)
  have r36 := hX.r 601 35 36 (by decide)
  have s0 := hX.s0
  have t1 := hX.s 1 0 1 0 (by decide)
  have t3 := hX.s 3 0 1 0 (by decide)
  have s35 := hX.s 35 0 6 0 (by decide)
  have t0 := hT.1.1
  rw [eX11_unpack]
  simp only [rX11_unpack_0, rX11_unpack_1, rX11_unpack_2, rX11_unpack_5, rX11_unpack_6, s0, r1, r35, up2_eq, va_rf, eq_self, or_true, true_or, Option.toList_some, Option.toList_none, List.cons_append, List.nil_append, if_true, if_false]
  rw [rX11_unpack_9 s35]
  refine k_readT h hT (hX.tape hTO t0) t0 (by omega) (by omega) (fun j hj => ⟨hTO.1.2 j hj, hT.1.2 j hj⟩) ?_
  intro F1 f1 f2 f3
  have hok := rdT_ok hT (ss := T.1 0 0) (by_ := T.1 30)
  unfold s_unpack at hQ
  generalize rdT T (T.1 0 0) (T.1 30) = Z at hQ hok f2 f3 ⊢
  have o1 := hok.1.1
  have o2 := hok.2.1
  have rr : ∀ q, q ≠ 602 → ∀ a, up2 R 602 (x + 35) (some (x + 1)) q a = R q a := fun q hq a => up2_k hq
  have r1' : up2 R 602 (x + 35) (some (x + 1)) 1100 x = some (x + 1) := by rw [rr _ (by decide)]; exact r1
  have r3' : up2 R 602 (x + 35) (some (x + 1)) 1101 x = some (x + 3) := by rw [rr _ (by decide)]; exact r3
  have r35' : up2 R 602 (x + 35) (some (x + 1)) 1107 x = some (x + 35) := by rw [rr _ (by decide)]; exact r35
  have r36' : up2 R 602 (x + 35) (some (x + 1)) 601 (x + 35) = some (x + 36) := by rw [rr _ (by decide)]; exact r36
  simp only [rX11_unpack_12, rX11_unpack_15, rX11_unpack_16, s0, r1', up2_eq, va_rf, eq_self, or_true, true_or, Option.toList_some, Option.toList_none, List.cons_append, List.nil_append, if_true, if_false]
  rw [rX11_unpack_19 t1, k_Bytes_clear t1]
  have e1112 : up2 (up2 F1 1112 x (nI Z.1.2.1)) 101 (x + 1) (nI 0) 1112 x = nI Z.1.2.1 := by rw [up2_o (by omega), up2_eq]
  simp only [rX11_unpack_22, rX11_unpack_23, s0, e1112, up2_eq, va_rf, eq_self, or_true, true_or, Option.toList_some, Option.toList_none, List.cons_append, List.nil_append, if_true, if_false]
  have ew : ∀ a, a ≠ x + 37 → rsA A (x + 37) Z.2.2 Z.2.1 a = A a := fun a ha => by unfold rsA; rw [pfx_out ha]
  by_cases c1 : Z.1.2.1 = 0
  · have g1 : nI Z.1.2.1 = nI 0 := by rw [c1]
    rw [if_pos c1] at hQ
    simp only [rX11_unpack_26, rX11_unpack_40, rX11_unpack_41, rX11_unpack_44, rX11_unpack_45, rX11_unpack_48, g1, s0, s35, r3', r35', r36', up2_eq, va_rf, eq_self, or_true, true_or, Option.toList_some, Option.toList_none, List.cons_append, List.nil_append, if_true, if_false]
    have hBo : isB sh (up2 (up2 F1 1112 x (nI 0)) 101 (x + 1) (nI 0)) (up2 R 602 (x + 35) (some (x + 1))) (x + 3) (x + 4) 240 (T.1 1 0) := isB_cong (hX.out hTO hT.2.1.1) (by rw [up2_o (by omega), up2_o (by omega)]; exact f1 _ _ (by omega)) (rr _ (by decide) _)
    have hBl : isB sh (up2 (up2 F1 1112 x (nI 0)) 101 (x + 1) (nI 0)) (up2 R 602 (x + 35) (some (x + 1))) (x + 36) (x + 37) 120 Z.2.1 := ⟨hX.s 36 0 1 0 (by decide), by rw [rr _ (by decide)]; exact hX.r 100 36 37 (by decide), hX.s 37 1 0 120 (by decide), by decide, by rw [up2_o (by omega), up2_o (by omega)]; exact f2, o2⟩
    have hn : ∀ j, j < Z.2.1 → rsA A (x + 37) Z.2.2 Z.2.1 (x + 37) j = nI (Z.2.2 j) := fun j hj => by
      unfold rsA
      rw [pfx_new hj]
    rw [rX11_unpack_51 t3, k_Bytes_become hBo hBl (by omega) (by omega) (by omega) (fun j hj => by rw [hn j hj]; exact nI_byte (hok.2.2 j hj))]
    simp only [rX11_unpack_54, rX11_unpack_55, rX11_unpack_58, rX11_unpack_61, s0, r3', t3, up2_eq, va_rf, eq_self, or_true, true_or, Option.toList_some, Option.toList_none, List.cons_append, List.nil_append, if_true, if_false]
    have hF4 : ∀ q a, ¬ (q = 101 ∧ (a = x + 1 ∨ a = x + 3 ∨ a = x + 36) ∨ 603 ≤ q ∧ q ≤ 607 ∨ q = 1112) → up2 (up2 (up2 F1 1112 x (nI 0)) 101 (x + 1) (nI 0)) 101 (x + 3) (nI Z.2.1) q a = F q a := fun q a hq => by
      rw [up2_o (by omega), up2_o (by omega), up2_o (by omega)]
      exact f1 q a (by omega)
    refine (fun q => hQ n u _ _ _ _ _ ba ma q.1 q.2 (by omega) (by omega)) (XS_gen (T' := (up2 (sTO T.1 0 Z.2.1 (T.1 30) Z.2.2) 26 0 0, T.2)) (F := F) (R := R) (A := A) hx hX hDr hBk hGm hSm hWi (fun q a hq => hF4 q a (by omega)) (fun q a hq => rr q (by omega) a) (fun a ha => by rw [acp_row (by omega)]; exact ew a (by omega)) ⟨⟨?_, fun j hj => absurd hj (Nat.not_lt_zero _)⟩, up2_eq, fun j hj => ?_⟩ (xPk_cong (F := up2 F 1112 x (nI 0)) (A := A) ⟨?_, ?_, hPk.2.2.1, hPk.2.2.2.1, up2_eq⟩ ?_ ?_ ?_ (fun a _ _ => by rw [acp_row (by omega)]; exact ew a (by omega))) ⟨⟨Z.2.1, o2, by rw [up2_o (by omega), up2_o (by omega), up2_o (by omega)]; exact f2⟩, ?_⟩)
    · rw [up2_o (by omega), up2_eq]; rfl
    · show _ = nI (Z.2.2 j)
      have hj' : j < Z.2.1 := hj
      rw [acp_in (Nat.zero_le _) (by omega), Nat.zero_add, Nat.sub_zero]
      exact hn j hj'
    · rw [up2_o (by omega)]; exact hPk.1
    · rw [up2_o (by omega)]; exact hPk.2.1
    · rw [hF4 _ _ (by omega), up2_o (by omega)]
    · rw [hF4 _ _ (by omega), up2_o (by omega)]
    · rw [up2_o (by omega), up2_o (by omega), up2_eq, up2_eq]
    · rw [hF4 _ _ (by omega)]
      exact hRd.2
  · have g1 : ¬ nI Z.1.2.1 = nI 0 := nI_ne0 (by omega) (by omega)
    rw [if_neg c1] at hQ
    have e607 : up2 (up2 F1 1112 x (nI Z.1.2.1)) 101 (x + 1) (nI 0) 607 (x + 35) = nI Z.1.2.2 := by rw [up2_o (by omega), up2_o (by omega)]; exact f3
    simp only [rX11_unpack_26, rX11_unpack_29, rX11_unpack_31, rX11_unpack_32, rX11_unpack_35, rX11_unpack_38, rX11_unpack_39, g1, s0, s35, r35', e607, up2_eq, va_rf, eq_self, or_true, true_or, Option.toList_some, Option.toList_none, List.cons_append, List.nil_append, if_true, if_false]
    have hF4 : ∀ q a, ¬ (q = 101 ∧ (a = x + 1 ∨ a = x + 36) ∨ 603 ≤ q ∧ q ≤ 607 ∨ q = 1112) → up2 (up2 F1 1112 x (nI Z.1.2.1)) 101 (x + 1) (nI 0) q a = F q a := fun q a hq => by
      rw [up2_o (by omega), up2_o (by omega)]
      exact f1 q a (by omega)
    refine (fun q => hQ n u _ _ _ _ _ ba ma q.1 q.2 (by omega) (by omega)) (XS_gen (T' := (up2 (sTO T.1 0 (T.1 1 0) (T.1 30) (T.1 31)) 26 0 Z.1.2.1, T.2)) (F := F) (R := R) (A := A) hx hX hDr hBk hGm hSm hWi (fun q a hq => hF4 q a (by omega)) (fun q a hq => rr q (by omega) a) (fun a ha => ew a (by omega)) ⟨⟨up2_eq, fun j hj => absurd hj (Nat.not_lt_zero _)⟩, ?_, fun j hj => ?_⟩ (xPk_cong (F := up2 F 1112 x (nI Z.1.2.1)) (A := A) ⟨?_, ?_, hPk.2.2.1, hPk.2.2.2.1, up2_eq⟩ ?_ ?_ ?_ (fun a _ _ => ew a (by omega))) ⟨⟨Z.2.1, o2, by rw [up2_o (by omega), up2_o (by omega)]; exact f2⟩, ?_⟩)
    · rw [hF4 _ _ (by omega)]; exact hTO.2.1
    · rw [ew _ (by omega)]; exact hTO.2.2 j hj
    · rw [up2_o (by omega)]; exact hPk.1
    · rw [up2_o (by omega)]; exact hPk.2.1
    · rw [hF4 _ _ (by omega), up2_o (by omega)]
    · rw [hF4 _ _ (by omega), up2_o (by omega)]
    · rw [up2_o (by omega), up2_eq, up2_eq]
    · rw [hF4 _ _ (by omega)]
      exact hRd.2
end UNP
