/-! ===== the class: latest; what changes of books, messages, the wire ===== -/
def puT (T : TT) (so b1 : Nat) (le : Int32) (lm : Nat) (L : Nat → Nat) : TT :=
  (up2 (up2 (up2 (up2 (up2 (up2 T.1 8 0 (T.1 8 0 + 1)) 9 (T.1 8 0) so) 10 (T.1 8 0) b1) 11 (T.1 8 0) 1) 12 (T.1 8 0) lm) 21 (T.1 8 0) 0, up2 T.2.1 2 (T.1 8 0) L, up2 T.2.2 5 (T.1 8 0) le)
def bvT (T : TT) (b st hd go : Nat) (sn tg se : Int32) : TT := (up2 (up2 (up2 T.1 18 b st) 19 b hd) 20 b go, T.2.1, up2 (up2 (up2 T.2.2 2 b sn) 3 b tg) 4 b se)
def msT (T : TT) (m uw fa : Nat) : TT := (up2 (up2 T.1 11 m uw) 21 m fa, T.2)
def wiT (T : TT) (la : Nat) (cm rp mi : Int32) : TT := (up2 T.1 13 0 la, T.2.1, up2 (up2 (up2 T.2.2 6 0 cm) 7 0 rp) 8 0 mi)
theorem puT_o {T : TT} {so b1 lm : Nat} {le : Int32} {L : Nat → Nat} {q m : Nat} (h : q ≠ 8) (hm : m ≠ T.1 8 0) : (puT T so b1 le lm L).1 q m = T.1 q m := by
  unfold puT
  dsimp only
  rw [up2_o (by omega), up2_o (by omega), up2_o (by omega), up2_o (by omega), up2_o (by omega), up2_o (by omega)]
theorem puT_n {T : TT} {so b1 lm : Nat} {le : Int32} {L : Nat → Nat} : (puT T so b1 le lm L).1 9 (T.1 8 0) = so ∧ (puT T so b1 le lm L).1 10 (T.1 8 0) = b1 ∧ (puT T so b1 le lm L).1 11 (T.1 8 0) = 1 ∧ (puT T so b1 le lm L).1 12 (T.1 8 0) = lm ∧ (puT T so b1 le lm L).1 21 (T.1 8 0) = 0 ∧ (puT T so b1 le lm L).2.1 2 (T.1 8 0) = L ∧ (puT T so b1 le lm L).2.2 5 (T.1 8 0) = le := by
  unfold puT
  dsimp only
  refine ⟨?_, ?_, ?_, ?_, up2_eq, up2_eq, up2_eq⟩
  · rw [up2_k (by decide), up2_k (by decide), up2_k (by decide), up2_k (by decide), up2_eq]
  · rw [up2_k (by decide), up2_k (by decide), up2_k (by decide), up2_eq]
  · rw [up2_k (by decide), up2_k (by decide), up2_eq]
  · rw [up2_k (by decide), up2_eq]
section LAT
variable {k n n' u : Nat} {sh sh' : hs_} {F F' : hF_} {R R' : hR_} {A A' : hF_} {B B' : hR_} {Q : Option Value → pm_H → Prop} {x : Nat} {ba ma : Nat → Nat} {T T' : TT} {b : Nat}
theorem XS_alloc (h : XS n sh F R A B x ba ma T) (hn : n ≤ n') (h1 : ∀ a, a < n → sh' a = sh a) (h2 : ∀ q a, a < n → F' q a = F q a) (h3 : ∀ q a, a < n → R' q a = R q a) (h4 : ∀ a, a < n → A' a = A a) : XS n' sh' F' R' A' B x ba ma T ∧ frX x n sh F R A n' sh' F' R' A' := by
  obtain ⟨hx, hX, hTO, hDr, hBk, hPk, hGm, hSm, hWi, hRd⟩ := h
  have n8 := hSm.1.2.1
  refine ⟨⟨by omega, isX_cong hX (fun q a ha _ _ _ _ _ _ => h3 q a (by omega)) (fun a ha => h1 a (by omega)) rfl rfl, xTO_cong hTO (fun a ha => h2 _ _ (by omega)) (fun a ha => h4 a (by omega)), xDr_cong hDr (h2 _ _ (by omega)) (h2 _ _ (by omega)) (fun a ha => h4 a (by omega)), xBk_cong hBk hx hn h1 (fun q a ha _ => h3 q a ha) (fun q a ha _ => h2 q a ha) (h2 _ _ (by omega)) (fun a ha _ => h4 a ha) rfl, xPk_cong hPk (h2 _ _ (by omega)) (h2 _ _ (by omega)) (h2 _ _ (by omega)) (fun a _ _ => h4 a (by omega)), xGm_cong hGm (h4 _ (by omega)) (h4 _ (by omega)), xSm_cong hSm (fun q _ => h2 _ _ (by omega)) (fun a _ _ => h2 _ _ (by omega)) (h2 _ _ (by omega)) (fun a _ _ => h4 a (by omega)), xWi_cong hWi hn h1 (fun q a ha _ => h3 q a ha) (fun q a ha _ => h2 q a ha) (fun q _ _ => h2 _ _ (by omega)) (h3 _ _ (by omega)) (fun a ha _ => h4 a ha) rfl, xRd_cong hRd (fun a ha => h2 _ _ (by omega))⟩, hn, h1, fun q a ha _ => ⟨h2 q a ha, h3 q a ha⟩, fun a ha => h4 a (by omega)⟩
theorem mbk_b5 {N : tN} {m : Nat} (hb : b < 24 ∨ b = 25) (h : N 10 m = b5 b) : mbk N m = b := by
  unfold mbk
  rw [h]
  unfold b5
  by_cases c : b = 25
  · rw [if_pos c, if_pos rfl, c]
  · rw [if_neg c, if_neg (by omega)]
    omega
/-- a message more, at o -/
theorem XS_put {o so lm : Nat} {le : Int32} {L : Nat → Nat} (h : XS n sh F R A B x ba ma T) (hT : okT T) (hb : isB3 T.1 b) (hno : n ≤ o) (hn : o < n') (h1 : ∀ a, a < n → sh' a = sh a) (h2 : ∀ q a, a < n → ¬ (q = 904 ∧ a = x + 72) → F' q a = F q a) (h3 : ∀ q a, a < n → R' q a = R q a) (h4 : ∀ a, a < n → A' a = A a) (h5 : ∀ a, a ≠ x + 73 → B' a = B a) (h6 : ∀ j, j ≠ T.1 8 0 → B' (x + 73) j = B (x + 73) j) (h7 : B' (x + 73) (T.1 8 0) = some o) (h8 : F' 904 (x + 72) = nI (T.1 8 0 + 1)) (h9 : sh' o = some (0, 3, 0)) (h10 : msV F' R' o so (ba b) 1 0 le) (h11 : so = 3 → msL n' sh' F' R' A' x o (wrT T.1 T.2.1 b lm L)) :
    XS n' sh' F' R' A' B' x ba (fun m => if m = T.1 8 0 then o else ma m) (puT T so (b5 b) le lm L) ∧ frX x n sh F R A n' sh' F' R' A' := by
  obtain ⟨hx, hX, hTO, hDr, hBk, hPk, hGm, hSm, hWi, hRd⟩ := h
  have h24 := hT.2.2.2.1.1
  have hb2 : b < 24 ∨ b = 25 := by
    rcases hb with hb | hb
    · left; omega
    · right; exact hb
  refine ⟨⟨by omega, isX_cong hX (fun q a ha _ _ _ _ _ _ => h3 q a (by omega)) (fun a ha => h1 a (by omega)) (h5 _ (by omega)) (h5 _ (by omega)), xTO_cong (N := T.1) hTO (fun a ha => h2 _ _ (by omega) (by omega)) (fun a ha => h4 a (by omega)), xDr_cong (N := T.1) (J := T.2.1) hDr (h2 _ _ (by omega) (by omega)) (h2 _ _ (by omega) (by omega)) (fun a ha => h4 a (by omega)), xBk_cong (T := T) hBk hx (by omega) h1 (fun q a ha _ => h3 q a ha) (fun q a ha hq => h2 q a ha (by omega)) (h2 _ _ (by omega) (by omega)) (fun a ha _ => h4 a ha) (h5 _ (by omega)), xPk_cong (T := T) hPk (h2 _ _ (by omega) (by omega)) (h2 _ _ (by omega) (by omega)) (h2 _ _ (by omega) (by omega)) (fun a _ _ => h4 a (by omega)), xGm_cong hGm (h4 _ (by omega)) (h4 _ (by omega)), xSm_cong (T := T) hSm (fun q _ => h2 _ _ (by omega) (by omega)) (fun a _ _ => h2 _ _ (by omega) (by omega)) (h2 _ _ (by omega) (by omega)) (fun a _ _ => h4 a (by omega)), ?_, xRd_cong hRd (fun a ha => h2 _ _ (by omega) (by omega))⟩, by omega, h1, fun q a ha hq => ⟨h2 q a ha (by omega), h3 q a ha⟩, fun a ha => h4 a (by omega)⟩
  obtain ⟨w1, w2, w3, w4, w5, w6, w7⟩ := hWi
  have hl := hT.2.2.2.2.2.2.1.2.2.1
  refine ⟨h8, ?_, ?_, ?_, ?_, fun m hm => ?_, fun m m' g1 g2 => ?_⟩
  · rw [h2 _ _ (by omega) (by omega)]; exact w2
  · rw [h2 _ _ (by omega) (by omega)]; exact w3
  · rw [h2 _ _ (by omega) (by omega)]; exact w4
  · rw [h3 _ _ (by omega), w5]
    show _ = if T.1 13 0 = 0 then none else some (if T.1 13 0 - 1 = T.1 8 0 then o else ma (T.1 13 0 - 1))
    by_cases c : T.1 13 0 = 0
    · rw [if_pos c, if_pos c]
    · rw [if_neg c, if_neg c, if_neg (by omega)]
  · have hm' : m < T.1 8 0 + 1 := hm
    have hw : ∀ bb mm LL, wrT (puT T so (b5 b) le lm L).1 (puT T so (b5 b) le lm L).2.1 bb mm LL = wrT T.1 T.2.1 bb mm LL := fun bb mm LL => rfl
    by_cases e : m = T.1 8 0
    · subst e
      obtain ⟨e9, e10, e11, e12, e21, eJ, eI⟩ := puT_n (T := T) (so := so) (b1 := b5 b) (lm := lm) (le := le) (L := L)
      have em : mbk (puT T so (b5 b) le lm L).1 (T.1 8 0) = b := mbk_b5 hb2 e10
      rw [e9, e11, e12, e21, eJ, eI, em, hw]
      simp only [if_true]
      exact ⟨h7, by omega, hn, h9, h10, h11⟩
    · have hm2 : m < T.1 8 0 := by omega
      obtain ⟨b1, b2, b3, b4, b5', b6⟩ := w6 m hm2
      have e10 := puT_o (T := T) (so := so) (b1 := b5 b) (le := le) (lm := lm) (L := L) (q := 10) (m := m) (by decide) e
      have em : mbk (puT T so (b5 b) le lm L).1 m = mbk T.1 m := by unfold mbk; rw [e10]
      have eJ : (puT T so (b5 b) le lm L).2.1 2 m = T.2.1 2 m := by unfold puT; dsimp only; rw [up2_a e]
      have eI : (puT T so (b5 b) le lm L).2.2 5 m = T.2.2 5 m := by unfold puT; dsimp only; rw [up2_a e]
      rw [puT_o (by decide) e, puT_o (by decide) e, puT_o (by decide) e, puT_o (by decide) e, eJ, eI, em, hw]
      simp only [if_neg e]
      exact ⟨by rw [h6 m e]; exact b1, b2, by omega, by rw [h1 _ b3]; exact b4, msV_cong b5' (fun q g1 g2 => h2 q _ b3 (by omega)) (h3 _ _ b3), fun g => msL_cong (b6 g) (by omega) b3 h1 (fun q a ha hq => h3 q a ha) (fun a ha hx => h2 _ a ha (by omega)) (fun a ha _ => h4 a ha)⟩
  · have g2' : m' < T.1 8 0 + 1 := g2
    simp only [if_neg (show ¬ m = T.1 8 0 by omega)]
    have b3 := (w6 m (by omega)).2.2.1
    by_cases e : m' = T.1 8 0
    · simp only [if_pos e]; omega
    · simp only [if_neg e]; exact w7 m m' g1 (by omega)
theorem XS_bk' {st hd go : Nat} {sn tg se : Int32} (h : XS n sh F R A B x ba ma T) (h24 : T.1 2 0 ≤ 24) (hb : isB3 T.1 b) (h1 : ∀ q a, ¬ (3 ≤ q ∧ q ≤ 8 ∧ a = ba b) → F' q a = F q a) (h2 : bkV F' (ba b) (nm3 b) st hd go sn tg se) : XS n sh F' R A B x ba ma (bvT T b st hd go sn tg se) ∧ frX x n sh F R A n sh F' R A := by
  obtain ⟨hx, hX, hTO, hDr, hBk, hPk, hGm, hSm, hWi, hRd⟩ := h
  refine ⟨⟨hx, hX, xTO_cong (N := T.1) hTO (fun a ha => h1 _ _ (by omega)) (fun _ _ => rfl), xDr_cong (N := T.1) (J := T.2.1) hDr (h1 _ _ (by omega)) (h1 _ _ (by omega)) (fun _ _ => rfl), ?_, xPk_cong (T := T) hPk (h1 _ _ (by omega)) (h1 _ _ (by omega)) (h1 _ _ (by omega)) (fun _ _ _ => rfl), hGm, xSm_cong (T := T) hSm (fun q _ => h1 _ _ (by omega)) (fun a _ _ => h1 _ _ (by omega)) (h1 _ _ (by omega)) (fun _ _ _ => rfl), xWi_cong (T := T) hWi (Nat.le_refl _) (fun _ _ => rfl) (fun _ _ _ _ => rfl) (fun q a _ hq => h1 q a (by omega)) (fun q _ _ => h1 _ _ (by omega)) rfl (fun _ _ _ => rfl) rfl, xRd_cong hRd (fun a ha => h1 _ _ (by omega))⟩, Nat.le_refl _, fun _ _ => rfl, fun q a _ hq => ⟨h1 q a (by omega), rfl⟩, fun _ _ => rfl⟩
  obtain ⟨a1, a2, a3, a4, a5⟩ := id hBk
  refine ⟨by rw [h1 _ _ (by omega)]; exact a1, a2, a3, a4, fun b' hb' => ?_⟩
  obtain ⟨b1, b2, b3⟩ := a5 b' hb'
  refine ⟨b1, bkD_cong b2 (h1 _ _ (by omega)) (h1 _ _ (by omega)) (h1 _ _ (by omega)) rfl rfl, ?_⟩
  unfold bvT
  dsimp only
  by_cases e : b' = b
  · subst e
    rw [up2_k (by decide), up2_k (by decide), up2_eq, up2_k (by decide), up2_eq, up2_eq, up2_k (by decide), up2_k (by decide), up2_eq, up2_k (by decide), up2_eq, up2_eq]
    exact h2
  · have hne := xBk_inj hBk hb' hb e
    rw [up2_o (by omega), up2_o (by omega), up2_o (by omega), up2_o (by omega), up2_o (by omega), up2_o (by omega), up2_o (by omega), up2_o (by omega), up2_o (by omega), up2_o (by omega), up2_o (by omega), up2_o (by omega), up2_o (by omega), up2_o (by omega), up2_o (by omega), up2_o (by omega), up2_o (by omega), up2_o (by omega)]
    exact bkV_cong b3 (fun q hq => h1 _ _ (by omega))
theorem XS_ms {m uw fa : Nat} (h : XS n sh F R A B x ba ma T) (hm : m < T.1 8 0) (h1 : ∀ q a, ¬ ((q = 304 ∨ q = 305) ∧ a = ma m) → F' q a = F q a) (h2 : F' 304 (ma m) = nI uw) (h3 : F' 305 (ma m) = nI fa) : XS n sh F' R A B x ba ma (msT T m uw fa) ∧ frX x n sh F R A n sh F' R A := by
  obtain ⟨hx, hX, hTO, hDr, hBk, hPk, hGm, hSm, hWi, hRd⟩ := h
  refine ⟨⟨hx, hX, xTO_cong (N := T.1) hTO (fun a ha => h1 _ _ (by omega)) (fun _ _ => rfl), xDr_cong (N := T.1) (J := T.2.1) hDr (h1 _ _ (by omega)) (h1 _ _ (by omega)) (fun _ _ => rfl), xBk_cong (T := T) hBk hx (Nat.le_refl _) (fun _ _ => rfl) (fun _ _ _ _ => rfl) (fun q a _ hq => h1 q a (by omega)) (h1 _ _ (by omega)) (fun _ _ _ => rfl) rfl, xPk_cong (T := T) hPk (h1 _ _ (by omega)) (h1 _ _ (by omega)) (h1 _ _ (by omega)) (fun _ _ _ => rfl), hGm, xSm_cong (T := T) hSm (fun q _ => h1 _ _ (by omega)) (fun a _ _ => h1 _ _ (by omega)) (h1 _ _ (by omega)) (fun _ _ _ => rfl), ?_, xRd_cong hRd (fun a ha => h1 _ _ (by omega))⟩, Nat.le_refl _, fun _ _ => rfl, fun q a _ hq => ⟨h1 q a (by omega), rfl⟩, fun _ _ => rfl⟩
  obtain ⟨w1, w2, w3, w4, w5, w6, w7⟩ := hWi
  refine ⟨by rw [h1 _ _ (by omega)]; exact w1, by rw [h1 _ _ (by omega)]; exact w2, by rw [h1 _ _ (by omega)]; exact w3, by rw [h1 _ _ (by omega)]; exact w4, w5, fun q hq => ?_, w7⟩
  obtain ⟨b1, b2, b3, b4, b5', b6⟩ := w6 q hq
  refine ⟨b1, b2, b3, b4, ?_, fun g => msL_cong (b6 g) (Nat.le_refl _) b3 (fun _ _ => rfl) (fun _ _ _ _ => rfl) (fun a _ _ => h1 _ _ (by omega)) (fun _ _ _ => rfl)⟩
  unfold msT
  dsimp only
  by_cases e : q = m
  · subst e
    rw [up2_k (by decide), up2_k (by decide), up2_k (by decide), up2_eq, up2_eq]
    obtain ⟨v1, v2, v3, v4, v5⟩ := b5'
    exact ⟨by rw [h1 _ _ (by omega)]; exact v1, v2, by rw [h1 _ _ (by omega)]; exact v3, h2, h3⟩
  · have hne : ma q ≠ ma m := by
      by_cases g : q < m
      · have := w7 q m g hm; omega
      · have := w7 m q (by omega) hq; omega
    rw [up2_o (by omega), up2_o (by omega), up2_o (by omega), up2_o (by omega), up2_o (by omega), up2_o (by omega)]
    exact msV_cong b5' (fun q' g1 g2 => h1 _ _ (by omega)) rfl
theorem XS_wi {la : Nat} {cm rp mi : Int32} (h : XS n sh F R A B x ba ma T) (h1 : ∀ q a, ¬ (905 ≤ q ∧ q ≤ 907 ∧ a = x + 72) → F' q a = F q a) (h2 : ∀ q a, ¬ (q = 903 ∧ a = x + 72) → R' q a = R q a) (h3 : F' 905 (x + 72) = cm) (h4 : F' 906 (x + 72) = rp) (h5 : F' 907 (x + 72) = mi) (h6 : R' 903 (x + 72) = if la = 0 then none else some (ma (la - 1))) : XS n sh F' R' A B x ba ma (wiT T la cm rp mi) ∧ frX x n sh F R A n sh F' R' A := by
  obtain ⟨hx, hX, hTO, hDr, hBk, hPk, hGm, hSm, hWi, hRd⟩ := h
  refine ⟨⟨hx, isX_cong hX (fun q a _ _ _ _ _ _ _ => h2 q a (by omega)) (fun _ _ => rfl) rfl rfl, xTO_cong (N := T.1) hTO (fun a ha => h1 _ _ (by omega)) (fun _ _ => rfl), xDr_cong (N := T.1) (J := T.2.1) hDr (h1 _ _ (by omega)) (h1 _ _ (by omega)) (fun _ _ => rfl), xBk_cong (T := T) hBk hx (Nat.le_refl _) (fun _ _ => rfl) (fun q a _ hq => h2 q a (by omega)) (fun q a _ hq => h1 q a (by omega)) (h1 _ _ (by omega)) (fun _ _ _ => rfl) rfl, xPk_cong (T := T) hPk (h1 _ _ (by omega)) (h1 _ _ (by omega)) (h1 _ _ (by omega)) (fun _ _ _ => rfl), hGm, xSm_cong (T := T) hSm (fun q _ => h1 _ _ (by omega)) (fun a _ _ => h1 _ _ (by omega)) (h1 _ _ (by omega)) (fun _ _ _ => rfl), ?_, xRd_cong hRd (fun a ha => h1 _ _ (by omega))⟩, Nat.le_refl _, fun _ _ => rfl, fun q a _ hq => ⟨h1 q a (by omega), h2 q a (by omega)⟩, fun _ _ => rfl⟩
  obtain ⟨w1, w2, w3, w4, w5, w6, w7⟩ := hWi
  refine ⟨by rw [h1 _ _ (by omega)]; exact w1, h3, h4, h5, h6, fun q hq => ?_, w7⟩
  obtain ⟨b1, b2, b3, b4, b5', b6⟩ := w6 q hq
  exact ⟨b1, b2, b3, b4, msV_cong b5' (fun q' g1 g2 => h1 _ _ (by omega)) (h2 _ _ (by omega)), fun g => msL_cong (b6 g) (Nat.le_refl _) b3 (fun _ _ => rfl) (fun q a _ hq => h2 q a (by omega)) (fun a _ _ => h1 _ _ (by omega)) (fun _ _ _ => rfl)⟩
def s_latest (T : TT) : Int32 × TT := if T.1 13 0 = 0 then (-1, T) else (nI (T.1 12 (T.1 13 0 - 1)), (sTO T.1 (T.1 0 0) (T.1 12 (T.1 13 0 - 1)) (T.1 30) (T.2.1 2 (T.1 13 0 - 1)), T.2))
theorem c_latest (h : XS n sh F R A B x ba ma T) (hT : okT T) (hQ : xPost n u sh F R A x (s_latest T) Q) : rc_ (k + 8) mX11_latest [.ref x] (mkh n u sh F R A B) Q := by
  obtain ⟨hx, hX, hTO, hDr, hBk, hPk, hGm, hSm, hWi, hRd⟩ := id h
  have r3 := hX.r0 1101 3 (by decide)
  have r35 := hX.r0 1107 35 (by decide)
  have r36 := hX.r 601 35 36 (by decide)
  have r72 := hX.r0 1109 72 (by decide)
  have s0 := hX.s0
  have t3 := hX.s 3 0 1 0 (by decide)
  have s35 := hX.s 35 0 6 0 (by decide)
  have s72 := hX.s 72 0 9 0 (by decide)
  have h903 := hWi.2.2.2.2.1
  rw [eX11_latest]
  unfold s_latest at hQ
  by_cases c0 : T.1 13 0 = 0
  · rw [if_pos c0] at hQ h903
    simp only [rX11_latest_0, rX11_latest_1, rX11_latest_4, rX11_latest_7, rX11_latest_7_n, rX11_latest_10, rX11_latest_11, s0, r72, s72, h903, up2_eq, va_rf, eq_self, or_true, true_or, Option.toList_some, Option.toList_none, List.cons_append, List.nil_append, if_true, if_false]
    exact xPost_same hQ h
  rw [if_neg c0] at hQ h903
  obtain ⟨o1, o2, o3, o4⟩ := hT.2.2.2.2.2.2.1
  have hl : T.1 13 0 - 1 < T.1 8 0 := by omega
  have hs3 := o4 c0
  generalize hle : T.1 13 0 - 1 = l at hQ h903 hl hs3
  obtain ⟨b1, b2, b3, b4, b5', b6⟩ := hWi.2.2.2.2.2.1 l hl
  obtain ⟨w, w1, w2, w3, w4, w5, w6, w7, w8⟩ := b6 hs3
  obtain ⟨p1, p2, p3, p4, p5, p6, p7⟩ := o2 l hl
  obtain ⟨q1, q2⟩ := p7 hs3
  have hok := (hT.2.2.2.1.2.1 _ p2).1
  have hcap := wrT_cap (L := T.2.1 2 l) hok q1
  have h24 := hT.2.2.2.1.1
  have hlk : lkT T (b5 (mbk T.1 l)) = some (T.1 5 (mbk T.1 l), T.1 4 (mbk T.1 l), T.2.1 3 (mbk T.1 l), T.2.1 0 (mbk T.1 l), decide (T.1 3 (mbk T.1 l) = 2)) := by
    unfold lkT b5
    by_cases e : mbk T.1 l = 25
    · rw [e, if_pos rfl, if_pos rfl]
      rfl
    · rw [if_neg e, if_neg (by omega), if_pos (by rcases p2 with p2 | p2 <;> omega), Nat.add_sub_cancel]
      rfl
  have hb2 : mbk T.1 l < 24 ∨ mbk T.1 l = 25 := by rcases p2 with p2 | p2 <;> omega
  obtain ⟨z1, z2⟩ := rw_T (lk := lkT T) (y := 0) hok hb2 q1 q2 hlk
  simp only [rX11_latest_0, rX11_latest_1, rX11_latest_4, rX11_latest_7, rX11_latest_7_n, rX11_latest_12, rX11_latest_13, rX11_latest_16, rX11_latest_17, rX11_latest_20, rX11_latest_23, s0, r72, s72, r35, h903, b4, w1, up2_eq, va_rf, eq_self, or_true, true_or, Option.toList_some, Option.toList_none, List.cons_append, List.nil_append, if_true, if_false]
  rw [rX11_latest_26 s35]
  refine k_readT (sz := ((wrT T.1 T.2.1 (mbk T.1 l) (T.1 12 l) (T.2.1 2 l)).2 + 7) / 8) (sv := w + 1) (by_ := byt (wrT T.1 T.2.1 (mbk T.1 l) (T.1 12 l) (T.2.1 2 l)).1) (ss := ((wrT T.1 T.2.1 (mbk T.1 l) (T.1 12 l) (T.2.1 2 l)).2 + 7) / 8) h hT ⟨w4, w5, w6, by omega, w7, Nat.le_refl _⟩ (by omega) (by omega) (by omega) (fun j hj => ⟨w8 j hj, byt_lt⟩) ?_
  intro F1 f1 f2 f3
  have hokR := rdT_ok hT (ss := ((wrT T.1 T.2.1 (mbk T.1 l) (T.1 12 l) (T.2.1 2 l)).2 + 7) / 8) (by_ := byt (wrT T.1 T.2.1 (mbk T.1 l) (T.1 12 l) (T.2.1 2 l)).1)
  have z1' : (rdT T (((wrT T.1 T.2.1 (mbk T.1 l) (T.1 12 l) (T.2.1 2 l)).2 + 7) / 8) (byt (wrT T.1 T.2.1 (mbk T.1 l) (T.1 12 l) (T.2.1 2 l)).1)).2.1 = T.1 12 l := z1
  have z2' : ∀ j, j < T.1 12 l → (rdT T (((wrT T.1 T.2.1 (mbk T.1 l) (T.1 12 l) (T.2.1 2 l)).2 + 7) / 8) (byt (wrT T.1 T.2.1 (mbk T.1 l) (T.1 12 l) (T.2.1 2 l)).1)).2.2 j = T.2.1 2 l j := z2
  generalize rdT T (((wrT T.1 T.2.1 (mbk T.1 l) (T.1 12 l) (T.2.1 2 l)).2 + 7) / 8) (byt (wrT T.1 T.2.1 (mbk T.1 l) (T.1 12 l) (T.2.1 2 l)).1) = Z at f2 f3 hokR z1' z2' ⊢
  rw [z1'] at f2 ⊢
  have rr : ∀ q, q ≠ 602 → ∀ a, up2 R 602 (x + 35) (some w) q a = R q a := fun q hq a => up2_k hq
  have r3' : up2 R 602 (x + 35) (some w) 1101 x = some (x + 3) := by rw [rr _ (by decide)]; exact r3
  have r35' : up2 R 602 (x + 35) (some w) 1107 x = some (x + 35) := by rw [rr _ (by decide)]; exact r35
  have r36' : up2 R 602 (x + 35) (some w) 601 (x + 35) = some (x + 36) := by rw [rr _ (by decide)]; exact r36
  simp only [rX11_latest_29, rX11_latest_30, rX11_latest_31, rX11_latest_34, rX11_latest_35, rX11_latest_38, s0, s35, r3', r35', r36', up2_eq, va_rf, eq_self, or_true, true_or, Option.toList_some, Option.toList_none, List.cons_append, List.nil_append, if_true, if_false]
  have ew : ∀ a, a ≠ x + 37 → rsA A (x + 37) Z.2.2 (T.1 12 l) a = A a := fun a ha => by unfold rsA; rw [pfx_out ha]
  have hn : ∀ j, j < T.1 12 l → rsA A (x + 37) Z.2.2 (T.1 12 l) (x + 37) j = nI (T.2.1 2 l j) := fun j hj => by
    unfold rsA
    rw [pfx_new hj, z2' j hj]
  have hBo : isB sh F1 (up2 R 602 (x + 35) (some w)) (x + 3) (x + 4) 240 (T.1 1 0) := isB_cong (hX.out hTO hT.2.1.1) (f1 _ _ (by omega)) (rr _ (by decide) _)
  have hBl : isB sh F1 (up2 R 602 (x + 35) (some w)) (x + 36) (x + 37) 120 (T.1 12 l) := ⟨hX.s 36 0 1 0 (by decide), by rw [rr _ (by decide)]; exact hX.r 100 36 37 (by decide), hX.s 37 1 0 120 (by decide), by decide, f2, q1⟩
  rw [rX11_latest_41 t3, k_Bytes_become hBo hBl (by omega) (by omega) (by omega) (fun j hj => by rw [hn j hj]; exact nI_byte (q2 j hj))]
  simp only [rX11_latest_44, rX11_latest_45, rX11_latest_48, rX11_latest_51, s0, r3', t3, up2_eq, va_rf, eq_self, or_true, true_or, Option.toList_some, Option.toList_none, List.cons_append, List.nil_append, if_true, if_false]
  obtain ⟨g1, g2⟩ := XS_TO (F' := up2 F1 101 (x + 3) (nI (T.1 12 l))) (R' := up2 R 602 (x + 35) (some w)) (A' := acp (rsA A (x + 37) Z.2.2 (T.1 12 l)) (x + 4) 0 (x + 37) 0 (T.1 12 l)) (t := T.1 0 0) (o := T.1 12 l) (f := T.1 30) (g := T.2.1 2 l) h (fun q a hq => by rw [up2_o (by omega)]; exact f1 q a (by omega)) (fun q a hq => rr q (by omega) a) (fun a ha => by rw [acp_row (by omega)]; exact ew a (by omega)) (by rw [up2_o (by omega), f1 _ _ (by omega)]; exact hTO.1.1) (fun j hj => by rw [acp_row (by omega), ew _ (by omega)]; exact hTO.1.2 j hj) up2_eq (fun j hj => by rw [acp_in (Nat.zero_le _) (by omega), Nat.zero_add, Nat.sub_zero]; exact hn j hj) ⟨⟨T.1 12 l, q1, by rw [up2_o (by omega)]; exact f2⟩, by rw [up2_o (by omega), f1 _ _ (by omega)]; exact hRd.2⟩
  exact hQ n u _ _ _ _ _ _ _ g1 g2 (by omega) (by omega)
end LAT
