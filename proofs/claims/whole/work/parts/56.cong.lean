/-! ===== the class's cells: what follows, what leaves them as they were ===== -/
theorem acp_row {A : hF_} {v s v2 st c a : Nat} (h : a ≠ v) : acp A v s v2 st c a = A a := by
  funext j
  exact acp_out (Or.inl h)
section XCG
variable {n n' : Nat} {sh sh' : hs_} {F F' : hF_} {R R' : hR_} {A A' : hF_} {B B' : hR_} {x : Nat} {ba ma : Nat → Nat} {T : TT} {N : tN} {J : tJ}
theorem xTO_cong (h : xTO F A x N) (h1 : ∀ a, (a = x + 1 ∨ a = x + 3) → F' 101 a = F 101 a) (h2 : ∀ a, (a = x + 2 ∨ a = x + 4) → A' a = A a) : xTO F' A' x N := by
  obtain ⟨⟨a1, a2⟩, a3, a4⟩ := h
  exact ⟨⟨by rw [h1 _ (Or.inl rfl)]; exact a1, by rw [h2 _ (Or.inl rfl)]; exact a2⟩, by rw [h1 _ (Or.inr rfl)]; exact a3, by rw [h2 _ (Or.inr rfl)]; exact a4⟩
theorem xDr_cong (h : xDr F A x N J) (h1 : F' 502 (x + 5) = F 502 (x + 5)) (h2 : F' 101 (x + 6) = F 101 (x + 6)) (h3 : ∀ a, (a = x + 7 ∨ a = x + 8) → A' a = A a) : xDr F' A' x N J := by
  obtain ⟨a1, a2, a3, a4⟩ := h
  exact ⟨by rw [h1]; exact a1, by rw [h2]; exact a2, by rw [h3 _ (Or.inr rfl)]; exact a3, by rw [h3 _ (Or.inl rfl)]; exact a4⟩
theorem bkS_cong {o c s : Nat} (h : bkS sh R o c s) (h1 : ∀ a, o ≤ a → a < o + 5 → sh' a = sh a) (h2 : ∀ q a, o ≤ a → a < o + 5 → (q = 2 ∨ q = 100 ∨ q = 500 ∨ q = 501) → R' q a = R q a) : bkS sh' R' o c s := by
  obtain ⟨a1, a2, a3, a4, a5, a6, a7, a8, a9⟩ := h
  refine ⟨?_, ?_, ?_, ?_, ?_, ?_, ?_, ?_, ?_⟩
  · rw [h1 _ (by omega) (by omega)]; exact a1
  · rw [h2 _ _ (by omega) (by omega) (by omega)]; exact a2
  · rw [h1 _ (by omega) (by omega)]; exact a3
  · rw [h2 _ _ (by omega) (by omega) (by omega)]; exact a4
  · rw [h2 _ _ (by omega) (by omega) (by omega)]; exact a5
  · rw [h1 _ (by omega) (by omega)]; exact a6
  · rw [h2 _ _ (by omega) (by omega) (by omega)]; exact a7
  · rw [h1 _ (by omega) (by omega)]; exact a8
  · rw [h1 _ (by omega) (by omega)]; exact a9
theorem bkD_cong {o kd c s : Nat} {E f : Nat → Nat} (h : bkD F A o kd c s E f) (h1 : F' 1 o = F 1 o) (h2 : F' 502 (o + 1) = F 502 (o + 1)) (h3 : F' 101 (o + 2) = F 101 (o + 2)) (h4 : A' (o + 3) = A (o + 3)) (h5 : A' (o + 4) = A (o + 4)) : bkD F' A' o kd c s E f := by
  obtain ⟨a1, a2, a3, a4, a5⟩ := h
  exact ⟨by rw [h1]; exact a1, by rw [h2]; exact a2, by rw [h3]; exact a3, by rw [h5]; exact a4, by rw [h4]; exact a5⟩
theorem bkV_cong {o st hd go : Nat} {num sn tg se : Int32} (h : bkV F o num st hd go sn tg se) (h1 : ∀ q, q ≤ 8 → F' q o = F q o) : bkV F' o num st hd go sn tg se := by
  obtain ⟨a1, a2, a3, a4, a5, a6, a7⟩ := h
  refine ⟨?_, ?_, ?_, ?_, ?_, ?_, ?_⟩ <;> rw [h1 _ (by decide)] <;> assumption
theorem xBk_at (h : xBk n sh F R A B x ba T) (hx : x + 117 ≤ n) {b : Nat} (hb : isB3 T.1 b) : (ba b = x + 11 ∨ x + 117 ≤ ba b) ∧ ba b + 5 ≤ n := by
  rcases hb with hb | hb
  · have := (h.2.2.1 b hb).2
    omega
  · subst hb
    have := h.2.1
    omega
theorem xBk_inj (h : xBk n sh F R A B x ba T) {b b' : Nat} (hb : isB3 T.1 b) (hb' : isB3 T.1 b') (hne : b ≠ b') : ba b ≠ ba b' := by
  have h25 := h.2.1
  rcases hb with hb | hb
  · have g1 := (h.2.2.1 b hb).2
    rcases hb' with hb' | hb'
    · by_cases c : b < b'
      · have := h.2.2.2.1 b b' c hb'; omega
      · have := h.2.2.2.1 b' b (by omega) hb; omega
    · subst hb'; omega
  · subst hb
    rcases hb' with hb' | hb'
    · have g1 := (h.2.2.1 b' hb').2
      omega
    · omega
theorem xBk_cong (h : xBk n sh F R A B x ba T) (hx : x + 117 ≤ n) (hn : n ≤ n') (h1 : ∀ a, a < n → sh' a = sh a) (h2 : ∀ q a, a < n → (q = 2 ∨ q = 100 ∨ q = 500 ∨ q = 501) → R' q a = R q a) (h3 : ∀ q a, a < n → (q ≤ 8 ∨ q = 502 ∧ (a = x + 12 ∨ x + 117 ≤ a) ∨ q = 101 ∧ (a = x + 13 ∨ x + 117 ≤ a)) → F' q a = F q a) (h4 : F' 701 (x + 9) = F 701 (x + 9)) (h5 : ∀ a, a < n → (a = x + 14 ∨ a = x + 15 ∨ x + 117 ≤ a) → A' a = A a) (h6 : B' (x + 10) = B (x + 10)) : xBk n' sh' F' R' A' B' x ba T := by
  obtain ⟨a1, a2, a3, a4, a5⟩ := id h
  refine ⟨by rw [h4]; exact a1, a2, fun b hb => ⟨by rw [h6]; exact (a3 b hb).1, (a3 b hb).2.1, by have := (a3 b hb).2.2; omega⟩, a4, fun b hb => ?_⟩
  obtain ⟨g1, g2⟩ := xBk_at h hx hb
  obtain ⟨b1, b2, b3⟩ := a5 b hb
  exact ⟨bkS_cong b1 (fun a _ _ => h1 a (by omega)) (fun q a _ _ hq => h2 q a (by omega) hq), bkD_cong b2 (h3 _ _ (by omega) (by omega)) (h3 _ _ (by omega) (by omega)) (h3 _ _ (by omega) (by omega)) (h5 _ (by omega) (by omega)) (h5 _ (by omega) (by omega)), bkV_cong b3 (fun q hq => h3 q _ (by omega) (Or.inl hq))⟩
theorem xPk_cong (h : xPk F A x T) (h1 : F' 1111 x = F 1111 x) (h2 : F' 410 (x + 16) = F 410 (x + 16)) (h3 : F' 1112 x = F 1112 x) (h4 : ∀ a, x + 17 ≤ a → a ≤ x + 21 → A' a = A a) : xPk F' A' x T := by
  obtain ⟨a1, a2, a3, a4, a5⟩ := h
  refine ⟨by rw [h1]; exact a1, by rw [h2]; exact a2, ?_, ?_, by rw [h3]; exact a5⟩
  · rw [h4 _ (by omega) (by omega)]; exact a3
  · rw [h4 (x + 19) (by omega) (by omega), h4 (x + 20) (by omega) (by omega), h4 (x + 21) (by omega) (by omega)]; exact a4
theorem xGm_cong (h : xGm A x) (h1 : A' (x + 24) = A (x + 24)) (h2 : A' (x + 33) = A (x + 33)) : xGm A' x := by
  unfold xGm
  rw [h1, h2]
  exact h
theorem xSm_cong (h : xSm F A x T) (h1 : ∀ q, (q = 802 ∨ q = 809 ∨ q = 810) → F' q (x + 38) = F q (x + 38)) (h2 : ∀ a, x + 43 ≤ a → a < x + 63 → F' 101 a = F 101 a) (h3 : F' 502 (x + 42) = F 502 (x + 42)) (h4 : ∀ a, x + 45 ≤ a → a < x + 63 → A' a = A a) : xSm F' A' x T := by
  obtain ⟨a1, a2, a3, a4, a5, c, s, a6, a7, a8, a9, E, a10⟩ := h
  refine ⟨isSm_cong a1 (h1 _ (by omega)) (fun i hi => h2 _ (by omega) (by omega)), fun i hi => ?_, ?_, ?_, ?_, c, s, a6, a7, ?_, ?_, E, ?_⟩
  · have := a1.2.1
    rw [h4 _ (by omega) (by omega)]; exact a2 i hi
  · rw [h1 _ (by omega)]; exact a3
  · rw [h1 _ (by omega)]; exact a4
  · rw [h4 _ (by omega) (by omega)]; exact a5
  · rw [h3]; exact a8
  · rw [h2 _ (by omega) (by omega)]; exact a9
  · rw [h4 _ (by omega) (by omega)]; exact a10
theorem msV_cong {o so bo uw fa : Nat} {le : Int32} (h : msV F R o so bo uw fa le) (h1 : ∀ q, 300 ≤ q → q ≤ 305 → F' q o = F q o) (h2 : R' 301 o = R 301 o) : msV F' R' o so bo uw fa le := by
  obtain ⟨a1, a2, a3, a4, a5⟩ := h
  exact ⟨by rw [h1 _ (by decide) (by decide)]; exact a1, by rw [h2]; exact a2, by rw [h1 _ (by decide) (by decide)]; exact a3, by rw [h1 _ (by decide) (by decide)]; exact a4, by rw [h1 _ (by decide) (by decide)]; exact a5⟩
theorem msL_cong {o : Nat} {S : wst} (h : msL n sh F R A x o S) (hn : n ≤ n') (ho : o < n) (h1 : ∀ a, a < n → sh' a = sh a) (h2 : ∀ q a, a < n → (q = 100 ∨ q = 303) → R' q a = R q a) (h3 : ∀ a, a < n → x + 117 ≤ a → F' 101 a = F 101 a) (h4 : ∀ a, a < n → x + 117 ≤ a → A' a = A a) : msL n' sh' F' R' A' x o S := by
  obtain ⟨w, a1, a2, a3, a4, a5, a6, a7, a8⟩ := h
  refine ⟨w, ?_, a2, by omega, ?_, ?_, ?_, ?_, ?_⟩
  · rw [h2 _ _ ho (by omega)]; exact a1
  · rw [h1 _ (by omega)]; exact a4
  · rw [h2 _ _ (by omega) (by omega)]; exact a5
  · rw [h1 _ (by omega)]; exact a6
  · rw [h3 _ (by omega) (by omega)]; exact a7
  · rw [h4 _ (by omega) (by omega)]; exact a8
theorem xWi_cong (h : xWi n sh F R A B x ba ma T) (hn : n ≤ n') (h1 : ∀ a, a < n → sh' a = sh a) (h2 : ∀ q a, a < n → (q = 100 ∨ q = 301 ∨ q = 303) → R' q a = R q a) (h3 : ∀ q a, a < n → (300 ≤ q ∧ q ≤ 305 ∨ q = 101 ∧ x + 117 ≤ a) → F' q a = F q a) (h4 : ∀ q, 904 ≤ q → q ≤ 907 → F' q (x + 72) = F q (x + 72)) (h5 : R' 903 (x + 72) = R 903 (x + 72)) (h6 : ∀ a, a < n → x + 117 ≤ a → A' a = A a) (h7 : B' (x + 73) = B (x + 73)) : xWi n' sh' F' R' A' B' x ba ma T := by
  obtain ⟨a1, a2, a3, a4, a5, a6, a7⟩ := h
  refine ⟨by rw [h4 _ (by decide) (by decide)]; exact a1, by rw [h4 _ (by decide) (by decide)]; exact a2, by rw [h4 _ (by decide) (by decide)]; exact a3, by rw [h4 _ (by decide) (by decide)]; exact a4, by rw [h5]; exact a5, fun m hm => ?_, a7⟩
  obtain ⟨b1, b2, b3, b4, b5, b6⟩ := a6 m hm
  exact ⟨by rw [h7]; exact b1, b2, by omega, by rw [h1 _ b3]; exact b4, msV_cong b5 (fun q g1 g2 => h3 q _ b3 (by omega)) (h2 _ _ b3 (by omega)), fun g => msL_cong (b6 g) hn b3 h1 (fun q a ha hq => h2 q a ha (by omega)) (fun a ha hx => h3 _ a ha (by omega)) h6⟩
theorem xRd_cong (h : xRd F x) (h1 : ∀ a, (a = x + 36 ∨ a = x + 76) → F' 101 a = F 101 a) : xRd F' x := by
  unfold xRd
  rw [h1 _ (Or.inl rfl), h1 _ (Or.inr rfl)]
  exact h
/-- tape, OUT, draft, shelf, books -/
theorem isX.tape (h : isX sh R B x) (ht : xTO F A x N) (hN : N 0 0 ≤ 240) : isB sh F R (x + 1) (x + 2) 240 (N 0 0) := ⟨h.s 1 0 1 0 (by decide), h.r 100 1 2 (by decide), h.s 2 1 0 240 (by decide), by decide, ht.1.1, hN⟩
theorem isX.out (h : isX sh R B x) (ht : xTO F A x N) (hN : N 1 0 ≤ 240) : isB sh F R (x + 3) (x + 4) 240 (N 1 0) := ⟨h.s 3 0 1 0 (by decide), h.r 100 3 4 (by decide), h.s 4 1 0 240 (by decide), by decide, ht.2.1, hN⟩
theorem okE_sum {E : Nat → Nat} {s k : Nat} : ∀ c, okE E c s → (∀ q, q < c → E q - pst E q ≤ k) → ∀ j, j ≤ c → pst E j ≤ k * j
  | c, h, hk, 0, _ => Nat.zero_le _
  | c, h, hk, j + 1, hj => by
    have h1 := okE_sum c h hk j (by omega)
    have h2 := hk j (by omega)
    have h3 := h.1 j (by omega)
    show E j ≤ k * (j + 1)
    rw [Nat.mul_add, Nat.mul_one]
    omega
theorem isX.draft (h : isX sh R B x) (hd : xDr F A x N J) (h1 : N 4 24 ≤ 20) (h2 : okE (J 3 24) (N 4 24) (N 5 24)) (h3 : ∀ q, q < N 4 24 → J 3 24 q - pst (J 3 24) q ≤ 200) : isP sh F R A (x + 5) (x + 6) (x + 7) 4000 (N 5 24) (x + 8) 20 (N 4 24) (J 3 24) := by
  have h4 := okE_sum _ h2 h3 (N 4 24) (Nat.le_refl _)
  rw [h2.2] at h4
  exact ⟨h.s 5 0 5 0 (by decide), h.r 500 5 6 (by decide), h.r 501 5 8 (by decide), h.s 8 1 0 20 (by decide), by decide, hd.1, h1, hd.2.2.1, h.s 6 0 1 0 (by decide), h.r 100 6 7 (by decide), h.s 7 1 0 4000 (by decide), by decide, hd.2.1, by omega⟩
theorem isX.shelf (h : isX sh R B x) (hb : xBk n sh F R A B x ba T) (h24 : T.1 2 0 ≤ 24) : isS sh F R B (x + 9) (x + 10) (x + 11) (T.1 2 0) ba :=
  ⟨h.s 9 0 7 0 (by decide), h.r 700 9 10 (by decide), h.s 10 2 0 24 (by decide), hb.1, h24, h.r 702 9 11 (by decide), h.s 11 0 0 0 (by decide), fun j hj => ⟨(hb.2.2.1 j hj).1, (hb.2.2.2.2 j (Or.inl hj)).1.1⟩⟩
theorem bkP {o kd c s : Nat} {E f : Nat → Nat} (h : bkS sh R o c s) (hd : bkD F A o kd c s E f) (hc : c ≤ 20) (hs : s ≤ 320) : isP sh F R A (o + 1) (o + 2) (o + 3) s s (o + 4) c c E := by
  obtain ⟨a1, a2, a3, a4, a5, a6, a7, a8, a9⟩ := h
  obtain ⟨b1, b2, b3, b4, b5⟩ := hd
  exact ⟨a3, a4, a5, a9, by omega, b2, Nat.le_refl _, b4, a6, a7, a8, by omega, b3, Nat.le_refl _⟩
theorem isX.samp (h : isX sh R B x) (hm : xSm F A x T) {i : Nat} (hi : i < T.1 6 0) : isB sh F R (x + 38 + 9 + 2 * i) (x + 38 + 10 + 2 * i) 40 (T.1 7 i) := isT_sB h.T hm.1 hi
end XCG
/-- an int as an index below n -/
def ix (i : Int32) (n : Nat) : Option Nat := if i < nI 0 then none else if nI n ≤ i then none else some i.toNatClampNeg
theorem ix_some {i : Int32} {n j : Nat} (h : ix i n = some j) : j < n ∧ j < 2 ^ 31 ∧ i = nI j := by
  unfold ix at h
  split at h
  · cases h
  · rename_i h0
    obtain ⟨q, hq, rfl⟩ := nI_of h0
    split at h
    · cases h
    · rename_i h1
      rw [nI_clamp hq] at h
      cases h
      exact ⟨Nat.not_le.mp fun e => h1 (nI_le e hq), hq, rfl⟩
theorem ix_none {i : Int32} {n : Nat} (h : ix i n = none) : i < nI 0 ∨ (¬ i < nI 0 ∧ nI n ≤ i) := by
  unfold ix at h
  split at h
  · left; assumption
  · split at h
    · right; exact ⟨by assumption, by assumption⟩
    · cases h
theorem ix_nI {n j : Nat} (h : j < n) (hj : j < 2 ^ 31) (hn : n < 2 ^ 31) : ix (nI j) n = some j := by
  unfold ix
  rw [if_neg (nI_nlt (Nat.zero_le _) hj), if_neg (nI_ge h hn), nI_clamp hj]
theorem fnd_ix {bs : Nat → Nat} {c : Nat} {i : Int32} : fnd bs c i = (ix i c).map bs := by
  unfold fnd ix
  split
  · rfl
  · split
    · rfl
    · rfl
