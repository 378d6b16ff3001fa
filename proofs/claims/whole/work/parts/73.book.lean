/-! ===== the class: a book ===== -/
def apB (T : TT) (kd c s : Nat) (E f : Nat → Nat) : TT :=
  (up2 (up2 (up2 (up2 (up2 (up2 (up2 T.1 2 0 (T.1 2 0 + 1)) 3 (T.1 2 0) kd) 4 (T.1 2 0) c) 5 (T.1 2 0) s) 18 (T.1 2 0) 0) 19 (T.1 2 0) 0) 20 (T.1 2 0) 0, up2 (up2 T.2.1 3 (T.1 2 0) E) 0 (T.1 2 0) f, up2 (up2 (up2 T.2.2 2 (T.1 2 0) (nI 0)) 3 (T.1 2 0) (nI 0)) 4 (T.1 2 0) (nI 0))
section APB
variable {k n n' u : Nat} {sh sh' : hs_} {F F' : hF_} {R R' : hR_} {A A' : hF_} {B B' : hR_} {Q : Option Value → pm_H → Prop} {x : Nat} {ba ma : Nat → Nat} {T T' : TT} {b m : Nat} {kd c s : Nat} {E f : Nat → Nat}
theorem apB_o {q b : Nat} (h : q ≠ 2) (hb : b ≠ T.1 2 0) : (apB T kd c s E f).1 q b = T.1 q b := by
  unfold apB
  dsimp only
  rw [up2_o (by omega), up2_o (by omega), up2_o (by omega), up2_o (by omega), up2_o (by omega), up2_o (by omega), up2_o (by omega)]
theorem apB_oJ {q b : Nat} (hb : b ≠ T.1 2 0) : (apB T kd c s E f).2.1 q b = T.2.1 q b := by
  unfold apB
  dsimp only
  rw [up2_o (by omega), up2_o (by omega)]
theorem apB_oI {q b : Nat} (hb : b ≠ T.1 2 0) : (apB T kd c s E f).2.2 q b = T.2.2 q b := by
  unfold apB
  dsimp only
  rw [up2_o (by omega), up2_o (by omega), up2_o (by omega)]
theorem apB_n : (apB T kd c s E f).1 3 (T.1 2 0) = kd ∧ (apB T kd c s E f).1 4 (T.1 2 0) = c ∧ (apB T kd c s E f).1 5 (T.1 2 0) = s ∧ (apB T kd c s E f).1 18 (T.1 2 0) = 0 ∧ (apB T kd c s E f).1 19 (T.1 2 0) = 0 ∧ (apB T kd c s E f).1 20 (T.1 2 0) = 0 ∧ (apB T kd c s E f).2.1 3 (T.1 2 0) = E ∧ (apB T kd c s E f).2.1 0 (T.1 2 0) = f ∧ (apB T kd c s E f).2.2 2 (T.1 2 0) = nI 0 ∧ (apB T kd c s E f).2.2 3 (T.1 2 0) = nI 0 ∧ (apB T kd c s E f).2.2 4 (T.1 2 0) = nI 0 := by
  unfold apB
  dsimp only
  refine ⟨?_, ?_, ?_, ?_, ?_, up2_eq, ?_, up2_eq, ?_, ?_, up2_eq⟩
  · rw [up2_k (by decide), up2_k (by decide), up2_k (by decide), up2_k (by decide), up2_k (by decide), up2_eq]
  · rw [up2_k (by decide), up2_k (by decide), up2_k (by decide), up2_k (by decide), up2_eq]
  · rw [up2_k (by decide), up2_k (by decide), up2_k (by decide), up2_eq]
  · rw [up2_k (by decide), up2_k (by decide), up2_eq]
  · rw [up2_k (by decide), up2_eq]
  · rw [up2_k (by decide), up2_eq]
  · rw [up2_k (by decide), up2_k (by decide), up2_eq]
  · rw [up2_k (by decide), up2_eq]
theorem XS_apB (h : XS n sh F R A B x ba ma T) (hn24 : T.1 2 0 < 24) (hmb : ∀ m, m < T.1 8 0 → isB3 T.1 (mbk T.1 m)) (hn : n + 5 ≤ n') (h1 : ∀ a, a < n → sh' a = sh a) (h2 : ∀ q a, a < n → ¬ (q = 701 ∧ a = x + 9) → F' q a = F q a) (h3 : ∀ q a, a < n → R' q a = R q a) (h4 : ∀ a, a < n → A' a = A a) (h5 : ∀ a, a ≠ x + 10 → B' a = B a) (h6 : ∀ j, j ≠ T.1 2 0 → B' (x + 10) j = B (x + 10) j) (h7 : B' (x + 10) (T.1 2 0) = some n) (h8 : F' 701 (x + 9) = nI (T.1 2 0 + 1)) (h9 : bkS sh' R' n c s) (h10 : bkD F' A' n kd c s E f) (h11 : bkV F' n (nI (T.1 2 0)) 0 0 0 (nI 0) (nI 0) (nI 0)) :
    XS n' sh' F' R' A' B' x (fun b => if b = T.1 2 0 then n else ba b) ma (apB T kd c s E f) ∧ frX x n sh F R A n' sh' F' R' A' := by
  obtain ⟨hx, hX, hTO, hDr, hBk, hPk, hGm, hSm, hWi, hRd⟩ := h
  refine ⟨⟨by omega, isX_cong hX (fun q a ha _ _ _ _ _ _ => h3 q a (by omega)) (fun a ha => h1 a (by omega)) (h5 _ (by omega)) (h5 _ (by omega)), xTO_cong (N := T.1) hTO (fun a ha => h2 _ _ (by omega) (by omega)) (fun a ha => h4 a (by omega)), ?_, ?_, xPk_cong (T := T) hPk (h2 _ _ (by omega) (by omega)) (h2 _ _ (by omega) (by omega)) (h2 _ _ (by omega) (by omega)) (fun a _ _ => h4 a (by omega)), xGm_cong hGm (h4 _ (by omega)) (h4 _ (by omega)), xSm_cong (T := T) hSm (fun q _ => h2 _ _ (by omega) (by omega)) (fun a _ _ => h2 _ _ (by omega) (by omega)) (h2 _ _ (by omega) (by omega)) (fun a _ _ => h4 a (by omega)), ?_, xRd_cong hRd (fun a ha => h2 _ _ (by omega) (by omega))⟩, by omega, h1, fun q a ha hq => ⟨h2 q a ha (by omega), h3 q a ha⟩, fun a ha => h4 a (by omega)⟩
  · have := xDr_cong (F' := F') (A' := A') hDr (h2 _ _ (by omega) (by omega)) (h2 _ _ (by omega) (by omega)) (fun a ha => h4 a (by omega))
    unfold xDr at this ⊢
    rw [apB_o (by decide) (by omega), apB_o (by decide) (by omega), apB_oJ (by omega), apB_oJ (by omega)]
    exact this
  · obtain ⟨a1, a2, a3, a4, a5⟩ := id hBk
    refine ⟨h8, ?_, fun b hb => ?_, fun b b' g1 g2 => ?_, fun b hb => ?_⟩
    · show (if 25 = T.1 2 0 then n else ba 25) = x + 11
      rw [if_neg (by omega)]; exact a2
    · have hb' : b < T.1 2 0 + 1 := hb
      show B' (x + 10) b = some (if b = T.1 2 0 then n else ba b) ∧ x + 117 ≤ (if b = T.1 2 0 then n else ba b) ∧ (if b = T.1 2 0 then n else ba b) + 5 ≤ n'
      by_cases e : b = T.1 2 0
      · rw [if_pos e, e]; exact ⟨h7, by omega, hn⟩
      · rw [if_neg e, h6 b e]
        have := a3 b (by omega)
        exact ⟨this.1, this.2.1, by omega⟩
    · have g2' : b' < T.1 2 0 + 1 := g2
      show (if b = T.1 2 0 then n else ba b) + 5 ≤ (if b' = T.1 2 0 then n else ba b')
      rw [if_neg (by omega)]
      by_cases e : b' = T.1 2 0
      · rw [if_pos e]; exact (a3 b (by omega)).2.2
      · rw [if_neg e]; exact a4 b b' g1 (by omega)
    · show bkS sh' R' (if b = T.1 2 0 then n else ba b) _ _ ∧ bkD F' A' (if b = T.1 2 0 then n else ba b) _ _ _ _ _ ∧ bkV F' (if b = T.1 2 0 then n else ba b) _ _ _ _ _ _ _
      by_cases e : b = T.1 2 0
      · subst e
        obtain ⟨e1, e2, e3, e4, e5, e6, e7, e8, e9, e10, e11⟩ := apB_n (T := T) (kd := kd) (c := c) (s := s) (E := E) (f := f)
        rw [if_pos rfl, e1, e2, e3, e4, e5, e6, e7, e8, e9, e10, e11]
        refine ⟨h9, h10, ?_⟩
        unfold nm3
        rw [if_neg (by omega)]
        exact h11
      · have hb3 : isB3 T.1 b := by
          have hb2 : b < T.1 2 0 + 1 ∨ b = 25 := hb
          unfold isB3
          omega
        obtain ⟨g1, g2⟩ := xBk_at hBk hx hb3
        obtain ⟨b1, b2, b3⟩ := a5 b hb3
        rw [if_neg e, apB_o (by decide) e, apB_o (by decide) e, apB_o (by decide) e, apB_o (by decide) e, apB_o (by decide) e, apB_o (by decide) e, apB_oJ e, apB_oJ e, apB_oI e, apB_oI e, apB_oI e]
        exact ⟨bkS_cong b1 (fun a _ _ => h1 a (by omega)) (fun q a _ _ hq => h3 q a (by omega)), bkD_cong b2 (h2 _ _ (by omega) (by omega)) (h2 _ _ (by omega) (by omega)) (h2 _ _ (by omega) (by omega)) (h4 _ (by omega)) (h4 _ (by omega)), bkV_cong b3 (fun q hq => h2 q _ (by omega) (by omega))⟩
  · have hw := xWi_cong (n' := n') (sh' := sh') (F' := F') (R' := R') (A' := A') (B' := B') hWi (by omega) h1 (fun q a ha _ => h3 q a ha) (fun q a ha hq => h2 q a ha (by omega)) (fun q _ _ => h2 _ _ (by omega) (by omega)) (h3 _ _ (by omega)) (fun a ha _ => h4 a ha) (h5 _ (by omega))
    obtain ⟨w1, w2, w3, w4, w5, w6, w7⟩ := hw
    refine ⟨w1, w2, w3, w4, w5, fun m hm => ?_, w7⟩
    have hm' : m < T.1 8 0 := hm
    obtain ⟨b1, b2, b3, b4, b5', b6⟩ := w6 m hm'
    have hmbm := hmb m hm'
    have hne : mbk T.1 m ≠ T.1 2 0 := by
      unfold isB3 at hmbm
      omega
    have em : mbk (apB T kd c s E f).1 m = mbk T.1 m := rfl
    have hbe : bEq T (apB T kd c s E f) (mbk T.1 m) := ⟨apB_o (by decide) hne, apB_o (by decide) hne, apB_o (by decide) hne, apB_oJ hne, apB_oJ hne⟩
    refine ⟨b1, b2, b3, b4, ?_, fun g => ?_⟩
    · show msV F' R' (ma m) _ (if mbk T.1 m = T.1 2 0 then n else ba (mbk T.1 m)) _ _ _
      rw [if_neg hne]
      exact b5'
    · rw [em, wrT_cg hbe]
      exact b6 g
end APB
