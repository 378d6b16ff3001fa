/-! ===== the class: made ===== -/
def aS (x : Nat) (sh : hs_) (l : List (Nat × Nat × Nat × Nat)) : Prop := ∀ e, e ∈ l → sh (x + e.1) = some e.2
def aR (x : Nat) (R : hR_) (l : List (Nat × Nat × Nat)) : Prop := ∀ e, e ∈ l → R e.1 (x + e.2.1) = some (x + e.2.2)
def aF (x : Nat) (F : hF_) (l : List (Nat × Nat)) : Prop := ∀ e, e ∈ l → F e.1 (x + e.2) = nI 0
theorem aS_nil {x : Nat} {sh : hs_} : aS x sh [] := fun e he => absurd he (by simp)
theorem aR_nil {x : Nat} {R : hR_} : aR x R [] := fun e he => absurd he (by simp)
theorem aF_nil {x : Nat} {F : hF_} : aF x F [] := fun e he => absurd he (by simp)
theorem aS_cons {x a : Nat} {v : Nat × Nat × Nat} {sh : hs_} {l : List (Nat × Nat × Nat × Nat)} (h : sh (x + a) = some v) (hl : aS x sh l) : aS x sh ((a, v) :: l) := by
  intro e he
  rcases List.mem_cons.mp he with rfl | he
  · exact h
  · exact hl e he
theorem aR_cons {x q a b : Nat} {R : hR_} {l : List (Nat × Nat × Nat)} (h : R q (x + a) = some (x + b)) (hl : aR x R l) : aR x R ((q, a, b) :: l) := by
  intro e he
  rcases List.mem_cons.mp he with rfl | he
  · exact h
  · exact hl e he
theorem aF_cons {x q a : Nat} {F : hF_} {l : List (Nat × Nat)} (h : F q (x + a) = nI 0) (hl : aF x F l) : aF x F ((q, a) :: l) := by
  intro e he
  rcases List.mem_cons.mp he with rfl | he
  · exact h
  · exact hl e he
/-- cells below n are the same -/
def agr (n : Nat) (sh : hs_) (F : hF_) (R : hR_) (A : hF_) (B : hR_) (sh' : hs_) (F' : hF_) (R' : hR_) (A' : hF_) (B' : hR_) : Prop := (∀ a, a < n → sh' a = sh a) ∧ (∀ q a, a < n → F' q a = F q a) ∧ (∀ q a, a < n → R' q a = R q a) ∧ (∀ a, a < n → A' a = A a) ∧ ∀ a, a < n → B' a = B a
section CI4
variable {k n u x kk q : Nat} {sh sh' sh0 : hs_} {F F' F0 : hF_} {R R' R0 : hR_} {A A' A0 : hF_} {B B' B0 : hR_} {Q : Option Value → pm_H → Prop} {o : Nat} {SL SLb : List (Nat × Nat × Nat × Nat)} {RL RLb : List (Nat × Nat × Nat)} {FL FLb : List (Nat × Nat)}
theorem agO {v : Option (Nat × Nat × Nat)} (h : frO o (up1 sh o v) (zap F o 0) (zap R o none) A B sh' F' R' A' B') : agr o sh F R A B sh' F' R' A' B' := by
  obtain ⟨h1, h2, h3, h4, h5⟩ := h
  exact ⟨fun a ha => by rw [h1 a (by omega), up1_ne (by omega)], fun q a ha => by rw [h2 q a (by omega), zap_ne (by omega)], fun q a ha => by rw [h3 q a ha, zap_ne (by omega)], fun a ha => h4 a (by omega), fun a ha => h5 a (by omega)⟩
def cI (x : Nat) (sh0 : hs_) (F0 : hF_) (R0 : hR_) (A0 : hF_) (B0 : hR_) (SL : List (Nat × Nat × Nat × Nat)) (RL : List (Nat × Nat × Nat)) (FL : List (Nat × Nat)) (sh : hs_) (F : hF_) (R : hR_) (A : hF_) (B : hR_) : Prop := aS x sh SL ∧ aR x R RL ∧ aF x F FL ∧ agr x sh0 F0 R0 A0 B0 sh F R A B
theorem cI_step (hc : cI x sh0 F0 R0 A0 B0 SL RL FL sh F R A B) (hg : agr (x + kk) sh F R A B sh' F' R' A' B') (bS : ∀ e, e ∈ SL → e.1 < kk) (bR : ∀ e, e ∈ RL → e.2.1 < kk ∧ ¬ (e.1 = q ∧ e.2.1 = 0)) (bF : ∀ e, e ∈ FL → e.2 < kk) (nS : aS x sh' SLb) (nR : aR x R' RLb) (bRb : ∀ e, e ∈ RLb → ¬ e.2.1 = 0) (nF : aF x F' FLb) : cI x sh0 F0 R0 A0 B0 (SL ++ SLb) (RL ++ (RLb ++ [(q, 0, kk)])) (FL ++ FLb) sh' F' (up2 R' q x (some (x + kk))) A' B' := by
  obtain ⟨h1, h2, h3, h4⟩ := hc
  obtain ⟨g1, g2, g3, g4, g5⟩ := hg
  refine ⟨fun e he => ?_, fun e he => ?_, fun e he => ?_, ⟨fun a ha => by rw [g1 a (by omega), h4.1 a ha], fun q a ha => by rw [g2 q a (by omega), h4.2.1 q a ha], fun q a ha => by rw [up2_o (by omega), g3 q a (by omega), h4.2.2.1 q a ha], fun a ha => by rw [g4 a (by omega), h4.2.2.2.1 a ha], fun a ha => by rw [g5 a (by omega), h4.2.2.2.2 a ha]⟩⟩
  · rcases List.mem_append.mp he with he | he
    · rw [g1 _ (by have := bS e he; omega)]; exact h1 e he
    · exact nS e he
  · rcases List.mem_append.mp he with he | he
    · obtain ⟨b1, b2⟩ := bR e he
      rw [up2_o (by omega), g3 _ _ (by omega)]; exact h2 e he
    · rcases List.mem_append.mp he with he | he
      · have b1 := bRb e he
        rw [up2_o (by omega)]; exact nR e he
      · rw [List.mem_singleton] at he
        subst he
        exact up2_eq
  · rcases List.mem_append.mp he with he | he
    · rw [g2 _ _ (by have := bF e he; omega)]; exact h3 e he
    · exact nF e he
theorem j_Bytes {z : Nat} (ho : sh o = some (0, 1, 0)) (hz : z ≤ 134217728) (hQ : ∀ u' sh' F' R' A' B', frO o sh F R A B sh' F' R' A' B' → R' 100 o = some (o + 1) → sh' (o + 1) = some (1, 0, z) → u' = u + z → Q none (mkh (o + 2) u' sh' F' R' A' B')) : rc_ (k + 1) mX1_init [.ref o, .int (nI z)] (mkh (o + 1) u sh F R A B) Q := by
  rw [k_Bytes_init ho (by omega) hz]
  exact hQ _ _ _ _ _ _ ⟨fun a ha => by rw [up1_ne (by omega)], fun _ _ _ => rfl, fun q a ha => by rw [up2_o (by omega)], fun a ha => by rw [up1_ne (by omega)], fun _ _ => rfl⟩ up2_eq up1_eq rfl
theorem j_Pieces {z ze : Nat} (ho : sh o = some (0, 5, 0)) (hz : z ≤ 134217728) (hze : ze ≤ 134217728) (hQ : ∀ u' sh' F' R' A' B', frO o sh F R A B sh' F' R' A' B' → (R' 100 (o + 1) = some (o + 2) ∧ R' 500 o = some (o + 1) ∧ R' 501 o = some (o + 3)) → (sh' (o + 1) = some (0, 1, 0) ∧ sh' (o + 2) = some (1, 0, z) ∧ sh' (o + 3) = some (1, 0, ze)) → F' 101 (o + 1) = nI 0 → u' = u + 2 + z + ze → Q none (mkh (o + 4) u' sh' F' R' A' B')) : rc_ (k + 2) mX5_init [.ref o, .int (nI z), .int (nI ze)] (mkh (o + 1) u sh F R A B) Q := by
  rw [k_Pieces_init ho (by omega) hz hze]
  refine hQ _ _ _ _ _ _ ⟨fun a ha => by rw [up1_ne (by omega), up1_ne (by omega), up1_ne (by omega)], fun q a ha => by rw [zap_ne (by omega)], fun q a ha => by rw [up2_o (by omega), up2_o (by omega), up2_o (by omega), zap_ne (by omega)], fun a ha => by rw [up1_ne (by omega), up1_ne (by omega)], fun _ _ => rfl⟩ ⟨?_, ?_, up2_eq⟩ ⟨?_, ?_, up1_eq⟩ ?_ rfl
  · rw [up2_k (by decide), up2_k (by decide), up2_eq]
  · rw [up2_k (by decide), up2_eq]
  · rw [up1_ne (by omega), up1_ne (by omega), up1_eq]
  · rw [up1_ne (by omega), up1_eq]
  · rw [zap_eq]; rfl
theorem frK_O {v : Option (Nat × Nat × Nat)} (h1 : ∀ a, a < o + 1 → sh' a = up1 sh o v a) (h2 : ∀ q a, a ≠ o → R' q a = zap R o none q a) (h3 : ∀ a, a < o + 1 → A' a = A a) : agr o sh F R A B sh' (zap F o 0) R' A' B := ⟨fun a ha => by rw [h1 a (by omega), up1_ne (by omega)], fun q a ha => by rw [zap_ne (by omega)], fun q a ha => by rw [h2 q a (by omega), zap_ne (by omega)], fun a ha => h3 a (by omega), fun _ _ => rfl⟩
theorem frO_F {v : Option (Nat × Nat × Nat)} (h : frO o (up1 sh o v) (zap F o 0) (zap R o none) A B sh' F' R' A' B') (q : Nat) : F' q o = nI 0 := by rw [h.2.1 q o (by omega), zap_eq]; rfl
theorem frO_S {v : Nat × Nat × Nat} (h : frO o (up1 sh o (some v)) (zap F o 0) (zap R o none) A B sh' F' R' A' B') : sh' o = some v := by rw [h.1 o (by omega), up1_eq]
/-- the cells of a new post -/
def cX0 (x : Nat) (sh : hs_) (F : hF_) (R : hR_) (A : hF_) (B : hR_) : Prop := ∀ n, x + 117 ≤ n → XS n sh F R A B x (fun _ => x + 11) (fun _ => 0) T0
/-- ... whatever comes behind them -/
def cX (x : Nat) (sh : hs_) (F : hF_) (R : hR_) (A : hF_) (B : hR_) : Prop := ∀ sh' F' R' A' B', agr (x + 78) sh F R A B sh' F' R' A' B' → cX0 x sh' F' R' A' B'
theorem cX_of0 {SLf : List (Nat × Nat × Nat × Nat)} {RLf : List (Nat × Nat × Nat)} {FLf : List (Nat × Nat)} (hS : aS x sh SLf) (hR : aR x R RLf) (hF : aF x F FLf) (bS : ∀ e, e ∈ xSl → e ∈ SLf) (bR : ∀ e, e ∈ xRl → e ∈ RLf) (bF : ∀ e, e ∈ [(101, 1), (101, 3), (502, 5), (101, 6), (701, 9), (1, 11), (502, 12), (101, 13), (410, 16), (802, 38), (809, 38), (810, 38), (502, 42), (101, 43), (904, 72), (905, 72), (906, 72), (907, 72), (101, 36), (101, 76), (1112, 0)] → e ∈ FLf) (hV : bkV F (x + 11) (-1) 2 1 0 0 0 0) (h11 : F 1111 x = -1) (hg1 : ∀ j, 1 ≤ j → j ≤ 120 → A (x + 24) j = nI (gm j)) (hg2 : ∀ j, 1 ≤ j → j ≤ 120 → A (x + 33) j = nI (gm j)) (hB1 : ∀ i, i < 8 → B (x + 39) i = some (x + 47 + 2 * i)) (hB2 : ∀ i, i < 8 → B (x + 40) i = some (x + 64 + i)) (h903 : R 903 (x + 72) = none) : cX0 x sh F R A B := by
  intro n hn
  have f := fun e he => hF e (bF e he)
  have hX : isX sh R B x := ⟨fun e he => hR e (bR e he), fun e he => hS e (bS e he), hB1, hB2⟩
  refine ⟨hn, hX, ⟨⟨f (101, 1) (by decide), fun j hj => absurd hj (Nat.not_lt_zero _)⟩, f (101, 3) (by decide), fun j hj => absurd hj (Nat.not_lt_zero _)⟩, ⟨f (502, 5) (by decide), f (101, 6) (by decide), fun j hj => absurd hj (Nat.not_lt_zero _), fun j hj => absurd hj (Nat.not_lt_zero _)⟩, ⟨f (701, 9) (by decide), rfl, fun j hj => absurd hj (Nat.not_lt_zero _), fun j j' _ hj => absurd hj (Nat.not_lt_zero _), fun b hb => ?_⟩, ⟨h11, f (410, 16) (by decide), fun z => absurd rfl z, fun j hj => absurd hj (Nat.not_lt_zero _), f (1112, 0) (by decide)⟩, fun j j1 j2 => ⟨hg1 j j1 j2, hg2 j j1 j2⟩, ⟨⟨f (802, 38) (by decide), Nat.zero_le _, fun j hj => absurd hj (Nat.not_lt_zero _)⟩, fun j hj => absurd hj (Nat.not_lt_zero _), f (809, 38) (by decide), f (810, 38) (by decide), fun j hj => absurd hj (Nat.not_lt_zero _), 0, 0, by omega, by omega, f (502, 42) (by decide), f (101, 43) (by decide), fun _ => 0, fun j hj => absurd hj (Nat.not_lt_zero _)⟩, ⟨f (904, 72) (by decide), f (905, 72) (by decide), f (906, 72) (by decide), f (907, 72) (by decide), h903, fun j hj => absurd hj (Nat.not_lt_zero _), fun j j' _ hj => absurd hj (Nat.not_lt_zero _)⟩, ⟨0, by omega, f (101, 36) (by decide)⟩, 0, by omega, f (101, 76) (by decide)⟩
  rcases hb with hb | hb
  · exact absurd hb (Nat.not_lt_zero _)
  · subst hb
    exact ⟨⟨hX.s 11 0 0 0 (by decide), hX.r 2 11 12 (by decide), hX.s 12 0 5 0 (by decide), hX.r 500 12 13 (by decide), hX.r 501 12 15 (by decide), hX.s 13 0 1 0 (by decide), hX.r 100 13 14 (by decide), hX.s 14 1 0 0 (by decide), hX.s 15 1 0 0 (by decide)⟩, ⟨f (1, 11) (by decide), f (502, 12) (by decide), f (101, 13) (by decide), fun j hj => absurd hj (Nat.not_lt_zero _), fun j hj => absurd hj (Nat.not_lt_zero _)⟩, hV⟩
theorem cX_of {SLf : List (Nat × Nat × Nat × Nat)} {RLf : List (Nat × Nat × Nat)} {FLf : List (Nat × Nat)} (hS : aS x sh SLf) (hR : aR x R RLf) (hF : aF x F FLf) (bS : ∀ e, e ∈ xSl → e ∈ SLf) (bR : ∀ e, e ∈ xRl → e ∈ RLf) (bF : ∀ e, e ∈ [(101, 1), (101, 3), (502, 5), (101, 6), (701, 9), (1, 11), (502, 12), (101, 13), (410, 16), (802, 38), (809, 38), (810, 38), (502, 42), (101, 43), (904, 72), (905, 72), (906, 72), (907, 72), (101, 36), (101, 76), (1112, 0)] → e ∈ FLf) (hV : bkV F (x + 11) (-1) 2 1 0 0 0 0) (h11 : F 1111 x = -1) (hg1 : ∀ j, 1 ≤ j → j ≤ 120 → A (x + 24) j = nI (gm j)) (hg2 : ∀ j, 1 ≤ j → j ≤ 120 → A (x + 33) j = nI (gm j)) (hB1 : ∀ i, i < 8 → B (x + 39) i = some (x + 47 + 2 * i)) (hB2 : ∀ i, i < 8 → B (x + 40) i = some (x + 64 + i)) (h903 : R 903 (x + 72) = none) : cX x sh F R A B := by
  intro sh' F' R' A' B' hag
  obtain ⟨g1, g2, g3, g4, g5⟩ := hag
  have dS : ∀ e, e ∈ xSl → e.1 < 78 := by decide
  have dR : ∀ e, e ∈ xRl → e.2.1 < 78 := by decide
  have dF : ∀ e, e ∈ [(101, 1), (101, 3), (502, 5), (101, 6), (701, 9), (1, 11), (502, 12), (101, 13), (410, 16), (802, 38), (809, 38), (810, 38), (502, 42), (101, 43), (904, 72), (905, 72), (906, 72), (907, 72), (101, 36), (101, 76), (1112, 0)] → (e : Nat × Nat).2 < 78 := by decide
  refine cX_of0 (SLf := xSl) (RLf := xRl) (FLf := [(101, 1), (101, 3), (502, 5), (101, 6), (701, 9), (1, 11), (502, 12), (101, 13), (410, 16), (802, 38), (809, 38), (810, 38), (502, 42), (101, 43), (904, 72), (905, 72), (906, 72), (907, 72), (101, 36), (101, 76), (1112, 0)]) (fun e he => ?_) (fun e he => ?_) (fun e he => ?_) (fun _ h => h) (fun _ h => h) (fun _ h => h) ?_ ?_ (fun j j1 j2 => by rw [g4 _ (by omega)]; exact hg1 j j1 j2) (fun j j1 j2 => by rw [g4 _ (by omega)]; exact hg2 j j1 j2) (fun i hi => by rw [g5 _ (by omega)]; exact hB1 i hi) (fun i hi => by rw [g5 _ (by omega)]; exact hB2 i hi) (by rw [g3 _ _ (by omega)]; exact h903)
  · have := dS e he
    rw [g1 _ (by omega)]; exact hS e (bS e he)
  · have := dR e he
    rw [g3 _ _ (by omega)]; exact hR e (bR e he)
  · have := dF e he
    rw [g2 _ _ (by omega)]; exact hF e (bF e he)
  · unfold bkV at hV ⊢
    rw [g2 _ _ (by omega), g2 _ _ (by omega), g2 _ _ (by omega), g2 _ _ (by omega), g2 _ _ (by omega), g2 _ _ (by omega), g2 _ _ (by omega)]
    exact hV
  · rw [g2 _ _ (by omega)]; exact h11
end CI4
