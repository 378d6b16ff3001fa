/-! ===== both together ===== -/
section JNT
variable {x b L n n' u : Nat} {xs : Nat → Int32} {sh sh' : hs_} {F F' : hF_} {R R' : hR_} {A A' : hF_} {B B' : hR_} {ba ma : Nat → Nat} {T T' : TT} {y : Nat}
theorem MS_same (h : MS F A y T) (hT : okT T) (hF : ∀ q, 1200 ≤ q → F' q y = F q y) (hA : ∀ k, 1 ≤ k → k ≤ 38 → A' (y + k) = A (y + k)) : MS F' A' y T := by
  obtain ⟨a1, a2, a3, a4, a5, a6⟩ := h
  obtain ⟨d1, d2, d3, d4⟩ := hT.2.2.1
  have dsum := okE_sum _ d2 (fun q hq => (d3 q hq).2) (T.1 4 24) (Nat.le_refl _)
  rw [d2.2] at dsum
  have b1 := hT.2.2.2.1.1
  exact ⟨mTO_cong a1 (hF _ (by omega)) (hF _ (by omega)) (hA _ (by omega) (by omega)) (hA _ (by omega) (by omega)), mBk_cong a2 b1 d1 (by omega) (fun b hb => ⟨(hT.2.2.2.1.2.1 b (Or.inl hb)).1.2.1, (hT.2.2.2.1.2.1 b (Or.inl hb)).1.2.2.1⟩) (hF _ (by omega)) (fun j _ => by rw [hA 3 (by omega) (by omega)]) (fun j _ => by rw [hA 4 (by omega) (by omega)]) (fun j _ => by rw [hA 5 (by omega) (by omega)]) (fun j _ => by rw [hA 6 (by omega) (by omega)]) (fun k k1 k2 => hA k (by omega) (by omega)), mPk_cong a3 (fun q hq => hF q (by omega)) (fun k k1 k2 => hA k (by omega) (by omega)), mSm_cong a4 (hF _ (by omega)) (hA _ (by omega) (by omega)) (hA _ (by omega) (by omega)), mGa_cong a5 (fun q q1 q2 => hF q (by omega)) (hA _ (by omega) (by omega)), mWi_cong a6 (fun q hq => hF q (by omega)) (fun k k1 k2 => hA k (by omega) (by omega))⟩
theorem isM_same (h : isM sh R y) (h1 : ∀ a, y ≤ a → a ≤ y + 38 → sh' a = sh a) (h2 : ∀ q, 1200 ≤ q → R' q y = R q y) : isM sh' R' y := by
  have d : ∀ e, e ∈ mRl → 1200 ≤ e.1 ∧ e.2.1 ≤ 38 := by decide
  refine ⟨by rw [h1 y (by omega) (by omega)]; exact h.1, fun e he => ?_⟩
  obtain ⟨d1, d2⟩ := d e he
  rw [h2 _ d1, h1 _ (by omega) (by omega)]
  exact h.2 e he
theorem XS_frM (h : XS n sh F R A B x ba ma T) (hf : frM (x + 78) F A F' A') : XS n sh F' R A' B x ba ma T := by
  obtain ⟨hx, hX, hTO, hDr, hBk, hPk, hGm, hSm, hWi, hRd⟩ := h
  have hF : ∀ q a, q < 1200 → F' q a = F q a := fun q a hq => hf.1 q a (Or.inl hq)
  have hA : ∀ a, (a < x + 79 ∨ x + 116 < a) → A' a = A a := fun a ha => hf.2 a (by omega)
  refine ⟨hx, hX, ?_, ?_, ?_, ?_, ?_, ?_, ?_, ?_⟩
  · exact xTO_cong hTO (fun a ha => hF _ _ (by omega)) (fun a ha => hA a (by omega))
  · exact xDr_cong hDr (hF _ _ (by omega)) (hF _ _ (by omega)) (fun a ha => hA a (by omega))
  · exact xBk_cong hBk hx (Nat.le_refl _) (fun _ _ => rfl) (fun q a _ hq => rfl) (fun q a _ hq => hF q a (by omega)) (hF _ _ (by omega)) (fun a _ ha => hA a (by omega)) rfl
  · exact xPk_cong hPk (hF _ _ (by omega)) (hF _ _ (by omega)) (hF _ _ (by omega)) (fun a g1 g2 => hA a (by omega))
  · exact xGm_cong hGm (hA _ (by omega)) (hA _ (by omega))
  · exact xSm_cong hSm (fun q hq => hF _ _ (by omega)) (fun a g1 g2 => hF _ _ (by omega)) (hF _ _ (by omega)) (fun a g1 g2 => hA a (by omega))
  · exact xWi_cong hWi (Nat.le_refl _) (fun _ _ => rfl) (fun q a _ hq => rfl) (fun q a _ hq => hF q a (by omega)) (fun q g1 g2 => hF q _ (by omega)) rfl (fun a _ ha => hA a (by omega)) rfl
  · exact xRd_cong hRd (fun a ha => hF _ _ (by omega))
/-- class, reference and script -/
def BS (x b L n : Nat) (xs : Nat → Int32) (sh : hs_) (F : hF_) (R : hR_) (A : hF_) (B : hR_) (T : TT) : Prop := (∃ ba ma, XS n sh F R A B x ba ma T) ∧ isM sh R (x + 78) ∧ MS F A (x + 78) T ∧ ok2 T ∧ (sh b = some (1, 2, L) ∧ b < x ∧ L ≤ 3072) ∧ ∀ j, j < L → A b j = xs j
theorem BS_mid (h : BS x b L n xs sh F R A B T) (fr : frX x n sh F R A n' sh' F' R' A') : isM sh' R' (x + 78) ∧ MS F' A' (x + 78) T ∧ sh' b = some (1, 2, L) ∧ ∀ j, j < L → A' b j = xs j := by
  obtain ⟨⟨ba, ma, hX⟩, hM, hMS, h2, ⟨hs, hb, hL⟩, hxs⟩ := h
  have hx := hX.1
  obtain ⟨f1, f2, f3, f4⟩ := fr
  exact ⟨isM_same hM (fun a a1 a2 => f2 a (by omega)) (fun q hq => (f3 q _ (by omega) hq).2), MS_same hMS h2.1 (fun q hq => (f3 q _ (by omega) hq).1) (fun k k1 k2 => f4 _ (by omega)), by rw [f2 b (by omega)]; exact hs, fun j hj => by rw [f4 b (by omega)]; exact hxs j hj⟩
theorem BS_end (hX : XS n sh F R A B x ba ma T) (hM : isM sh R (x + 78)) (hMS : MS F' A' (x + 78) T) (hf : frM (x + 78) F A F' A') (h2 : ok2 T) (hs : sh b = some (1, 2, L)) (hb : b < x) (hL : L ≤ 3072) (hxs : ∀ j, j < L → A b j = xs j) : BS x b L n xs sh F' R A' B T := ⟨⟨ba, ma, XS_frM hX hf⟩, hM, hMS, h2, ⟨hs, hb, hL⟩, fun j hj => by rw [hf.2 b (by omega)]; exact hxs j hj⟩
end JNT
