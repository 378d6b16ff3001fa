/-! ===== LEAST: runs; what holds of a part ===== -/
theorem cpl_front {f g : Nat → Int32} {m : Nat} : cpl f g (m + 1) = if f 0 = g 0 then cpl (fun j => f (j + 1)) (fun j => g (j + 1)) m + 1 else 0 := by
  have hl := cpl_le (f := fun j => f (j + 1)) (g := fun j => g (j + 1)) m
  split
  · rename_i h
    refine cpl_uniq (by omega) (fun j hj => ?_) (fun hlt => ?_)
    · cases j with
      | zero => exact h
      | succ j => exact cpl_eq (f := fun j => f (j + 1)) (g := fun j => g (j + 1)) m j (by omega)
    · exact cpl_ne (f := fun j => f (j + 1)) (g := fun j => g (j + 1)) m (by omega)
  · rename_i h
    exact cpl_uniq (by omega) (fun j hj => absurd hj (by omega)) (fun _ => h)
theorem cpl_min {f g : Nat → Int32} {a b : Nat} : min (cpl f g a) b = cpl f g (min a b) := by
  have hl := cpl_le (f := f) (g := g) a
  symm
  refine cpl_uniq (by omega) (fun j hj => cpl_eq a j (by omega)) (fun hlt => ?_)
  rw [show min (cpl f g a) b = cpl f g a by omega]
  exact cpl_ne a (by omega)
theorem cpl_congr {f g f' g' : Nat → Int32} {m : Nat} (h1 : ∀ j, j < m → f j = f' j) (h2 : ∀ j, j < m → g j = g' j) : cpl f g m = cpl f' g' m := by
  have hl := cpl_le (f := f') (g := g') m
  refine cpl_uniq hl (fun j hj => ?_) (fun hlt => ?_)
  · rw [h1 j (by omega), h2 j (by omega)]
    exact cpl_eq m j hj
  · rw [h1 _ hlt, h2 _ hlt]
    exact cpl_ne m hlt
theorem cpl_full {f g : Nat → Int32} {m : Nat} : cpl f g m = m ↔ ∀ j, j < m → f j = g j :=
  ⟨fun h j hj => cpl_eq m j (by omega), fun h => cpl_uniq (Nat.le_refl m) h (fun q => absurd q (Nat.lt_irrefl m))⟩
theorem ear_ex {E : Nat → Nat} {c s p : Nat} (hE : okE E c s) (hp : p < s) : ∃ q, q < c ∧ pst E q ≤ p ∧ p < E q ∧ ear E p c 0 = E q := by
  have h : ∀ d i, i + d = c → pst E i ≤ p → ∃ q, i ≤ q ∧ q < c ∧ pst E q ≤ p ∧ p < E q := by
    intro d
    induction d with
    | zero =>
      intro i hi hle
      have e : i = c := by omega
      subst e
      rw [hE.2] at hle
      omega
    | succ d ih =>
      intro i hi hle
      by_cases g : p < E i
      · exact ⟨i, Nat.le_refl _, by omega, hle, g⟩
      · obtain ⟨q, q1, q2⟩ := ih (i + 1) (by omega) (by show E i ≤ p; omega)
        exact ⟨q, by omega, q2⟩
  obtain ⟨q, _, q1, q2, q3⟩ := h c 0 (by omega) (Nat.zero_le _)
  exact ⟨q, q1, q2, q3, ear_at hE q1 q2 q3 c 0 (by omega) (Nat.zero_le _)⟩
theorem rowR_tol {f lf : Nat → Int32} {m s c : Nat} {E : Nat → Nat} (hE : okE E c s) : ∀ t p, t ≤ m → p < s → rowR f lf m s (fun p => ear E p c 0) t p = cpl (fun j => lf (m - t + j)) (fun j => f (p + j)) (min t (ear E p c 0 - p))
  | 0, p, _, _ => by rw [Nat.zero_min]; rfl
  | t + 1, p, ht, hp => by
    obtain ⟨q, q1, q2, q3, q4⟩ := ear_ex hE hp
    have hle := ear_le hE (p := p) c 0 (by omega)
    unfold rowR nrr
    rw [if_pos hp]
    dsimp only
    rw [q4] at hle
    simp only [q4]
    rw [show min (t + 1) (E q - p) = min t (E q - p - 1) + 1 by omega, cpl_front]
    simp only [Nat.add_zero]
    by_cases c1 : f p = lf (m - (t + 1))
    · rw [if_pos c1, if_pos c1.symm]
      by_cases c2 : p + 1 < E q
      · have e2 : ear E (p + 1) c 0 = E q := ear_at hE q1 (by omega) c2 c 0 (by omega) (Nat.zero_le _)
        rw [if_pos c2, rowR_tol hE t (p + 1) (by omega) (by omega), e2, show E q - (p + 1) = E q - p - 1 by omega]
        congr 1
        refine cpl_congr (fun j _ => ?_) (fun j _ => ?_)
        · rw [show m - t + j = m - (t + 1) + (j + 1) by omega]
        · rw [show p + 1 + j = p + (j + 1) by omega]
      · rw [if_neg c2, show min t (E q - p - 1) = 0 by omega]
        rfl
    · rw [if_neg c1, if_neg (fun x => c1 x.symm)]
theorem letR_fal {lf : Nat → Int32} {m : Nat} : ∀ t p, t ≤ m → letR lf m t p = cpl (fun j => lf (m - t + j)) (fun j => lf (p + j)) t
  | 0, p, _ => rfl
  | t + 1, p, ht => by
    unfold letR nlr
    rw [cpl_front]
    simp only [Nat.add_zero]
    by_cases c1 : lf p = lf (m - (t + 1))
    · rw [if_pos c1, if_pos c1.symm, letR_fal t (p + 1) (by omega)]
      congr 1
      refine cpl_congr (fun j _ => ?_) (fun j _ => ?_)
      · rw [show m - t + j = m - (t + 1) + (j + 1) by omega]
      · rw [show p + 1 + j = p + (j + 1) by omega]
    · rw [if_neg c1, if_neg (fun x => c1 x.symm)]
theorem tol_le {lf f : Nat → Int32} {m c : Nat} {E : Nat → Nat} {i p : Nat} : tol lf f m c E i p ≤ m - i := Nat.le_trans (cpl_le _) (Nat.min_le_left _ _)
theorem fal_le {lf : Nat → Int32} {m i p : Nat} : fal lf m i p ≤ m - i := Nat.le_trans (cpl_le _) (Nat.min_le_left _ _)
/-- what the class asks of a whole -/
theorem whl_row {f lf : Nat → Int32} {m s c i q : Nat} {E : Nat → Nat} (hE : okE E c s) (hq : q < c) (hi : i < m) (hn : 0 < E q - pst E q) : (0 < E q - pst E q ∧ rowR f lf m s (fun p => ear E p c 0) (m - i) (pst E q) = E q - pst E q) ↔ whl lf f m E i q = true := by
  have h1 := hE.E_le hq
  have h2 : ear E (pst E q) c 0 = E q := ear_at hE hq (Nat.le_refl _) (by omega) c 0 (by omega) (Nat.zero_le _)
  rw [rowR_tol hE (m - i) _ (by omega) (by omega), h2, show m - (m - i) = i by omega]
  unfold whl
  rw [Bool.and_eq_true, decide_eq_true_eq, decide_eq_true_eq]
  have h3 := cpl_le (f := fun j => lf (i + j)) (g := fun j => f (pst E q + j)) (min (m - i) (E q - pst E q))
  constructor
  · rintro ⟨_, h⟩
    refine ⟨by omega, ?_⟩
    rw [show min (m - i) (E q - pst E q) = E q - pst E q by omega] at h
    exact h
  · rintro ⟨g1, g2⟩
    refine ⟨hn, ?_⟩
    rw [show min (m - i) (E q - pst E q) = E q - pst E q by omega]
    exact g2
/-- a part that can be, with what it costs -/
def okO (lf f : Nat → Int32) (m s c : Nat) (E : Nat → Nat) (rk : Bool) (P T : Nat → Nat) (i : Nat) (o : o5) : Prop :=
  (1 ≤ o.2.2.2.2 ∧ i + o.2.2.2.2 ≤ m) ∧ o.1 = ptW o.2.2.1 o.2.2.2.1.toNatClampNeg o.2.2.2.2 i s + P (i + o.2.2.2.2) ∧ o.2.1 = 1 + T (i + o.2.2.2.2) ∧
  ((o.2.2.1 = 0 ∧ o.2.2.2.1 = -1) ∨ (o.2.2.1 = 1 ∧ ∃ p, p < s ∧ o.2.2.2.1 = nI p ∧ 3 ≤ o.2.2.2.2 ∧ o.2.2.2.2 ≤ tol lf f m c E i p) ∨ (o.2.2.1 = 2 ∧ ∃ p, p < i ∧ o.2.2.2.1 = nI p ∧ 3 ≤ o.2.2.2.2 ∧ o.2.2.2.2 ≤ fal lf m i p) ∨ (o.2.2.1 = 3 ∧ rk = true ∧ ∃ q, q < c ∧ o.2.2.2.1 = nI q ∧ whl lf f m E i q = true ∧ o.2.2.2.2 = E q - pst E q))
section OKO
variable {lf f : Nat → Int32} {m s c : Nat} {E : Nat → Nat} {rk : Bool} {P T : Nat → Nat} {i : Nat} {cur : o5}
theorem okO_ofr {kd n bits : Nat} {pl : Int32} (h : okO lf f m s c E rk P T i cur) (h2 : okO lf f m s c E rk P T i (bits + P (i + n), 1 + T (i + n), kd, pl, n)) : okO lf f m s c E rk P T i (ofr P T i cur kd pl n bits) := by
  unfold ofr
  split
  · exact h2
  · exact h
theorem okO_own (hi : i < m) : ∀ d, i + d + 1 ≤ m → okO lf f m s c E rk P T i (ownS P T i d)
  | 0, _ => ⟨⟨Nat.le_refl _, by show i + 1 ≤ m; omega⟩, rfl, rfl, Or.inl ⟨rfl, rfl⟩⟩
  | d + 1, h => okO_ofr (okO_own hi d (by omega)) ⟨⟨by dsimp only; omega, by dsimp only; omega⟩, rfl, rfl, Or.inl ⟨rfl, rfl⟩⟩
theorem okO_cin1 {p n0 : Nat} (hp : p < s) (hs : s < 2 ^ 31) (hn : 3 ≤ n0) (h : okO lf f m s c E rk P T i cur) (hi : i < m) : ∀ d, n0 + d ≤ tol lf f m c E i p + 1 → okO lf f m s c E rk P T i (cinS P T i 1 (nI p) (2 + wd s) n0 cur d)
  | 0, _ => h
  | d + 1, hd => by
    have hl := tol_le (lf := lf) (f := f) (m := m) (c := c) (E := E) (i := i) (p := p)
    refine okO_ofr (okO_cin1 hp hs hn h hi d (by omega)) ⟨⟨by dsimp only; omega, by dsimp only; omega⟩, ?_, rfl, Or.inr (Or.inl ⟨rfl, p, hp, rfl, by dsimp only; omega, by dsimp only; omega⟩)⟩
    dsimp only
    unfold ptW
    rw [if_neg (by decide), if_pos rfl]
theorem okO_cin2 {p n0 : Nat} (hp : p < i) (hs : m < 2 ^ 31) (hn : 3 ≤ n0) (h : okO lf f m s c E rk P T i cur) (hi : i < m) : ∀ d, n0 + d ≤ fal lf m i p + 1 → okO lf f m s c E rk P T i (cinS P T i 2 (nI p) (2 + wd i) n0 cur d)
  | 0, _ => h
  | d + 1, hd => by
    have hl := fal_le (lf := lf) (m := m) (i := i) (p := p)
    refine okO_ofr (okO_cin2 hp hs hn h hi d (by omega)) ⟨⟨by dsimp only; omega, by dsimp only; omega⟩, ?_, rfl, Or.inr (Or.inr (Or.inl ⟨rfl, p, hp, rfl, by dsimp only; omega, by dsimp only; omega⟩))⟩
    dsimp only
    unfold ptW
    rw [if_neg (by decide), if_neg (by decide), if_pos rfl]
theorem okO_cop1 (hs : s < 2 ^ 31) (h : okO lf f m s c E rk P T i cur) (hi : i < m) : ∀ p, p ≤ s → okO lf f m s c E rk P T i (copM P T i 1 (2 + wd s) (tol lf f m c E i) cur p)
  | 0, _ => h
  | p + 1, hp => by
    unfold copM
    by_cases c1 : 3 ≤ tol lf f m c E i p
    · exact okO_cin1 hp hs (Nat.le_refl _) (okO_cop1 hs h hi p (by omega)) hi _ (by omega)
    · rw [show tol lf f m c E i p - 2 = 0 by omega]
      exact okO_cop1 hs h hi p (by omega)
theorem okO_cop2 (hs : m < 2 ^ 31) (h : okO lf f m s c E rk P T i cur) (hi : i < m) : ∀ p, p ≤ i → okO lf f m s c E rk P T i (copM P T i 2 (2 + wd i) (fal lf m i) cur p)
  | 0, _ => h
  | p + 1, hp => by
    unfold copM
    by_cases c1 : 3 ≤ fal lf m i p
    · exact okO_cin2 hp hs (Nat.le_refl _) (okO_cop2 hs h hi p (by omega)) hi _ (by omega)
    · rw [show fal lf m i p - 2 = 0 by omega]
      exact okO_cop2 hs h hi p (by omega)
theorem okO_who (hrk : rk = true) (hne : ∀ q, q < c → 0 < E q - pst E q) (hc : c < 2 ^ 31) (h : okO lf f m s c E rk P T i cur) : ∀ q, q ≤ c → okO lf f m s c E rk P T i (whoS P T i E (whl lf f m E i) cur q)
  | 0, _ => h
  | q + 1, hq => by
    unfold whoS
    have ih := okO_who hrk hne hc h q (by omega)
    split
    · rename_i hw
      have hw2 := hw
      unfold whl at hw2
      rw [Bool.and_eq_true, decide_eq_true_eq] at hw2
      refine okO_ofr ih ⟨⟨by dsimp only; exact hne q (by omega), hw2.1⟩, ?_, rfl, Or.inr (Or.inr (Or.inr ⟨rfl, hrk, q, by omega, rfl, hw, rfl⟩))⟩
      dsimp only
      unfold ptW
      rw [if_neg (by decide), if_neg (by decide), if_neg (by decide), nI_clamp (by omega)]
    · exact ih
theorem okO_stg (hi : i < m) (hs : s < 2 ^ 31) (hm : m < 2 ^ 31) (hc : c < 2 ^ 31) (hne : rk = true → ∀ q, q < c → 0 < E q - pst E q) : okO lf f m s c E rk P T i (stg lf f m s c E rk P T i) := by
  have h1 : okO lf f m s c E rk P T i (copM P T i 2 (2 + wd i) (fal lf m i) (copM P T i 1 (2 + wd s) (tol lf f m c E i) (ownS P T i (m - i - 1)) s) i) := okO_cop2 hm (okO_cop1 hs (okO_own hi _ (by omega)) hi s (Nat.le_refl _)) hi i (Nat.le_refl _)
  unfold stg
  split
  · rename_i hrk
    exact okO_who hrk (hne hrk) hc h1 c (Nat.le_refl _)
  · exact h1
end OKO
