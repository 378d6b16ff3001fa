/-! ===== GREEDY, as numbers ===== -/
def lwS (E : Nat → Nat) (wh : Nat → Bool) : Nat → Nat × Nat
  | 0 => (0, 0)
  | q + 1 => if (lwS E wh q).2 < E q - pst E q ∧ wh q = true then (q, E q - pst E q) else lwS E wh q
/-- what greedy takes at i: size and price -/
def gst (lf f : Nat → Int32) (m s c : Nat) (E : Nat → Nat) (rk : Bool) (i : Nat) : Nat × Nat :=
  if rk = true ∧ 0 < (lwS E (whl lf f m E i) c).2 then ((lwS E (whl lf f m E i) c).2, 2 + gm ((lwS E (whl lf f m E i) c).1 + 1))
  else if max (mxf (tol lf f m c E i) s) (mxf (fal lf m i) i) < 3 then (1, 11)
  else (max (mxf (tol lf f m c E i) s) (mxf (fal lf m i) i), 2 + wd (if mxf (tol lf f m c E i) s < mxf (fal lf m i) i then i else s) + gm (max (mxf (tol lf f m c E i) s) (mxf (fal lf m i) i) - 2))
def grN (lf f : Nat → Int32) (m s c : Nat) (E : Nat → Nat) (rk : Bool) : Nat → Nat → Nat
  | 0, _ => 0
  | t + 1, j => if j = m - (t + 1) then (gst lf f m s c E rk j).2 + grN lf f m s c E rk t (j + (gst lf f m s c E rk j).1) else grN lf f m s c E rk t j
theorem mxf_congr {r r' : Nat → Nat} : ∀ p, (∀ j, j < p → r j = r' j) → mxf r p = mxf r' p
  | 0, _ => rfl
  | p + 1, h => by
    unfold mxf
    rw [mxf_congr p (fun j hj => h j (by omega)), h p (by omega)]
section GRN
variable {lf f : Nat → Int32} {m s c : Nat} {E : Nat → Nat} {rk : Bool} {i : Nat}
theorem lwS_lt : ∀ q, 0 < (lwS E (whl lf f m E i) q).2 → (lwS E (whl lf f m E i) q).1 < q ∧ i + (lwS E (whl lf f m E i) q).2 ≤ m
  | 0, h => absurd h (Nat.lt_irrefl 0)
  | q + 1, h => by
    unfold lwS at h ⊢
    split at h
    · rename_i g
      rw [if_pos g]
      have hw := g.2
      unfold whl at hw
      rw [Bool.and_eq_true, decide_eq_true_eq] at hw
      exact ⟨by dsimp only; omega, hw.1⟩
    · rename_i g
      rw [if_neg g]
      have := lwS_lt q h
      exact ⟨by omega, this.2⟩
theorem gst_ok (hi : i < m) (hm : m ≤ 120) (hs : s ≤ 320) (hc : c ≤ 20) : 1 ≤ (gst lf f m s c E rk i).1 ∧ i + (gst lf f m s c E rk i).1 ≤ m ∧ (gst lf f m s c E rk i).2 ≤ 30 := by
  unfold gst
  split
  · rename_i h
    have h1 := lwS_lt c h.2
    have h2 := gm_120 (n := (lwS E (whl lf f m E i) c).1 + 1) (by omega)
    exact ⟨h.2, h1.2, by dsimp only; omega⟩
  · have h1 := mxf_le (rr := tol lf f m c E i) (m := m - i) s (fun _ _ => tol_le)
    have h2 := mxf_le (rr := fal lf m i) (m := m - i) i (fun _ _ => fal_le)
    split
    · exact ⟨Nat.le_refl _, by dsimp only; omega, by dsimp only; omega⟩
    · have h3 := gm_120 (n := max (mxf (tol lf f m c E i) s) (mxf (fal lf m i) i) - 2) (by omega)
      have h4 := wd_le 9 (if mxf (tol lf f m c E i) s < mxf (fal lf m i) i then i else s) (by split <;> omega)
      exact ⟨by dsimp only; omega, by dsimp only; omega, by dsimp only; omega⟩
theorem grN_low {j : Nat} : ∀ t, t ≤ m → (j + t < m ∨ m ≤ j) → grN lf f m s c E rk t j = 0
  | 0, _, _ => rfl
  | t + 1, h, hj => by
    unfold grN
    rw [if_neg (by omega)]
    exact grN_low t (by omega) (by omega)
theorem grN_stab {j t : Nat} (hj : m - t ≤ j) : ∀ d, t + d ≤ m → grN lf f m s c E rk (t + d) j = grN lf f m s c E rk t j
  | 0, _ => rfl
  | d + 1, h => by
    show (if j = m - (t + d + 1) then _ else grN lf f m s c E rk (t + d) j) = _
    rw [if_neg (by omega)]
    exact grN_stab hj d (by omega)
theorem grN_le (hm : m ≤ 120) (hs : s ≤ 320) (hc : c ≤ 20) : ∀ t j, t ≤ m → grN lf f m s c E rk t j ≤ 30 * t
  | 0, _, _ => Nat.le_refl _
  | t + 1, j, h => by
    unfold grN
    have h1 := grN_le hm hs hc t j (by omega)
    split
    · rename_i e
      have h2 := grN_le hm hs hc t (j + (gst lf f m s c E rk j).1) (by omega)
      have h3 := gst_ok (lf := lf) (f := f) (E := E) (rk := rk) (i := j) (m := m) (s := s) (c := c) (by omega) hm hs hc
      omega
    · omega
/-- from a byte on -/
theorem grN_at (hi : i < m) (hm : m ≤ 120) (hs : s ≤ 320) (hc : c ≤ 20) : grN lf f m s c E rk m i = (gst lf f m s c E rk i).2 + grN lf f m s c E rk m (i + (gst lf f m s c E rk i).1) := by
  have h3 := gst_ok (lf := lf) (f := f) (E := E) (rk := rk) (i := i) (m := m) (s := s) (c := c) hi hm hs hc
  have e1 := grN_stab (lf := lf) (f := f) (s := s) (c := c) (E := E) (rk := rk) (m := m) (j := i) (t := m - i) (by omega) i (by omega)
  have e2 := grN_stab (lf := lf) (f := f) (s := s) (c := c) (E := E) (rk := rk) (m := m) (j := i + (gst lf f m s c E rk i).1) (t := m - i - 1) (by omega) (i + 1) (by omega)
  rw [show m - i + i = m by omega] at e1
  rw [show m - i - 1 + (i + 1) = m by omega] at e2
  rw [e1, e2, show m - i = m - i - 1 + 1 by omega]
  show (if i = m - (m - i - 1 + 1) then _ else _) = _
  rw [if_pos (by omega), show m - i - 1 + 1 - 1 = m - i - 1 by omega]
theorem lwN_S {rr : Nat → Nat} (hE : okE E c s) (hi : i < m) (hrr : rr = rowR f lf m s (fun p => ear E p c 0) (m - i)) : ∀ q, q ≤ c → (lwN E rr q).2 = (lwS E (whl lf f m E i) q).2 ∧ (0 < (lwN E rr q).2 → (lwN E rr q).1 = nI (lwS E (whl lf f m E i) q).1)
  | 0, _ => ⟨rfl, fun h => absurd h (Nat.lt_irrefl 0)⟩
  | q + 1, h => by
    obtain ⟨h1, h2⟩ := lwN_S hE hi hrr q (by omega)
    unfold lwN lwS
    by_cases g : (lwN E rr q).2 < E q - pst E q
    · have hw := whl_row (f := f) (lf := lf) (i := i) (m := m) hE (q := q) (by omega) hi (by omega)
      rw [← hrr] at hw
      by_cases g2 : whl lf f m E i q = true
      · rw [if_pos ⟨g, (hw.mpr g2).2⟩, if_pos ⟨by omega, g2⟩]
        exact ⟨rfl, fun _ => rfl⟩
      · rw [if_neg (fun x => g2 (hw.mp ⟨by omega, x.2⟩)), if_neg (fun x => g2 x.2)]
        exact ⟨h1, h2⟩
    · rw [if_neg (fun x => g x.1), if_neg (fun x => g (by omega))]
      exact ⟨h1, h2⟩
theorem gryV_gst {A : hF_} {pk : Nat} {G : Nat → Nat} (hE : okE E c s) (hi : i < m) (hm : m ≤ 120) (hs : s ≤ 320) (hc : c ≤ 20) (hg : ∀ n, 1 ≤ n → n ≤ 120 → A (pk + 8) n = nI (gm n)) (hG : ∀ j, i < j → j ≤ m → A (pk + 1) j = nI (G j)) :
    gryV A pk i s c E (rowR f lf m s (fun p => ear E p c 0) (m - i)) (letR lf m (m - i)) rk = nI ((gst lf f m s c E rk i).2 + G (i + (gst lf f m s c E rk i).1)) := by
  obtain ⟨w1, w2⟩ := lwN_S (lf := lf) (f := f) (i := i) hE hi rfl c (Nat.le_refl _)
  unfold gryV gst
  by_cases c1 : rk = true ∧ 0 < (lwS E (whl lf f m E i) c).2
  · have hl := lwS_lt c c1.2
    rw [if_pos (by rw [w1]; exact c1), if_pos c1, w2 (by rw [w1]; exact c1.2), w1, nI_clamp (by omega), hg _ (by omega) (by omega), hG _ (by omega) (by omega), nI_add, nI_add]
  · have e1 : mxf (rowR f lf m s (fun p => ear E p c 0) (m - i)) s = mxf (tol lf f m c E i) s := mxf_congr s (fun p hp => by
      rw [rowR_tol hE (m - i) p (by omega) hp]
      unfold tol
      rw [show m - (m - i) = i by omega])
    have e2 : mxf (fun p => min (letR lf m (m - i) p) (i - p)) i = mxf (fal lf m i) i := mxf_congr i (fun p hp => by
      rw [letR_fal (m - i) p (by omega), cpl_min]
      unfold fal
      rw [show m - (m - i) = i by omega])
    rw [if_neg (by rw [w1]; exact c1), if_neg c1]
    unfold gryN
    rw [e1, e2]
    have h1 := mxf_le (rr := tol lf f m c E i) (m := m - i) s (fun _ _ => tol_le)
    have h2 := mxf_le (rr := fal lf m i) (m := m - i) i (fun _ _ => fal_le)
    by_cases c2 : max (mxf (tol lf f m c E i) s) (mxf (fal lf m i) i) < 3
    · rw [if_pos c2, if_pos c2, hg 1 (by omega) (by omega), hG (i + 1) (by omega) (by omega), nI_add, nI_add, nI_add]
      rfl
    · rw [if_neg c2, if_neg c2, hg _ (by omega) (by omega), hG _ (by omega) (by omega), nI_add, nI_add, nI_add]
theorem grnA_grN {A : hF_} {pk : Nat} (hE : okE E c s) (hm : m ≤ 120) (hs : s ≤ 320) (hc : c ≤ 20) (hg : ∀ n, 1 ≤ n → n ≤ 120 → A (pk + 8) n = nI (gm n)) (h0 : A (pk + 1) m = nI 0) :
    ∀ t, t ≤ m → ∀ j, m - t ≤ j → j ≤ m → grnA A f lf pk m s c E rk t (pk + 1) j = nI (grN lf f m s c E rk t j)
  | 0, _, j, h1, h2 => by
    have e : j = m := by omega
    subst e
    exact h0
  | t + 1, ht, j, h1, h2 => by
    have ih := grnA_grN (A := A) (pk := pk) hE hm hs hc hg h0 t (by omega)
    show grS (grnA A f lf pk m s c E rk t) f lf pk m s c E rk t (pk + 1) j = nI (if j = m - (t + 1) then _ else _)
    unfold grS
    by_cases e : j = m - (t + 1)
    · subst e
      rw [if_pos rfl, up2_eq]
      have hh := gryV_gst (lf := lf) (f := f) (rk := rk) (i := m - (t + 1)) (A := grF (grnA A f lf pk m s c E rk t) f lf pk m s (fun p => ear E p c 0) t) (pk := pk) (G := grN lf f m s c E rk t) hE (by omega) hm hs hc (fun n g1 g2 => by
        rw [grF_out (by omega), grnA_out (by omega)]
        exact hg n g1 g2) (fun q g1 g2 => by
        rw [grF_out (by omega)]
        exact ih q (by omega) g2)
      rw [show m - (m - (t + 1)) = t + 1 by omega] at hh
      exact hh
    · rw [if_neg e, up2_a e, grF_out (by omega)]
      exact ih j (by omega) h2
end GRN
