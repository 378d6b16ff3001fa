/-! ===== what is written is read again: parts ===== -/
section RW2
variable {b : Nat → Nat} {N m i p : Nat} {L L' : Nat → Nat} {s c : Nat} {E src : Nat → Nat} {rk : Bool}
theorem rpO_W {nn : Nat} (W0 : bv b p 2 = 0) (W1 : Wb b (p + 2) nn (gm nn)) (W2 : ∀ t, t < nn → Wb b (p + 2 + gm nn + 8 * t) (L (i + t)) 8) (hN : p + 2 + gm nn + 8 * nn ≤ N) (hL : ∀ j, j < i → L' j = L j) (h8 : ∀ j, j < m → L j < 256) (h1 : 1 ≤ nn) (h2 : i + nn ≤ m) (hm : m ≤ 120) :
    ∃ L'', rpP b N m (p, 0, 0) i L' s c E src rk = ((p + 2 + gm nn + 8 * nn, 0, 0), i + nn, L'') ∧ ∀ j, j < i + nn → L'' j = L j := by
  obtain ⟨g1, g2, -⟩ := rg_W (N := N) W1 h1 (by omega) (by omega)
  have e : rpP b N m (p, 0, 0) i L' s c E src rk = roL b N nn (p + 2 + gm nn, 0, 0) i L' := by
    unfold rpP
    rw [rdB_z (by omega)]
    dsimp only
    rw [W0]
    unfold rpO
    rw [g1, g2]
    simp only [if_true]
    rw [if_neg (by omega)]
  rw [e]
  exact roL_W nn (p + 2 + gm nn) i L' (fun t ht => ⟨W2 t ht, h8 _ (by omega)⟩) hN hL
theorem rpC_W {nn w q first : Nat} {sr en : Nat → Nat} (W1 : bv b p w = q) (W2 : Wb b (p + w) (nn - 2) (gm (nn - 2))) (hN : p + w + gm (nn - 2) ≤ N) (hL : ∀ j, j < i → L' j = L j) (h3 : 3 ≤ nn) (h2 : i + nn ≤ m) (hm : m ≤ 120) (hen : q + nn ≤ en q) (hsr : ∀ t, t < nn → sr (q + t) = L (i + t)) :
    ∃ L'', rpC b N m (p, 0, 0) i L' first w sr en = ((p + w + gm (nn - 2), 0, 0), i + nn, L'') ∧ ∀ j, j < i + nn → L'' j = L j := by
  obtain ⟨g1, g2, -⟩ := rg_W (N := N) W2 (by omega) (by omega) (by omega)
  have e : rpC b N m (p, 0, 0) i L' first w sr en = ((p + w + gm (nn - 2), 0, 0), i + nn, lcp L' sr i q) := by
    unfold rpC
    rw [rdB_z (by omega), g1, g2]
    dsimp only
    rw [W1, show nn - 2 + 2 = nn by omega]
    simp only [if_true]
    rw [if_neg (by omega)]
  rw [e]
  refine ⟨_, rfl, fun j hj => ?_⟩
  unfold lcp
  by_cases e : j < i
  · rw [if_pos e]; exact hL j e
  · rw [if_neg e, hsr (j - i) (by omega), show i + (j - i) = j by omega]
theorem rpT_W {nn q : Nat} (W0 : bv b p 2 = 1) (W1 : bv b (p + 2) (wd s) = q) (W2 : Wb b (p + 2 + wd s) (nn - 2) (gm (nn - 2))) (hN : p + 2 + wd s + gm (nn - 2) ≤ N) (hL : ∀ j, j < i → L' j = L j) (h3 : 3 ≤ nn) (h2 : i + nn ≤ m) (hm : m ≤ 120) (hen : q + nn ≤ ear E q c 0) (hsr : ∀ t, t < nn → src (q + t) = L (i + t)) :
    ∃ L'', rpP b N m (p, 0, 0) i L' s c E src rk = ((p + 2 + wd s + gm (nn - 2), 0, 0), i + nn, L'') ∧ ∀ j, j < i + nn → L'' j = L j := by
  have e : rpP b N m (p, 0, 0) i L' s c E src rk = rpC b N m (p + 2, 0, 0) i L' p (wd s) src (fun p => ear E p c 0) := by
    unfold rpP
    rw [rdB_z (by omega)]
    dsimp only
    rw [W0]
    simp only [if_true, Nat.one_ne_zero, if_false]
  rw [e]
  exact rpC_W W1 W2 hN hL h3 h2 hm hen hsr
theorem rpF_W {nn q : Nat} (W0 : bv b p 2 = 2) (W1 : bv b (p + 2) (wd i) = q) (W2 : Wb b (p + 2 + wd i) (nn - 2) (gm (nn - 2))) (hN : p + 2 + wd i + gm (nn - 2) ≤ N) (hL : ∀ j, j < i → L' j = L j) (h3 : 3 ≤ nn) (h2 : i + nn ≤ m) (hm : m ≤ 120) (hen : q + nn ≤ i) (hsr : ∀ t, t < nn → L' (q + t) = L (i + t)) :
    ∃ L'', rpP b N m (p, 0, 0) i L' s c E src rk = ((p + 2 + wd i + gm (nn - 2), 0, 0), i + nn, L'') ∧ ∀ j, j < i + nn → L'' j = L j := by
  have e : rpP b N m (p, 0, 0) i L' s c E src rk = rpC b N m (p + 2, 0, 0) i L' p (wd i) L' (fun _ => i) := by
    unfold rpP
    rw [rdB_z (by omega)]
    dsimp only
    rw [W0]
    simp only [if_true, eq_false (show ¬ (2 : Nat) = 0 by decide), eq_false (show ¬ (2 : Nat) = 1 by decide), eq_false (show ¬ (3 : Nat) = 0 by decide), eq_false (show ¬ (3 : Nat) = 1 by decide), eq_false (show ¬ (3 : Nat) = 2 by decide), if_false]
  rw [e]
  exact rpC_W W1 W2 hN hL h3 h2 hm hen hsr
theorem rpW_W {q : Nat} (W0 : bv b p 2 = 3) (W1 : Wb b (p + 2) (q + 1) (gm (q + 1))) (hN : p + 2 + gm (q + 1) ≤ N) (hL : ∀ j, j < i → L' j = L j) (hq : q < c) (hc : c ≤ 20) (hrk : rk = true) (h2 : i + (E q - pst E q) ≤ m) (hsr : ∀ t, t < E q - pst E q → src (pst E q + t) = L (i + t)) :
    ∃ L'', rpP b N m (p, 0, 0) i L' s c E src rk = ((p + 2 + gm (q + 1), 0, 0), i + (E q - pst E q), L'') ∧ ∀ j, j < i + (E q - pst E q) → L'' j = L j := by
  obtain ⟨g1, g2, -⟩ := rg_W (N := N) W1 (by omega) (by omega) (by omega)
  have e : rpP b N m (p, 0, 0) i L' s c E src rk = ((p + 2 + gm (q + 1), 0, 0), i + (E q - pst E q), lcp L' src i (pst E q)) := by
    unfold rpP
    rw [rdB_z (by omega)]
    dsimp only
    rw [W0]
    unfold rpW
    rw [g1, g2, hrk, Nat.add_sub_cancel]
    simp only [if_true, eq_false (show ¬ (2 : Nat) = 0 by decide), eq_false (show ¬ (2 : Nat) = 1 by decide), eq_false (show ¬ (3 : Nat) = 0 by decide), eq_false (show ¬ (3 : Nat) = 1 by decide), eq_false (show ¬ (3 : Nat) = 2 by decide), if_false]
    rw [if_neg (by omega)]
  rw [e]
  refine ⟨_, rfl, fun j hj => ?_⟩
  unfold lcp
  by_cases e : j < i
  · rw [if_pos e]; exact hL j e
  · rw [if_neg e, hsr (j - i) (by omega), show i + (j - i) = j by omega]
end RW2
