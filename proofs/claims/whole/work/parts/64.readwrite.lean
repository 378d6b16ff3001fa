/-! ===== what is written is read again ===== -/
theorem b2_mul {b : Bool} {w : Nat} : b2 b w = w * b2 b 1 := by
  cases b <;> simp [b2]
theorem b2_le1 {b : Bool} : b2 b 1 ≤ 1 := by
  cases b <;> simp [b2]
theorem bof_byt {bt : Nat → Bool} {j : Nat} : bof (byt bt) j = b2 (bt j) 1 := by
  unfold bof byt
  obtain ⟨q, r, hr, e⟩ : ∃ q r, r < 8 ∧ j = 8 * q + r := ⟨j / 8, j % 8, by omega, by omega⟩
  have e1 : j / 8 = q := by omega
  have e2 : j % 8 = r := by omega
  rw [e1, e2, e]
  rw [b2_mul (w := 128), b2_mul (w := 64), b2_mul (w := 32), b2_mul (w := 16), b2_mul (w := 8), b2_mul (w := 4), b2_mul (w := 2)]
  have l0 := b2_le1 (b := bt (8 * q))
  have l1 := b2_le1 (b := bt (8 * q + 1))
  have l2 := b2_le1 (b := bt (8 * q + 2))
  have l3 := b2_le1 (b := bt (8 * q + 3))
  have l4 := b2_le1 (b := bt (8 * q + 4))
  have l5 := b2_le1 (b := bt (8 * q + 5))
  have l6 := b2_le1 (b := bt (8 * q + 6))
  have l7 := b2_le1 (b := bt (8 * q + 7))
  match r, hr with
  | 0, _ =>
    rw [show 2 ^ (7 - 0) = 128 from rfl]
    show _ = b2 (bt (8 * q)) 1
    omega
  | 1, _ =>
    rw [show 2 ^ (7 - 1) = 64 from rfl]
    omega
  | 2, _ =>
    rw [show 2 ^ (7 - 2) = 32 from rfl]
    omega
  | 3, _ =>
    rw [show 2 ^ (7 - 3) = 16 from rfl]
    omega
  | 4, _ =>
    rw [show 2 ^ (7 - 4) = 8 from rfl]
    omega
  | 5, _ =>
    rw [show 2 ^ (7 - 5) = 4 from rfl]
    omega
  | 6, _ =>
    rw [show 2 ^ (7 - 6) = 2 from rfl]
    omega
  | 7, _ =>
    rw [show 2 ^ (7 - 7) = 1 from rfl]
    omega
/-- nb bits of a from p on -/
def Wb (b : Nat → Nat) (p a nb : Nat) : Prop := ∀ j, j < nb → b (p + j) = a / 2 ^ (nb - 1 - j) % 2
theorem bv_W {b : Nat → Nat} {p a nb : Nat} (h : Wb b p a nb) : ∀ k, k ≤ nb → bv b p k = a / 2 ^ (nb - k) % 2 ^ k
  | 0, _ => by
    rw [Nat.pow_zero, Nat.mod_one]
    rfl
  | k + 1, hk => by
    unfold bv
    rw [bv_W h k (by omega), h k (by omega), show nb - k = nb - 1 - k + 1 by omega, show nb - (k + 1) = nb - 1 - k by omega, Nat.pow_succ 2 (nb - 1 - k), ← Nat.div_div_eq_div_mul, Nat.pow_succ 2 k, Nat.mul_comm (2 ^ k) 2, Nat.mod_mul]
    omega
theorem bv_full {b : Nat → Nat} {p a nb : Nat} (h : Wb b p a nb) (ha : a < 2 ^ nb) : bv b p nb = a := by
  rw [bv_W h nb (Nat.le_refl _), Nat.sub_self, Nat.pow_zero, Nat.div_one, Nat.mod_eq_of_lt ha]
theorem wd_b {a : Nat} (h : 0 < a) : 2 ^ (wd a - 1) ≤ a ∧ a < 2 ^ wd a ∧ 1 ≤ wd a := by
  unfold wd
  rw [if_neg (by omega)]
  exact ⟨Nat.log2_self_le (by omega), Nat.lt_log2_self, by omega⟩
theorem wd_lt {a s : Nat} (h : a < s) : a < 2 ^ wd s := by
  have := (wd_b (a := s) (by omega)).2.1
  omega
theorem rdB_z {p nb N : Nat} (h : p + nb ≤ N) : rdB (p, 0, 0) nb N = (p + nb, 0, 0) := by
  have : ¬ rdX (p, 0, 0) nb N = true := by
    unfold rdX
    simp
    omega
  unfold rdB
  rw [if_neg this]
theorem rdX_z {p nb N : Nat} (h : p + nb ≤ N) : ¬ rdX (p, 0, 0) nb N = true := by
  unfold rdX
  simp
  omega
theorem bv_1 {b : Nat → Nat} {p : Nat} : bv b p 1 = b p := by
  show 2 * 0 + b (p + 0) = b p
  rw [Nat.add_zero]
  omega
theorem rgL_W {b : Nat → Nat} {N first p a : Nat} (h : Wb b p a (gm a)) (h1 : 1 ≤ a) (h2 : a < 256) (hN : p + gm a ≤ N) : ∀ e z, z + e + 1 = wd a → rgL b N first (8 - z) z (p + z, 0, 0) = (nI a, (p + gm a, 0, 0)) := by
  obtain ⟨w1, w2, w3⟩ := wd_b (a := a) (by omega)
  have w8 := wd_le 8 a h2
  have hg : gm a = 2 * wd a - 1 := rfl
  intro e
  induction e with
  | zero =>
    intro z hz
    rw [show 8 - z = 7 - z + 1 by omega]
    unfold rgL
    have hb : b (p + z) = 1 := by
      rw [h z (by omega), show gm a - 1 - z = wd a - 1 by omega]
      have : a / 2 ^ (wd a - 1) = 1 := by
        have e2 : 2 ^ wd a = 2 ^ (wd a - 1) * 2 := by rw [← Nat.pow_succ, show (wd a - 1).succ = wd a by omega]
        rw [e2] at w2
        exact Nat.div_eq_of_lt_le (by omega) (by omega)
      rw [this]
    rw [if_neg (rdX_z (by omega)), bv_1, if_pos hb, rdB_z (by omega), if_neg (rdX_z (by omega)), rdB_z (by omega)]
    have hW : Wb b (p + z + 1) a z := by
      intro j hj
      have := h (z + 1 + j) (by omega)
      rw [show p + z + 1 + j = p + (z + 1 + j) by omega, this, show gm a - 1 - (z + 1 + j) = z - 1 - j by omega]
    have e3 := bv_W hW z (Nat.le_refl _)
    rw [Nat.sub_self, Nat.pow_zero, Nat.div_one] at e3
    have e4 : 2 ^ z + a % 2 ^ z = a := by
      have e5 : wd a - 1 = z := by omega
      have e6 : 2 ^ wd a = 2 ^ z * 2 := by rw [← Nat.pow_succ, show z.succ = wd a by omega]
      rw [e5] at w1
      rw [e6] at w2
      have e7 : a / 2 ^ z = 1 := Nat.div_eq_of_lt_le (by omega) (by omega)
      have e8 := Nat.div_add_mod a (2 ^ z)
      rw [e7, Nat.mul_one] at e8
      exact e8
    dsimp only
    rw [e3, e4, show p + z + 1 + z = p + gm a by omega]
  | succ e ih =>
    intro z hz
    rw [show 8 - z = 7 - z + 1 by omega]
    unfold rgL
    have hb : b (p + z) = 0 := by
      rw [h z (by omega)]
      have : a / 2 ^ (gm a - 1 - z) = 0 := by
        refine Nat.div_eq_of_lt (Nat.lt_of_lt_of_le w2 (Nat.pow_le_pow_right (by omega) (by omega)))
      rw [this]
    rw [if_neg (rdX_z (by omega)), bv_1, if_neg (show ¬ b (p + z) = 1 by omega), rdB_z (by omega), show 7 - z = 8 - (z + 1) by omega]
    exact ih (z + 1) (by omega)
theorem rg_W {b : Nat → Nat} {N p a : Nat} (h : Wb b p a (gm a)) (h1 : 1 ≤ a) (h2 : a < 256) (hN : p + gm a ≤ N) : rgS b N (p, 0, 0) = (p + gm a, 0, 0) ∧ rgV b N (p, 0, 0) = a ∧ rgL b N p 8 0 (p, 0, 0) = (nI a, (p + gm a, 0, 0)) := by
  obtain ⟨w1, w2, w3⟩ := wd_b (a := a) (by omega)
  have := rgL_W (first := p) h h1 h2 hN (wd a - 1) 0 (by omega)
  have e : rgL b N p 8 0 (p, 0, 0) = (nI a, (p + gm a, 0, 0)) := this
  unfold rgS rgV
  dsimp only
  rw [e]
  exact ⟨rfl, nI_clamp (by omega), rfl⟩
theorem roL_W {b : Nat → Nat} {N : Nat} {L : Nat → Nat} : ∀ d q i L', (∀ t, t < d → Wb b (q + 8 * t) (L (i + t)) 8 ∧ L (i + t) < 256) → q + 8 * d ≤ N → (∀ j, j < i → L' j = L j) → ∃ L'', roL b N d (q, 0, 0) i L' = ((q + 8 * d, 0, 0), i + d, L'') ∧ ∀ j, j < i + d → L'' j = L j
  | 0, q, i, L', _, _, hL => ⟨L', rfl, hL⟩
  | d + 1, q, i, L', hW, hN, hL => by
    unfold roL
    rw [if_pos rfl, if_neg (rdX_z (by omega)), rdB_z (by omega)]
    obtain ⟨w1, w2⟩ := hW 0 (by omega)
    rw [Nat.mul_zero, Nat.add_zero, Nat.add_zero] at w1
    rw [Nat.add_zero] at w2
    have e1 := bv_full w1 (by omega)
    obtain ⟨L2, h1, h2⟩ := roL_W (b := b) (N := N) (L := L) d (q + 8) (i + 1) (fun j => if j = i then bv b q 8 else L' j) (fun t ht => by
      have := hW (t + 1) (by omega)
      rw [show q + 8 * (t + 1) = q + 8 + 8 * t by omega, show i + (t + 1) = i + 1 + t by omega] at this
      exact this) (by omega) (fun j hj => by
      show (if j = i then bv b q 8 else L' j) = L j
      by_cases c : j = i
      · rw [if_pos c, e1, c]
      · rw [if_neg c]
        exact hL j (by omega))
    exact ⟨L2, by rw [show q + 8 * (d + 1) = q + 8 + 8 * d by omega, show i + (d + 1) = i + 1 + d by omega]; exact h1, fun j hj => h2 j (by omega)⟩
/-- later bits leave the earlier ones -/
def exW (st S : wst) : Prop := st.2 ≤ S.2 ∧ ∀ j, j < st.2 → S.1 j = st.1 j
theorem exW_refl {st : wst} : exW st st := ⟨Nat.le_refl _, fun _ _ => rfl⟩
theorem exW_trans {a b c : wst} (h1 : exW a b) (h2 : exW b c) : exW a c := ⟨Nat.le_trans h1.1 h2.1, fun j hj => by rw [h2.2 j (by have := h1.1; omega), h1.2 j hj]⟩
theorem exW_wS {st : wst} {a nb : Nat} : exW st (wS st a nb) := ⟨Nat.le_add_right _ _, fun j hj => wb_out nb nb (Or.inl hj)⟩
theorem exW_pbS {st : wst} {bl : Nat → Nat} {p : Nat} : ∀ i, exW st (pbS st bl p i)
  | 0 => exW_refl
  | i + 1 => exW_trans (exW_pbS i) exW_wS
theorem exW_pb {st : wst} {bl : Nat → Nat} {p : Nat} {i : Nat} : ∀ d, exW (pbS st bl p i) (pbS st bl p (i + d))
  | 0 => exW_refl
  | d + 1 => exW_trans (exW_pb d) exW_wS
theorem exW_ptS {st : wst} {kd p nn at_ s : Nat} {bl : Nat → Nat} : exW st (ptS st kd p nn at_ s bl) := by
  unfold ptS
  split
  · exact exW_trans (exW_trans exW_wS exW_wS) (exW_pbS _)
  · split
    · exact exW_trans (exW_trans exW_wS exW_wS) exW_wS
    · split
      · exact exW_trans (exW_trans exW_wS exW_wS) exW_wS
      · exact exW_trans exW_wS exW_wS
theorem exW_wrL {kd pp ln bl : Nat → Nat} {s m : Nat} : ∀ d i st, exW st (wrL kd pp ln bl s m d i st)
  | 0, _, _ => exW_refl
  | d + 1, i, st => by
    unfold wrL
    split
    · exact exW_trans exW_ptS (exW_wrL d _ _)
    · exact exW_refl
theorem wb_in {bt : Nat → Bool} {w a nb i : Nat} : ∀ j, i < j → wb bt w a j nb (w + i) = decide (a / 2 ^ (nb - 1 - i) % 2 = 1)
  | 0, h => absurd h (Nat.not_lt_zero _)
  | j + 1, h => by
    unfold wb
    by_cases e : i = j
    · subst e
      unfold sb
      rw [if_pos rfl]
    · rw [sb_ne (by omega), wb_in j (by omega)]
theorem W_of {st S : wst} {a nb : Nat} (h : exW (wS st a nb) S) : Wb (bof (byt S.1)) st.2 a nb := by
  intro j hj
  rw [bof_byt, h.2 (st.2 + j) (by show st.2 + j < st.2 + nb; omega)]
  show b2 (wb st.1 st.2 a nb nb (st.2 + j)) 1 = _
  rw [wb_in nb hj]
  have h2 : a / 2 ^ (nb - 1 - j) % 2 < 2 := Nat.mod_lt _ (by omega)
  by_cases c : a / 2 ^ (nb - 1 - j) % 2 = 1
  · rw [decide_eq_true c, c]
    rfl
  · rw [decide_eq_false c]
    show 0 = _
    omega
