/-! ===== the writer: bits ===== -/
def b2 (b : Bool) (x : Nat) : Nat := if b = true then x else 0
/-- the byte of eight bits -/
def byt (bt : Nat → Bool) (q : Nat) : Nat := b2 (bt (8 * q)) 128 + b2 (bt (8 * q + 1)) 64 + b2 (bt (8 * q + 2)) 32 + b2 (bt (8 * q + 3)) 16 + b2 (bt (8 * q + 4)) 8 + b2 (bt (8 * q + 5)) 4 + b2 (bt (8 * q + 6)) 2 + b2 (bt (8 * q + 7)) 1
theorem b2_le {b : Bool} {x : Nat} : b2 b x ≤ x := by
  unfold b2
  split <;> omega
theorem byt_lt {bt : Nat → Bool} {q : Nat} : byt bt q < 256 := by
  unfold byt
  have h0 := b2_le (b := bt (8 * q)) (x := 128)
  have h1 := b2_le (b := bt (8 * q + 1)) (x := 64)
  have h2 := b2_le (b := bt (8 * q + 2)) (x := 32)
  have h3 := b2_le (b := bt (8 * q + 3)) (x := 16)
  have h4 := b2_le (b := bt (8 * q + 4)) (x := 8)
  have h5 := b2_le (b := bt (8 * q + 5)) (x := 4)
  have h6 := b2_le (b := bt (8 * q + 6)) (x := 2)
  have h7 := b2_le (b := bt (8 * q + 7)) (x := 1)
  omega
/-- one bit more -/
def sb (bt : Nat → Bool) (w : Nat) (b : Bool) : Nat → Bool := fun j => if j = w then b else bt j
theorem sb_eq {bt : Nat → Bool} {w : Nat} {b : Bool} : sb bt w b w = b := by simp [sb]
theorem sb_ne {bt : Nat → Bool} {w j : Nat} {b : Bool} (h : j ≠ w) : sb bt w b j = bt j := by simp [sb, h]
theorem byt_ne {bt : Nat → Bool} {w q : Nat} {b : Bool} (h : q ≠ w / 8) : byt (sb bt w b) q = byt bt q := by
  unfold byt
  rw [sb_ne (by omega), sb_ne (by omega), sb_ne (by omega), sb_ne (by omega), sb_ne (by omega), sb_ne (by omega), sb_ne (by omega), sb_ne (by omega)]
theorem byt_false {bt : Nat → Bool} {w : Nat} (hb : bt w = false) : sb bt w false = bt := by
  funext j
  unfold sb
  split
  · rename_i h; rw [h, hb]
  · rfl
theorem byt_zero {bt : Nat → Bool} {q : Nat} (h : ∀ j, 8 * q ≤ j → bt j = false) : byt bt q = 0 := by
  unfold byt
  simp [h, b2]
theorem byt_true {bt : Nat → Bool} {w : Nat} (h : ∀ j, w ≤ j → bt j = false) : byt (sb bt w true) (w / 8) = byt bt (w / 8) + 2 ^ (7 - w % 8) ∧ byt bt (w / 8) % 2 ^ (8 - w % 8) = 0 := by
  have hw : w = 8 * (w / 8) + w % 8 := by omega
  have ht : w % 8 < 8 := Nat.mod_lt _ (by omega)
  generalize w / 8 = q at *
  generalize w % 8 = t at *
  subst hw
  have hz : ∀ s, t ≤ s → bt (8 * q + s) = false := fun s hs => h _ (by omega)
  unfold byt
  rcases (by omega : t = 0 ∨ t = 1 ∨ t = 2 ∨ t = 3 ∨ t = 4 ∨ t = 5 ∨ t = 6 ∨ t = 7) with rfl | rfl | rfl | rfl | rfl | rfl | rfl | rfl
  · have z0 := hz 0 (by omega); have z1 := hz 1 (by omega); have z2 := hz 2 (by omega); have z3 := hz 3 (by omega); have z4 := hz 4 (by omega); have z5 := hz 5 (by omega); have z6 := hz 6 (by omega); have z7 := hz 7 (by omega)
    simp only [Nat.add_zero] at *
    simp [sb, b2, z0, z1, z2, z3, z4, z5, z6, z7]
  · have z1 := hz 1 (by omega); have z2 := hz 2 (by omega); have z3 := hz 3 (by omega); have z4 := hz 4 (by omega); have z5 := hz 5 (by omega); have z6 := hz 6 (by omega); have z7 := hz 7 (by omega)
    simp [sb, b2, z1, z2, z3, z4, z5, z6, z7]
    split <;> omega
  · have z2 := hz 2 (by omega); have z3 := hz 3 (by omega); have z4 := hz 4 (by omega); have z5 := hz 5 (by omega); have z6 := hz 6 (by omega); have z7 := hz 7 (by omega)
    simp [sb, b2, z2, z3, z4, z5, z6, z7]
    split <;> split <;> omega
  · have z3 := hz 3 (by omega); have z4 := hz 4 (by omega); have z5 := hz 5 (by omega); have z6 := hz 6 (by omega); have z7 := hz 7 (by omega)
    simp [sb, b2, z3, z4, z5, z6, z7]
    split <;> split <;> split <;> omega
  · have z4 := hz 4 (by omega); have z5 := hz 5 (by omega); have z6 := hz 6 (by omega); have z7 := hz 7 (by omega)
    simp [sb, b2, z4, z5, z6, z7]
    split <;> split <;> split <;> split <;> omega
  · have z5 := hz 5 (by omega); have z6 := hz 6 (by omega); have z7 := hz 7 (by omega)
    simp [sb, b2, z5, z6, z7]
    split <;> split <;> split <;> split <;> split <;> omega
  · have z6 := hz 6 (by omega); have z7 := hz 7 (by omega)
    simp [sb, b2, z6, z7]
    split <;> split <;> split <;> split <;> split <;> split <;> omega
  · have z7 := hz 7 (by omega)
    simp [sb, b2, z7]
    (repeat' split) <;> omega
theorem or_add : ∀ t : Fin 8, ∀ a : Fin 256, a.val % 2 ^ (8 - t.val) = 0 → nI a.val ||| (nI (128 / 2 ^ t.val) &&& nI 255) = nI (a.val + 2 ^ (7 - t.val)) := by decide +kernel
theorem shr_128 : ∀ t : Fin 8, nI 128 >>> (nI t.val &&& 31) = nI (128 / 2 ^ t.val) := by decide +kernel
theorem sh31 : ∀ t : Fin 31, ((nI t.val &&& 31).toBitVec.smod 32).toNat = t.val := by decide +kernel
theorem nI_shr {a t : Nat} (ha : a < 2 ^ 31) (ht : t < 31) : nI a >>> (nI t &&& 31) = nI (a / 2 ^ t) := pk_shrN ha _ t (sh31 ⟨t, ht⟩)
theorem nI_and1 {a : Nat} (ha : a < 2 ^ 31) : nI a &&& nI 1 = nI (a % 2) := pk_andN (by omega) 1 (by decide)
theorem nI_and7 {a : Nat} (ha : a < 2 ^ 31) : nI a &&& nI 7 = nI (a % 8) := pk_andN (by omega) 3 (by decide)
theorem up2_sw {α : Type} {F : Nat → Nat → α} {k a k' a' : Nat} {v v' : α} (h : k ≠ k') : up2 (up2 F k a v) k' a' v' = up2 (up2 F k' a' v') k a v := by
  funext q j
  unfold up2
  by_cases h1 : q = k'
  · subst h1
    have h4 : ¬ q = k := fun x => h x.symm
    simp [h4]
  · simp [h1]
theorem pfx_up {A : hF_} {a P j : Nat} {g g' : Nat → Int32} (hj : j < P) (h : ∀ q, q < P → q ≠ j → g q = g' q) : up2 (pfx A a g P) a j (g' j) = pfx A a g' P := by
  funext q i
  unfold pfx up2
  dsimp only
  by_cases hq : q = a
  · subst hq
    by_cases hi : i = j
    · subst hi
      rw [if_pos rfl, if_pos rfl, if_pos ⟨rfl, hj⟩]
    · rw [if_pos rfl, if_neg hi]
      by_cases hl : i < P
      · rw [if_pos ⟨rfl, hl⟩, if_pos ⟨rfl, hl⟩, h i hl hi]
      · rw [if_neg (by omega), if_neg (by omega)]
  · rw [if_neg hq, if_neg (fun h => hq h.1), if_neg (fun h => hq h.1)]
/-- the fields, and the rows, when w bits are written -/
def wrF (F : hF_) (wr tb w : Nat) : hF_ := up2 (up2 F 101 tb (nI ((w + 7) / 8))) 1001 wr (nI w)
def wrA (A : hF_) (tv : Nat) (bt : Nat → Bool) (w : Nat) : hF_ := pfx A tv (fun q => nI (byt bt q)) ((w + 7) / 8)
section WRT
variable {k n u : Nat} {sh : hs_} {F : hF_} {R : hR_} {A : hF_} {B : hR_} {Q : Option Value → pm_H → Prop} {wr tb tv tz ts w : Nat} {bt : Nat → Bool}
theorem wr_isB (hb : isB sh F R tb tv tz ts) (hw : (w + 7) / 8 ≤ tz) : isB sh (wrF F wr tb w) R tb tv tz ((w + 7) / 8) := by
  obtain ⟨h1, h2, h3, h4, h5, h6⟩ := hb
  exact ⟨h1, h2, h3, h4, by unfold wrF; rw [up2_k (by decide), up2_eq], hw⟩
/-- a bit: from where it is seen whether a byte must come, to behind the count -/
theorem l_bit {a sf : Nat} {x2 : Value} (hw : w < 2 ^ 30) (hs : sh wr = some (0, 10, 0)) (hR : R 1000 wr = some tb) (hb : isB sh F R tb tv tz ts) (hcap : (w + 8) / 8 ≤ tz) (hbt : ∀ j, w ≤ j → bt j = false) (ha : a < 2 ^ 31) (hsf : sf < 31) :
    rw_ (k + 1) mX10_put 8 [.ref wr, .int (nI a), x2, .int (nI sf)] [] (mkh n u sh (wrF F wr tb w) R (wrA A tv bt w) B) Q ↔ rw_ (k + 1) mX10_put 68 [.ref wr, .int (nI a), x2, .int (nI sf)] [] (mkh n u sh (wrF F wr tb (w + 1)) R (wrA A tv (sb bt w (decide (a / 2 ^ sf % 2 = 1))) (w + 1)) B) Q := by
  have hz := hb.2.2.2.1
  have hF1 : wrF F wr tb w 1001 wr = nI w := by unfold wrF; rw [up2_eq]
  have e7 : (w + 1 + 7) / 8 = w / 8 + 1 := by omega
  have hbt1 : bt w = false := hbt w (Nat.le_refl _)
  -- the state with its byte, the count not yet raised
  have mid : ∀ (C : hF_) (G : hF_), G = up2 (up2 F 101 tb (nI (w / 8 + 1))) 1001 wr (nI w) → C = pfx A tv (fun q => nI (byt bt q)) (w / 8 + 1) → (rw_ (k + 1) mX10_put 26 [.ref wr, .int (nI a), x2, .int (nI sf)] [] (mkh n u sh G R C B) Q ↔ rw_ (k + 1) mX10_put 68 [.ref wr, .int (nI a), x2, .int (nI sf)] [] (mkh n u sh (wrF F wr tb (w + 1)) R (wrA A tv (sb bt w (decide (a / 2 ^ sf % 2 = 1))) (w + 1)) B) Q) := by
    intro C G hG hC
    have hG1 : G 1001 wr = nI w := by rw [hG, up2_eq]
    have hGB : isB sh G R tb tv tz (w / 8 + 1) := by
      obtain ⟨h1, h2, h3, h4, h5, h6⟩ := hb
      exact ⟨h1, h2, h3, h4, by rw [hG, up2_k (by decide), up2_eq], by omega⟩
    have fin : ∀ C' : hF_, C' = wrA A tv (sb bt w (decide (a / 2 ^ sf % 2 = 1))) (w + 1) → (rw_ (k + 1) mX10_put 58 [.ref wr, .int (nI a), x2, .int (nI sf)] [] (mkh n u sh G R C' B) Q ↔ rw_ (k + 1) mX10_put 68 [.ref wr, .int (nI a), x2, .int (nI sf)] [] (mkh n u sh (wrF F wr tb (w + 1)) R (wrA A tv (sb bt w (decide (a / 2 ^ sf % 2 = 1))) (w + 1)) B) Q) := by
      intro C' hC'
      subst hC'
      simp only [rX10_put_58, rX10_put_59, rX10_put_60, rX10_put_63, rX10_put_64, rX10_put_65, hs, hG1, nI_add, up2_eq, va_rf, eq_self, or_true, true_or, Option.toList_some, Option.toList_none, List.cons_append, List.nil_append, if_true, if_false]
      rw [hG, up2_up2, ← e7]
      rfl
    simp only [rX10_put_26, rX10_put_27, rX10_put_28, rX10_put_29, rX10_put_30, nI_shr ha hsf, nI_and1 (show a / 2 ^ sf < 2 ^ 31 from Nat.lt_of_le_of_lt (Nat.div_le_self _ _) ha)]
    by_cases c1 : a / 2 ^ sf % 2 = 1
    · have g1 : ¬ nI (a / 2 ^ sf % 2) = nI 0 := by rw [c1]; decide
      have hwm : w % 8 < 8 := Nat.mod_lt _ (by omega)
      have e3 : nI w >>> (nI 3 &&& 31) = nI (w / 2 ^ 3) := nI_shr (by omega) (by omega)
      have e4 := shr_128 ⟨w % 8, hwm⟩
      simp only [rX10_put_31, rX10_put_34, rX10_put_35, rX10_put_38, rX10_put_39, rX10_put_42, rX10_put_43, rX10_put_44, rX10_put_47, rX10_put_48, rX10_put_51, rX10_put_53, rX10_put_54, hs, hR, hG1, g1, e3, nI_and7 (show w < 2 ^ 31 by omega), e4, up2_eq, va_rf, eq_self, or_true, true_or, Option.toList_some, Option.toList_none, List.cons_append, List.nil_append, if_true, if_false]
      rw [rX10_put_55 hb.1, k_Bytes_raise hGB (by show w / 8 < w / 8 + 1; omega)]
      simp only [up2_eq, va_rf, eq_self, or_true, true_or, Option.toList_some, Option.toList_none, List.cons_append, List.nil_append, if_true, if_false]
      refine fin _ ?_
      have hbT := byt_true hbt
      rw [hC, pfx_new (by show w / 8 < w / 8 + 1; omega), show w / 2 ^ 3 = w / 8 from rfl, or_add ⟨w % 8, hwm⟩ ⟨byt bt (w / 8), byt_lt⟩ hbT.2]
      unfold wrA
      rw [decide_eq_true c1, e7]
      have hb1 : nI (byt bt (w / 8) + 2 ^ (7 - w % 8)) = (fun q => nI (byt (sb bt w true) q)) (w / 8) := by
        dsimp only
        rw [hbT.1]
      show up2 (pfx A tv (fun q => nI (byt bt q)) (w / 8 + 1)) tv (w / 8) (nI (byt bt (w / 8) + 2 ^ (7 - w % 8))) = _
      rw [hb1]
      exact pfx_up (by omega) (fun q _ hq => congrArg nI (byt_ne hq).symm)
    · have c0 : a / 2 ^ sf % 2 = 0 := by omega
      have g1 : nI (a / 2 ^ sf % 2) = nI 0 := by rw [c0]
      simp only [rX10_put_31, g1, up2_eq, va_rf, eq_self, or_true, true_or, Option.toList_some, Option.toList_none, List.cons_append, List.nil_append, if_true, if_false]
      refine fin C ?_
      rw [hC]
      unfold wrA
      rw [decide_eq_false c1, byt_false hbt1, e7]
  by_cases hm : w % 8 = 0
  · have g1 : nI (w % 8) = nI 0 := by rw [hm]
    have e8 : (w + 7) / 8 = w / 8 := by omega
    simp only [rX10_put_8, rX10_put_9, rX10_put_12, rX10_put_14, rX10_put_15, rX10_put_18, rX10_put_19, rX10_put_22, hs, hR, hF1, nI_and7 (show w < 2 ^ 31 by omega), g1, up2_eq, va_rf, eq_self, or_true, true_or, Option.toList_some, Option.toList_none, List.cons_append, List.nil_append, if_true, if_false]
    rw [rX10_put_23 hb.1, k_Bytes_add (wr_isB hb (by omega)) (by omega)]
    simp only [up2_eq, va_rf, eq_self, or_true, true_or, Option.toList_some, Option.toList_none, List.cons_append, List.nil_append, if_true, if_false]
    refine mid _ _ ?_ ?_
    · unfold wrF
      rw [e8, up2_sw (by decide), up2_up2]
    · unfold wrA
      rw [e8]
      have hz0 : (nI 0 &&& nI 255) = (fun q => nI (byt bt q)) (w / 8) := by
        dsimp only
        rw [byt_zero (fun j hj => hbt j (by omega))]
        decide
      rw [hz0]
      exact pfx_s
  · have g1 : ¬ nI (w % 8) = nI 0 := nI_ne0 (by omega) (by omega)
    simp only [rX10_put_8, rX10_put_9, rX10_put_12, rX10_put_14, rX10_put_15, hs, hF1, nI_and7 (show w < 2 ^ 31 by omega), g1, up2_eq, va_rf, eq_self, or_true, true_or, Option.toList_some, Option.toList_none, List.cons_append, List.nil_append, if_true, if_false]
    have e8 : (w + 7) / 8 = w / 8 + 1 := by omega
    refine mid _ _ ?_ ?_
    · unfold wrF
      rw [e8]
    · unfold wrA
      rw [e8]
/-- nb bits of a number, the highest first -/
def wb (bt : Nat → Bool) (w a : Nat) : Nat → Nat → Nat → Bool
  | 0, _ => bt
  | j + 1, nb => sb (wb bt w a j nb) (w + j) (decide (a / 2 ^ (nb - 1 - j) % 2 = 1))
theorem wb_out {w a i : Nat} : ∀ j nb, (i < w ∨ w + j ≤ i) → wb bt w a j nb i = bt i
  | 0, _, _ => rfl
  | j + 1, nb, h => by
    unfold wb
    rw [sb_ne (by omega), wb_out j nb (by omega)]
theorem l_put {a nb : Nat} (hw : w + nb < 2 ^ 30) (hs : sh wr = some (0, 10, 0)) (hR : R 1000 wr = some tb) (hb : isB sh F R tb tv tz ts) (hcap : (w + nb + 7) / 8 ≤ tz) (hbt : ∀ j, w ≤ j → bt j = false) (ha : a < 2 ^ 31) (hnb : nb ≤ 31) :
    ∀ d j, j + d = nb → (rw_ (k + 1) mX10_put 4 [.ref wr, .int (nI a), .int (nI nb), .int (if j < nb then nI (nb - 1 - j) else -1)] [] (mkh n u sh (wrF F wr tb (w + j)) R (wrA A tv (wb bt w a j nb) (w + j)) B) Q ↔ Q none (mkh n u sh (wrF F wr tb (w + nb)) R (wrA A tv (wb bt w a nb nb) (w + nb)) B)) := by
  intro d
  induction d with
  | zero =>
    intro j hj
    have e1 : j = nb := by omega
    subst e1
    rw [if_neg (Nat.lt_irrefl j)]
    have g1 : (-1 : Int32) < nI 0 := by decide
    simp only [rX10_put_4, rX10_put_5, rX10_put_74, g1, up2_eq, va_rf, eq_self, or_true, true_or, Option.toList_some, Option.toList_none, List.cons_append, List.nil_append, if_true, if_false]
  | succ d ih =>
    intro j hj
    rw [if_pos (by omega : j < nb)]
    have g1 : ¬ nI (nb - 1 - j) < nI 0 := nI_nlt (Nat.zero_le _) (by omega)
    simp only [rX10_put_4, rX10_put_5, g1, up2_eq, va_rf, eq_self, or_true, true_or, Option.toList_some, Option.toList_none, List.cons_append, List.nil_append, if_true, if_false]
    rw [l_bit (w := w + j) (by omega) hs hR hb (by omega) (fun i hi => by rw [wb_out j nb (by omega)]; exact hbt i (by omega)) ha (by omega)]
    have hdec : nI (nb - 1 - j) + (-1 : Int32) = (if j + 1 < nb then nI (nb - 1 - (j + 1)) else -1) := by
      by_cases e2 : j + 1 < nb
      · rw [if_pos e2, show nb - 1 - j = (nb - 1 - (j + 1)) + 1 by omega, pk_m1]
      · rw [if_neg e2, show nb - 1 - j = 0 by omega]
        decide
    simp only [rX10_put_68, rX10_put_71, hdec]
    exact ih (j + 1) (by omega)
theorem k_put {a nb : Nat} (hw : w + nb < 2 ^ 30) (hs : sh wr = some (0, 10, 0)) (hR : R 1000 wr = some tb) (hb : isB sh F R tb tv tz ts) (hcap : (w + nb + 7) / 8 ≤ tz) (hbt : ∀ j, w ≤ j → bt j = false) (ha : a < 2 ^ 31) (hnb : nb ≤ 31) :
    rc_ (k + 1) mX10_put [.ref wr, .int (nI a), .int (nI nb)] (mkh n u sh (wrF F wr tb w) R (wrA A tv bt w) B) Q ↔ Q none (mkh n u sh (wrF F wr tb (w + nb)) R (wrA A tv (wb bt w a nb nb) (w + nb)) B) := by
  rw [eX10_put]
  have hdec : nI nb - nI 1 = (if 0 < nb then nI (nb - 1 - 0) else -1) := by
    by_cases e2 : 0 < nb
    · rw [if_pos e2, pk_sub (by omega)]
      rfl
    · rw [if_neg e2, show nb = 0 by omega]
      decide
  simp only [rX10_put_0, rX10_put_1, rX10_put_2, rX10_put_3, hdec]
  exact l_put hw hs hR hb hcap hbt ha hnb nb 0 (by omega)
end WRT
