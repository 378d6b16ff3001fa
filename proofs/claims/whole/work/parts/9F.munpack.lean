/-! ===== the reference: unpack ===== -/
theorem rdN_f12 {st : rst} {code wh : Nat} (h : st.2.1 = 0) : (rdN st code wh).2.1 = code ∧ (rdN st code wh).2.2 = wh := by unfold rdN; rw [if_pos h]; exact ⟨rfl, rfl⟩
section RPR
variable {b : Nat → Nat} {N zs s c m : Nat} {E f L : Nat → Nat} {rk : Bool} {st : rst}
theorem roL_f : ∀ d st m L, ¬ st.2.1 = 0 → ¬ (roL b N d st m L).1.2.1 = 0
  | 0, _, _, _, h => h
  | d + 1, st, m, L, h => by unfold roL; rw [if_neg h]; exact h
theorem roL_pr : ∀ d st m L, (roL b N d st m L).1.2.1 = 0 → (roL b N d st m L).2.1 = m + d
  | 0, _, _, _, _ => rfl
  | d + 1, st, m, L, h => by
    unfold roL at h ⊢
    by_cases c0 : st.2.1 = 0
    · rw [if_pos c0] at h ⊢
      by_cases c1 : rdX st 8 N = true
      · rw [if_pos c1] at h
        exact absurd h (roL_f d _ _ _ (rdB_f c1))
      · rw [if_neg c1] at h ⊢
        rw [roL_pr d _ _ _ h]
        omega
    · rw [if_neg c0] at h
      exact absurd h c0
/-- a part that is read is not empty -/
theorem rpP_pr (hb : ∀ j, b j < 2) (hne : rk = true → ∀ q, q < c → 0 < E q - pst E q) (h : (rpP b N zs st m L s c E f rk).1.2.1 = 0) : m < (rpP b N zs st m L s c E f rk).2.1 := by
  unfold rpP at h ⊢
  by_cases c0 : (rdB st 2 N).2.1 = 0
  · rw [if_pos c0] at h ⊢
    by_cases k0 : bv b st.1 2 = 0
    · rw [if_pos k0] at h ⊢
      unfold rpO at h ⊢
      by_cases c1 : (rgS b N (rdB st 2 N)).2.1 = 0
      · rw [if_pos c1] at h ⊢
        have hv := rgV_ok hb c1
        by_cases c2 : 120 < rgV b N (rdB st 2 N) ∨ zs - m < rgV b N (rdB st 2 N)
        · rw [if_pos c2] at h
          have := (rdN_f12 (code := 5) (wh := st.1) c1).1
          dsimp only at h
          omega
        · rw [if_neg c2] at h ⊢
          rw [roL_pr _ _ _ _ h]
          omega
      · rw [if_neg c1] at h
        exact absurd h c1
    · rw [if_neg k0] at h ⊢
      have cp : ∀ (w : Nat) (src en : Nat → Nat), (rpC b N zs (rdB st 2 N) m L st.1 w src en).1.2.1 = 0 → m < (rpC b N zs (rdB st 2 N) m L st.1 w src en).2.1 := by
        intro w src en h
        unfold rpC at h ⊢
        by_cases c1 : (rgS b N (rdB (rdB st 2 N) w N)).2.1 = 0
        · rw [if_pos c1] at h ⊢
          by_cases c2 : en (bv b (rdB st 2 N).1 w) < bv b (rdB st 2 N).1 w + (rgV b N (rdB (rdB st 2 N) w N) + 2) ∨ zs - m < rgV b N (rdB (rdB st 2 N) w N) + 2
          · rw [if_pos c2] at h
            have := (rdN_f12 (code := 5) (wh := st.1) c1).1
            dsimp only at h
            omega
          · rw [if_neg c2]
            dsimp only
            omega
        · rw [if_neg c1] at h
          exact absurd h c1
      by_cases k1 : bv b st.1 2 = 1
      · rw [if_pos k1] at h ⊢
        exact cp _ _ _ h
      · rw [if_neg k1] at h ⊢
        by_cases k2 : bv b st.1 2 = 2
        · rw [if_pos k2] at h ⊢
          exact cp _ _ _ h
        · rw [if_neg k2] at h ⊢
          unfold rpW at h ⊢
          cases hrk : rk with
          | false =>
            rw [hrk, if_neg (by decide)] at h
            have := (rdN_f12 (code := 5) (wh := st.1) c0).1
            dsimp only at h
            omega
          | true =>
            rw [hrk, if_pos rfl] at h
            rw [if_pos rfl]
            by_cases c1 : (rgS b N (rdB st 2 N)).2.1 = 0
            · rw [if_pos c1] at h ⊢
              by_cases c2 : c ≤ rgV b N (rdB st 2 N) - 1 ∨ zs - m < E (rgV b N (rdB st 2 N) - 1) - pst E (rgV b N (rdB st 2 N) - 1)
              · rw [if_pos c2] at h
                have := (rdN_f12 (code := 5) (wh := st.1) c1).1
                dsimp only at h
                omega
              · rw [if_neg c2]
                have := hne hrk (rgV b N (rdB st 2 N) - 1) (by omega)
                dsimp only
                omega
            · rw [if_neg c1] at h
              exact absurd h c1
  · rw [if_neg c0] at h
    exact absurd h c0
/-- the bits that fill are noughts -/
def allz (b : Nat → Nat) (p : Nat) : Nat → Bool
  | 0 => true
  | i + 1 => allz b p i && decide (b (p + i) = 0)
theorem allz_front {p : Nat} : ∀ d, allz b p (d + 1) = (decide (b p = 0) && allz b (p + 1) d)
  | 0 => by unfold allz allz; rw [Nat.add_zero, Bool.true_and, Bool.and_true]
  | d + 1 => by
    rw [show allz b p (d + 1 + 1) = (allz b p (d + 1) && decide (b (p + (d + 1)) = 0)) from rfl, allz_front d, show allz b (p + 1) (d + 1) = (allz b (p + 1) d && decide (b (p + 1 + d) = 0)) from rfl, show p + (d + 1) = p + 1 + d by omega, Bool.and_assoc]
theorem rfL_cl : ∀ d st, st.2.1 = 0 → st.1 + d ≤ N → (rfL b N d st).2 = allz b st.1 d ∧ (rfL b N d st).1.2.1 = 0
  | 0, st, h, _ => ⟨rfl, h⟩
  | d + 1, st, h, hN => by
    have e1 : bv b st.1 1 = b st.1 := by
      show 2 * 0 + b (st.1 + 0) = b st.1
      rw [Nat.add_zero]
      omega
    have e2 := rdB_ok (nb := 1) (N := N) h (by omega)
    unfold rfL
    rw [e1, allz_front]
    by_cases c0 : b st.1 = 0
    · rw [if_pos c0, e2]
      have := rfL_cl d (st.1 + 1, st.2.1, st.2.2) h (by show st.1 + 1 + d ≤ N; omega)
      rw [decide_eq_true c0, Bool.true_and]
      exact this
    · rw [if_neg c0, e2, decide_eq_false c0, Bool.false_and]
      exact ⟨rfl, h⟩
theorem rfS_cl (h : st.2.1 = 0) (hN : st.1 ≤ N) : ((decide (N - st.1 < 8) && allz b st.1 (N - st.1)) = true → (rfS b N st).2.1 = 0) ∧ ((decide (N - st.1 < 8) && allz b st.1 (N - st.1)) = false → (rfS b N st).2.1 = 6 ∧ (rfS b N st).2.2 = st.1) := by
  obtain ⟨h1, h2⟩ := rfL_cl (b := b) (N := N) (N - st.1) st h (by omega)
  unfold rfS
  by_cases c0 : N - st.1 < 8
  · rw [if_pos c0, decide_eq_true c0, Bool.true_and, h1]
    refine ⟨fun e => ?_, fun e => ?_⟩
    · rw [if_pos e]; exact h2
    · rw [if_neg (by rw [e]; decide)]; exact rdN_f12 h2
  · rw [if_neg c0, decide_eq_false c0, Bool.false_and]
    exact ⟨fun e => absurd e (by decide), fun _ => rdN_f12 h⟩
end RPR
/-- what comes of all -/
def finS (b : Nat → Nat) (N : Nat) (S : rss) : rss := if S.1.2.1 = 0 then (rfS b N S.1, S.2) else S
section MUN
variable {k n u : Nat} {sh : hs_} {F F' : hF_} {R : hR_} {A A' : hF_} {B : hR_} {Q : Option Value → pm_H → Prop} {y N : Nat} {b : Nat → Nat} {st : rst} {m zs c s : Nat} {L E f : Nat → Nat} {bi : Int32} {rk : Bool} {T : TT} {x1 x2 x3 x4 : Value}
theorem l_uFill {p : Nat} {a0 : Bool} (hM : isM sh R y) (hb : mBi F A y N b) (hp : p ≤ N)
    (hQ : ∀ x4, rw_ k mX12_unpack 216 [.ref y, x1, x2, .int (if (a0 && allz b p (N - p)) = true then nI 1 else nI 0), x4] [] (mkh n u sh F R A B) Q) :
    ∀ d i, i + d = N - p → rw_ k mX12_unpack 181 [.ref y, x1, x2, .int (if (a0 && allz b p i) = true then nI 1 else nI 0), .int (nI (p + i))] [] (mkh n u sh F R A B) Q := by
  have r32 := hM.r 1246 32 0 2400 (by decide)
  have s32 := hM.s 1246 32 0 2400 (by decide)
  have g : ¬ nI 1 = nI 0 := by decide
  obtain ⟨b1, b2, b3, b4⟩ := hb
  intro d
  induction d with
  | zero =>
    intro i hi
    have e : i = N - p := by omega
    subst e
    have g1 : nI N ≤ nI (p + (N - p)) := nI_le (by omega) (by omega)
    simp only [rX12_unpack_181, rX12_unpack_183, rX12_unpack_184, rX12_unpack_187, hM.1, b1, g1, up2_eq, va_rf, eq_self, or_true, true_or, Option.toList_some, Option.toList_none, List.cons_append, List.nil_append, if_true, if_false]
    exact hQ _
  | succ d ih =>
    intro i hi
    have g1 : ¬ nI N ≤ nI (p + i) := nI_ge (by omega) (by omega)
    have e1 : allz b p (i + 1) = (allz b p i && decide (b (p + i) = 0)) := rfl
    have ih' := ih (i + 1) (by omega)
    rw [e1, ← Bool.and_assoc] at ih'
    simp only [rX12_unpack_181, rX12_unpack_183, rX12_unpack_184, rX12_unpack_187, rX12_unpack_190, hM.1, b1, g1, up2_eq, va_rf, eq_self, or_true, true_or, Option.toList_some, Option.toList_none, List.cons_append, List.nil_append, if_true, if_false]
    cases hf : (a0 && allz b p i) with
    | false =>
      rw [hf, Bool.false_and] at ih'
      simp only [Bool.false_eq_true, up2_eq, va_rf, eq_self, or_true, true_or, Option.toList_some, Option.toList_none, List.cons_append, List.nil_append, if_true, if_false] at ih'
      simp only [Bool.false_eq_true, rX12_unpack_191, rX12_unpack_208, rX12_unpack_209, rX12_unpack_210, rX12_unpack_213, nI_add, up2_eq, va_rf, eq_self, or_true, true_or, Option.toList_some, Option.toList_none, List.cons_append, List.nil_append, if_true, if_false]
      exact ih'
    | true =>
      rw [hf, Bool.true_and] at ih'
      simp only [rX12_unpack_191, rX12_unpack_194, rX12_unpack_195, rX12_unpack_198, hM.1, g, r32, up2_eq, va_rf, eq_self, or_true, true_or, Option.toList_some, Option.toList_none, List.cons_append, List.nil_append, if_true, if_false]
      rw [rX12_unpack_200 s32 (by decide) (by omega) (by omega), b4 _ (by omega)]
      by_cases c0 : b (p + i) = 0
      · rw [decide_eq_true c0] at ih'
        have e3 : nI (b (p + i)) = nI 0 := by rw [c0]
        simp only [up2_eq, va_rf, eq_self, or_true, true_or, Option.toList_some, Option.toList_none, List.cons_append, List.nil_append, if_true, if_false] at ih'
        simp only [rX12_unpack_201, rX12_unpack_204, rX12_unpack_205, rX12_unpack_209, rX12_unpack_210, rX12_unpack_213, e3, nI_add, up2_eq, va_rf, eq_self, or_true, true_or, Option.toList_some, Option.toList_none, List.cons_append, List.nil_append, if_true, if_false]
        exact ih'
      · rw [decide_eq_false c0] at ih'
        have := b3 (p + i)
        have e3 : ¬ nI (b (p + i)) = nI 0 := nI_ne0 (by omega) (by omega)
        simp only [Bool.false_eq_true, up2_eq, va_rf, eq_self, or_true, true_or, Option.toList_some, Option.toList_none, List.cons_append, List.nil_append, if_true, if_false] at ih'
        simp only [rX12_unpack_201, rX12_unpack_208, rX12_unpack_209, rX12_unpack_210, rX12_unpack_213, e3, nI_add, up2_eq, va_rf, eq_self, or_true, true_or, Option.toList_some, Option.toList_none, List.cons_append, List.nil_append, if_true, if_false]
        exact ih'
theorem l_uOut {x1 x2 x4 : Value} (hM : isM sh R y) (h53 : F 1253 y = nI m) (hm : m ≤ 120)
    (hQ : ∀ A', (∀ a, a ≠ y + 2 → A' a = A a) → (∀ j, j < m → A' (y + 2) j = A (y + 33) j) → Q (some (.int (nI m))) (mkh n u sh F R A' B)) :
    ∀ d i A1, i + d = m → (∀ a, a ≠ y + 2 → A1 a = A a) → (∀ j, j < i → A1 (y + 2) j = A (y + 33) j) → rw_ k mX12_unpack 263 [.ref y, x1, x2, .int (nI i), x4] [] (mkh n u sh F R A1 B) Q := by
  have r2 := hM.r 1203 2 0 400 (by decide)
  have s2 := hM.s 1203 2 0 400 (by decide)
  have r33 := hM.r 1252 33 0 120 (by decide)
  have s33 := hM.s 1252 33 0 120 (by decide)
  intro d
  induction d with
  | zero =>
    intro i A1 hi f1 f2
    have e : i = m := by omega
    subst e
    have g1 : nI i ≤ nI i := nI_le (Nat.le_refl _) (by omega)
    simp only [rX12_unpack_263, rX12_unpack_264, rX12_unpack_265, rX12_unpack_268, rX12_unpack_289, rX12_unpack_290, rX12_unpack_293, hM.1, h53, g1, up2_eq, va_rf, eq_self, or_true, true_or, Option.toList_some, Option.toList_none, List.cons_append, List.nil_append, if_true, if_false]
    exact hQ A1 f1 f2
  | succ d ih =>
    intro i A1 hi f1 f2
    have g1 : ¬ nI m ≤ nI i := nI_ge (by omega) (by omega)
    simp only [rX12_unpack_263, rX12_unpack_264, rX12_unpack_265, rX12_unpack_268, rX12_unpack_271, rX12_unpack_272, rX12_unpack_275, rX12_unpack_276, rX12_unpack_277, rX12_unpack_280, hM.1, h53, g1, r2, r33, up2_eq, va_rf, eq_self, or_true, true_or, Option.toList_some, Option.toList_none, List.cons_append, List.nil_append, if_true, if_false]
    rw [rX12_unpack_281 s33 (by decide) (by omega) (by omega)]
    rw [rX12_unpack_282 s2 (by omega) (by omega)]
    simp only [rX12_unpack_283, rX12_unpack_286, nI_add, up2_eq, va_rf, eq_self, or_true, true_or, Option.toList_some, Option.toList_none, List.cons_append, List.nil_append, if_true, if_false]
    refine ih (i + 1) _ (by omega) (fun a ha => by rw [up2_row ha]; exact f1 a ha) (fun j hj => ?_)
    by_cases e : j = i
    · subst e; rw [up2_eq, f1 _ (by omega)]
    · rw [up2_a e]; exact f2 j (by omega)
theorem MS_unp {o fa : Nat} {g : Nat → Nat} (h : MS F A y T) (hT : okT T) (hF : ∀ q, ¬ (q = 1200 ∨ q = 1202 ∨ q = 1204 ∨ (1247 ≤ q ∧ q ≤ 1251) ∨ q = 1253) → F' q y = F q y) (hA : ∀ k, 1 ≤ k → k ≤ 38 → ¬ (k = 2 ∨ k = 32 ∨ k = 33) → A' (y + k) = A (y + k)) (e1 : F' 1202 y = nI 0) (e2 : F' 1204 y = nI o) (e3 : ∀ j, j < o → A' (y + 2) j = nI (g j)) (e4 : F' 1251 y = nI fa) : MS F' A' y (up2 (sTO T.1 0 o (T.1 30) g) 26 0 fa, T.2) := by
  obtain ⟨a1, a2, a3, a4, a5, a6⟩ := h
  obtain ⟨d1, d2, d3, d4⟩ := hT.2.2.1
  have dsum := okE_sum _ d2 (fun q hq => (d3 q hq).2) (T.1 4 24) (Nat.le_refl _)
  rw [d2.2] at dsum
  have b1 := hT.2.2.2.1.1
  refine ⟨⟨⟨e1, fun j hj => absurd hj (Nat.not_lt_zero _)⟩, e2, e3⟩, ?_, ?_, ?_, ?_, ?_⟩
  · exact mBk_cong (T := T) a2 b1 d1 (by omega) (fun b hb => ⟨(hT.2.2.2.1.2.1 b (Or.inl hb)).1.2.1, (hT.2.2.2.1.2.1 b (Or.inl hb)).1.2.2.1⟩) (hF _ (by omega)) (fun j _ => by rw [hA 3 (by omega) (by omega) (by omega)]) (fun j _ => by rw [hA 4 (by omega) (by omega) (by omega)]) (fun j _ => by rw [hA 5 (by omega) (by omega) (by omega)]) (fun j _ => by rw [hA 6 (by omega) (by omega) (by omega)]) (fun k k1 k2 => hA k (by omega) (by omega) (by omega))
  · obtain ⟨c1, c2, ⟨np, p0, p1, p2, p3⟩, c4⟩ := a3
    refine ⟨by rw [hF _ (by omega)]; exact c1, fun g => ?_, ⟨np, p0, by rw [hF _ (by omega)]; exact p1, p2, fun q hq => ?_⟩, e4⟩
    · obtain ⟨u1, u2, u3⟩ := c2 g
      exact ⟨by rw [hF _ (by omega)]; exact u1, by rw [hF _ (by omega)]; exact u2, by rw [hA _ (by omega) (by omega) (by omega)]; exact u3⟩
    · rw [hA 28 (by omega) (by omega) (by omega), hA 29 (by omega) (by omega) (by omega), hA 30 (by omega) (by omega) (by omega)]
      exact p3 q hq
  · exact mSm_cong (T := T) a4 (hF _ (by omega)) (hA _ (by omega) (by omega) (by omega)) (hA _ (by omega) (by omega) (by omega))
  · exact mGa_cong (T := T) a5 (fun q q1 q2 => hF q (by omega)) (hA _ (by omega) (by omega) (by omega))
  · exact mWi_cong (T := T) a6 (fun q hq => hF q (by omega)) (fun k k1 k2 => hA k (by omega) (by omega) (by omega))
end MUN
