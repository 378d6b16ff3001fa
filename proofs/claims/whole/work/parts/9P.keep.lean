/-! ===== every step keeps what holds of the state ===== -/
def ok2 (T : TT) : Prop := okT T ∧ hcT T.1 (T.1 2 0) ≤ 4
theorem hcT_mo {N N' : tN} : ∀ k, (∀ b, b < k → N' 19 b ≤ N 19 b) → hcT N' k ≤ hcT N k
  | 0, _ => Nat.le_refl _
  | k + 1, h => by
    have h1 := hcT_mo (N := N) (N' := N') k (fun b hb => h b (by omega))
    have h2 := h k (by omega)
    unfold hcT
    by_cases c : N' 19 k = 0
    · rw [if_pos c]; omega
    · rw [if_neg c, if_neg (by omega)]; omega
theorem hc_keep {N N' : tN} (h : ∀ b, N' 19 b = N 19 b) (h2 : N' 2 0 = N 2 0) (hc : hcT N (N 2 0) ≤ 4) : hcT N' (N' 2 0) ≤ 4 := by
  rw [h2]
  exact Nat.le_trans (hcT_mo _ (fun b _ => by rw [h b]; exact Nat.le_refl _)) hc
section KEP
variable {T : TT} {b m : Nat} {i w : Int32}
theorem ok2_TO {t o : Nat} {f g : Nat → Nat} (h : ok2 T) (h1 : t ≤ 240 ∧ ∀ j, j < t → f j < 256) (h2 : o ≤ 240 ∧ ∀ j, j < o → g j < 256) : ok2 (sTO T.1 t o f g, T.2) := by
  obtain ⟨⟨g1, g2, g3⟩, hc⟩ := h
  exact ⟨⟨h1, h2, g3⟩, hc_keep (N := T.1) (fun _ => rfl) rfl hc⟩
theorem ok2_clr (h : ok2 T) : ok2 (clrT T) := ok2_TO h ⟨Nat.zero_le _, fun j hj => absurd hj (Nat.not_lt_zero _)⟩ h.1.2.1
theorem k2_feed {a b c d e : Int32} (h : ok2 T) : ok2 (s_feed T a b c d e).2 := by
  unfold s_feed
  split
  · exact h
  · refine ok2_TO h ⟨by omega, fun j hj => ?_⟩ h.1.2.1
    show (if j < T.1 0 0 then T.1 30 j else fdb a b c d e (j - T.1 0 0)) < 256
    by_cases c : j < T.1 0 0
    · rw [if_pos c]; exact h.1.1.2 j c
    · rw [if_neg c]; exact bw_lt
theorem k2_trim (h : ok2 T) : ok2 (s_trim T i).2 := by
  have t0 := h.1.1.1
  unfold s_trim
  by_cases c : i < nI 0 ∨ nI (T.1 0 0) < i
  · rw [if_pos c]; exact h
  · rw [if_neg c]
    obtain ⟨j, rfl, j1, j2⟩ := i32_rg (by decide) (by omega) c
    dsimp only
    rw [nI_clamp (by omega)]
    exact ok2_TO h ⟨by omega, fun q hq => h.1.1.2 q (by omega)⟩ h.1.2.1
theorem k2_again (h : ok2 T) : ok2 (s_again T).2 := ok2_TO h h.1.2.1 h.1.2.1
theorem k2_tell (h : ok2 T) : ok2 (s_tell T i w).2 := by
  unfold s_tell
  cases hi : ix i (T.1 2 0) with
  | none => exact h
  | some b =>
    dsimp only
    obtain ⟨hb, -, rfl⟩ := ix_some hi
    obtain ⟨k1, k2, k3, k4, k5, k6, k7⟩ := (h.1.2.2.2.1.2.1 b (Or.inl hb)).1
    cases hw : ix w (T.1 4 b) with
    | none => exact h
    | some q =>
      obtain ⟨hq, -, rfl⟩ := ix_some hw
      have e1 := k1.E_le hq
      have e2 := k1.1 q hq
      have e3 := k6 q hq
      exact ok2_TO h h.1.1 ⟨by omega, fun j hj => k7 _ (by omega)⟩
theorem k2_latest (h : ok2 T) : ok2 (s_latest T).2 := by
  unfold s_latest
  split
  · exact h
  · rename_i c
    obtain ⟨a1, a2, a3, a4⟩ := h.1.2.2.2.2.2.2.1
    have e := (a2 (T.1 13 0 - 1) (by omega)).2.2.2.2.2.2 (a4 c)
    exact ok2_TO h h.1.1 ⟨by omega, e.2⟩
theorem okB_cong {N N' : tN} {J J' : tJ} (h : okB N J b) (h3 : N' 3 b = N 3 b) (h4 : N' 4 b = N 4 b) (h5 : N' 5 b = N 5 b) (j3 : J' 3 b = J 3 b) (j0 : J' 0 b = J 0 b) : okB N' J' b := by
  unfold okB
  rw [h3, h4, h5, j3, j0]
  exact h
theorem k2_piece (h : ok2 T) : ok2 (s_piece T).2 := by
  have hcl := ok2_clr h
  obtain ⟨⟨g1, g2, ⟨d1, d2, d3, d4⟩, ⟨b1, b2, b3, b4, b5, b6, b7, b8⟩, g5⟩, hc⟩ := h
  unfold s_piece
  by_cases c1 : T.1 0 0 = 0 ∨ 200 < T.1 0 0
  · rw [if_pos c1]; exact hcl
  · rw [if_neg c1]
    by_cases c2 : 20 ≤ T.1 4 24
    · rw [if_pos c2]; exact hcl
    · rw [if_neg c2]
      refine ⟨⟨⟨Nat.zero_le _, fun j hj => absurd hj (Nat.not_lt_zero _)⟩, g2, ?_, ⟨b1, fun b hb => ?_, b3, ?_, ?_, b6, b7, b8⟩, g5⟩, hc_keep (N := T.1) (fun _ => rfl) rfl hc⟩
      · dsimp only
        rw [up2_k (by decide), up2_eq, up2_eq, up2_k (by decide), up2_eq, up2_eq]
        refine ⟨by omega, apE_ok d2, fun q hq => ?_, fun j hj => ?_⟩
        · rw [apE_pst q (by omega)]
          unfold apE
          by_cases z : q = T.1 4 24
          · rw [if_pos z, z, d2.2]; omega
          · rw [if_neg z]; exact d3 q (by omega)
        · show (if j < T.1 5 24 then T.2.1 0 24 j else T.1 30 (j - T.1 5 24)) < 256
          by_cases z : j < T.1 5 24
          · rw [if_pos z]; exact d4 j z
          · rw [if_neg z]; exact g1.2 _ (by omega)
      · have hb' : isB3 T.1 b := hb
        have hne : b ≠ 24 := isB3_24 hb' b1
        obtain ⟨o1, o2⟩ := b2 b hb'
        refine ⟨okB_cong o1 rfl ?_ ?_ ?_ ?_, o2⟩
        · dsimp only; rw [up2_o (by omega), up2_o (by omega)]; rfl
        · dsimp only; rw [up2_o (by omega), up2_o (by omega)]; rfl
        · dsimp only; rw [up2_o (by omega), up2_o (by omega)]
        · dsimp only; rw [up2_o (by omega), up2_o (by omega)]
      · dsimp only; rw [up2_o (by omega), up2_o (by omega)]; exact b4
      · dsimp only; rw [up2_o (by omega), up2_o (by omega)]; exact b5
/-- a book more -/
theorem ok2_apB {kd c s : Nat} {E f : Nat → Nat} (h : ok2 T) (hn : T.1 2 0 < 24) (h1 : okE E c s) (h2 : c ≤ 20) (h3 : s ≤ 320) (h4 : kd ≤ 2) (h5 : 1 ≤ kd → ∀ q, q < c → 0 < E q - pst E q) (h6 : ∀ q, q < c → E q - pst E q ≤ 200) (h7 : ∀ j, j < s → f j < 256) : ok2 (apB T kd c s E f) := by
  obtain ⟨⟨g1, g2, ⟨d1, d2, d3, d4⟩, ⟨b1, b2, b3, b4, b5, b6, b7, b8⟩, g5, g6, ⟨a1, a2, a3, a4⟩, g8⟩, hc⟩ := h
  obtain ⟨n1, n2, n3, n4, n5, n6, n7, n8, n9, n10, n11⟩ := apB_n (T := T) (kd := kd) (c := c) (s := s) (E := E) (f := f)
  refine ⟨⟨g1, g2, ?_, ⟨(show T.1 2 0 + 1 ≤ 24 by omega), fun b hb => ?_, ?_, ?_, ?_, ?_, ?_, ?_⟩, g5, g6, ⟨a1, fun m hm => ?_, a3, a4⟩, g8⟩, ?_⟩
  · rw [apB_o (by decide) (by omega), apB_o (by decide) (by omega), apB_oJ (by omega), apB_oJ (by omega)]
    exact ⟨d1, d2, d3, d4⟩
  · by_cases e : b = T.1 2 0
    · subst e
      rw [n4, n5, n6]
      refine ⟨?_, by omega, by omega, by omega⟩
      unfold okB
      rw [n1, n2, n3, n7, n8]
      exact ⟨h1, h2, h3, h4, h5, h6, h7⟩
    · have hb' : isB3 T.1 b := by
        rcases hb with z | z
        · have z' : b < T.1 2 0 + 1 := z
          exact Or.inl (by omega)
        · exact Or.inr z
      obtain ⟨o1, o2⟩ := b2 b hb'
      rw [apB_o (by decide) e, apB_o (by decide) e, apB_o (by decide) e]
      exact ⟨okB_cong o1 (apB_o (by decide) e) (apB_o (by decide) e) (apB_o (by decide) e) (apB_oJ e) (apB_oJ e), o2⟩
  · rw [apB_o (by decide) (by omega)]; exact b3
  · rw [apB_o (by decide) (by omega)]; exact b4
  · rw [apB_o (by decide) (by omega)]; exact b5
  · rw [apB_o (by decide) (by omega)]; exact b6
  · rw [apB_o (by decide) (by omega)]; exact b7
  · rw [apB_o (by decide) (by omega)]; exact b8
  · obtain ⟨e1, e2, e3, e4, e5⟩ := a2 m hm
    refine ⟨e1, ?_, e3, Nat.le_trans e4 (Nat.le_succ _), e5⟩
    have e2' : isB3 T.1 (mbk T.1 m) := e2
    show isB3 (apB T kd c s E f).1 (mbk T.1 m)
    rcases e2' with z | z
    · exact Or.inl (show mbk T.1 m < T.1 2 0 + 1 by omega)
    · exact Or.inr z
  · show hcT (apB T kd c s E f).1 (T.1 2 0 + 1) ≤ 4
    show hcT (apB T kd c s E f).1 (T.1 2 0) + (if (apB T kd c s E f).1 19 (T.1 2 0) = 0 then 0 else 1) ≤ 4
    rw [n5, if_pos rfl]
    exact Nat.le_trans (hcT_mo _ (fun b hb => by rw [apB_o (by decide) (by omega)]; exact Nat.le_refl _)) hc
theorem fitL_all {E : Nat → Nat} : ∀ c, fitL E c = true → ∀ q, q < c → 2 ≤ E q - pst E q ∧ E q - pst E q ≤ 16
  | 0, _, q, hq => absurd hq (Nat.not_lt_zero _)
  | c + 1, h, q, hq => by
    have e : fitL E (c + 1) = (fitL E c && (decide (2 ≤ E c - pst E c) && decide (E c - pst E c ≤ 16))) := rfl
    rw [e, Bool.and_eq_true, Bool.and_eq_true, decide_eq_true_eq, decide_eq_true_eq] at h
    by_cases z : q = c
    · rw [z]; exact h.2
    · exact fitL_all c h.1 q (by omega)
/-- the draft goes -/
theorem ok2_dclr {N : tN} {J : tJ} {I : hF_} (h : okT (N, J, I)) (hc : hcT N (N 2 0) ≤ 4) : ok2 (up2 (up2 N 4 24 0) 5 24 0, J, I) := by
  obtain ⟨g1, g2, ⟨d1, d2, d3, d4⟩, ⟨b1, b2, b3, b4, b5, b6, b7, b8⟩, g5⟩ := h
  dsimp only at *
  refine ⟨⟨g1, g2, ⟨Nat.zero_le _, ⟨fun j hj => absurd hj (Nat.not_lt_zero _), rfl⟩, fun q hq => absurd hq (Nat.not_lt_zero _), fun q hq => absurd hq (Nat.not_lt_zero _)⟩, ⟨b1, fun b hb => ?_, b3, ?_, ?_, b6, b7, b8⟩, g5⟩, hc_keep (N := N) (fun _ => rfl) rfl hc⟩
  · have hb' : isB3 N b := hb
    have hne : b ≠ 24 := isB3_24 hb' b1
    obtain ⟨o1, o2⟩ := b2 b hb'
    refine ⟨okB_cong o1 rfl ?_ ?_ rfl rfl, o2⟩
    · dsimp only; rw [up2_o (by omega), up2_o (by omega)]
    · dsimp only; rw [up2_o (by omega), up2_o (by omega)]
  · dsimp only; rw [up2_o (by omega), up2_o (by omega)]; exact b4
  · dsimp only; rw [up2_o (by omega), up2_o (by omega)]; exact b5
/-- the book of the draft, then the draft goes -/
theorem ok2_bok {kd c s : Nat} {E f : Nat → Nat} (h : ok2 T) (hn : T.1 2 0 < 24) (h1 : okE E c s) (h2 : c ≤ 20) (h3 : s ≤ 320) (h4 : kd ≤ 2) (h5 : 1 ≤ kd → ∀ q, q < c → 0 < E q - pst E q) (h6 : ∀ q, q < c → E q - pst E q ≤ 200) (h7 : ∀ j, j < s → f j < 256) : ok2 (up2 (up2 (apB T kd c s E f).1 4 24 0) 5 24 0, (apB T kd c s E f).2) := by
  have h8 := ok2_apB h hn h1 h2 h3 h4 h5 h6 h7
  exact ok2_dclr (N := (apB T kd c s E f).1) (J := (apB T kd c s E f).2.1) (I := (apB T kd c s E f).2.2) h8.1 h8.2
theorem dr1_bok {kd c s : Nat} {E f : Nat → Nat} (hn : T.1 2 0 < 24) : ok2 (up2 (up2 (apB T kd c s E f).1 4 24 0) 5 24 0, (apB T kd c s E f).2) → ok2 (up2 (up2 (apB (dr1 T) kd c s E f).1 4 24 0) 5 24 0, (apB (dr1 T) kd c s E f).2) := by
  unfold dr1
  by_cases c0 : T.1 4 24 = 0
  · rw [if_pos c0]
    intro h
    obtain ⟨⟨g1, g2, g3, ⟨b1, b2, b3, b4, b5, b6, b7, b8⟩, g5, g6, ⟨a1, a2, a3, a4⟩, g8⟩, hc⟩ := h
    have eN : ∀ q a, ¬ (q = 4 ∧ a = 24) → (apB (up2 T.1 4 24 1, up2 T.2.1 3 24 (fun _ => 0), T.2.2) kd c s E f).1 q a = (apB T kd c s E f).1 q a := by
      intro q a g
      show up2 (up2 (up2 (up2 (up2 (up2 (up2 (up2 T.1 4 24 1) 2 0 (T.1 2 0 + 1)) 3 (T.1 2 0) kd) 4 (T.1 2 0) c) 5 (T.1 2 0) s) 18 (T.1 2 0) 0) 19 (T.1 2 0) 0) 20 (T.1 2 0) 0 q a = up2 (up2 (up2 (up2 (up2 (up2 (up2 T.1 2 0 (T.1 2 0 + 1)) 3 (T.1 2 0) kd) 4 (T.1 2 0) c) 5 (T.1 2 0) s) 18 (T.1 2 0) 0) 19 (T.1 2 0) 0) 20 (T.1 2 0) 0 q a
      rw [up2_sw (k := 4) (k' := 2) (by decide), up2_sw (k := 4) (k' := 3) (by decide)]
      have e4 : up2 (up2 (up2 (up2 T.1 2 0 (T.1 2 0 + 1)) 3 (T.1 2 0) kd) 4 24 1) 4 (T.1 2 0) c = up2 (up2 (up2 (up2 T.1 2 0 (T.1 2 0 + 1)) 3 (T.1 2 0) kd) 4 (T.1 2 0) c) 4 24 1 := by
        funext q' a'
        unfold up2
        by_cases z1 : q' = 4
        · by_cases z2 : a' = 24
          · have : ¬ (24 = T.1 2 0) := by omega
            simp [z1, z2, this]
          · simp [z1, z2]
        · simp [z1]
      rw [e4, up2_sw (k := 4) (k' := 5) (by decide), up2_sw (k := 4) (k' := 18) (by decide), up2_sw (k := 4) (k' := 19) (by decide), up2_sw (k := 4) (k' := 20) (by decide), up2_o g]
    have eM : up2 (up2 (apB (up2 T.1 4 24 1, up2 T.2.1 3 24 (fun _ => 0), T.2.2) kd c s E f).1 4 24 0) 5 24 0 = up2 (up2 (apB T kd c s E f).1 4 24 0) 5 24 0 := by
      funext q a
      by_cases z : q = 4 ∧ a = 24
      · obtain ⟨rfl, rfl⟩ := z
        rw [up2_k (by decide), up2_eq, up2_k (by decide), up2_eq]
      · by_cases z2 : q = 5 ∧ a = 24
        · obtain ⟨rfl, rfl⟩ := z2
          rw [up2_eq, up2_eq]
        · rw [up2_o z2, up2_o z, up2_o z2, up2_o z, eN q a z]
    have eJ : ∀ q a, ¬ (q = 3 ∧ a = 24) → (apB (up2 T.1 4 24 1, up2 T.2.1 3 24 (fun _ => 0), T.2.2) kd c s E f).2.1 q a = (apB T kd c s E f).2.1 q a := by
      intro q a g
      show up2 (up2 (up2 T.2.1 3 24 (fun _ => 0)) 3 (T.1 2 0) E) 0 (T.1 2 0) f q a = up2 (up2 T.2.1 3 (T.1 2 0) E) 0 (T.1 2 0) f q a
      by_cases z1 : q = 0 ∧ a = T.1 2 0
      · obtain ⟨rfl, rfl⟩ := z1
        rw [up2_eq, up2_eq]
      · rw [up2_o z1, up2_o z1]
        by_cases z2 : q = 3 ∧ a = T.1 2 0
        · obtain ⟨rfl, rfl⟩ := z2
          rw [up2_eq, up2_eq]
        · rw [up2_o z2, up2_o z2, up2_o g]
    unfold ok2 okT
    dsimp only
    rw [eM]
    dsimp only at b2
    refine ⟨⟨g1, g2, ⟨Nat.zero_le _, ⟨fun j hj => absurd hj (Nat.not_lt_zero _), rfl⟩, fun q hq => absurd hq (Nat.not_lt_zero _), fun q hq => absurd hq (Nat.not_lt_zero _)⟩, ⟨b1, fun b hb => ?_, b3, b4, b5, b6, b7, b8⟩, g5, ?_, ⟨a1, ?_, a3, a4⟩, g8⟩, hc⟩
    · have hb24 : b ≠ 24 := isB3_24 hb b1
      obtain ⟨o1, o2⟩ := b2 b hb
      exact ⟨okB_cong o1 rfl rfl rfl (eJ 3 b (by omega)) (eJ 0 b (by omega)), o2⟩
    · exact g6
    · exact a2
  · rw [if_neg c0]
    exact id
theorem k2_book (h : ok2 T) : ok2 (s_book T i).2 := by
  unfold s_book
  cases hi : ix i 3 with
  | none => exact h
  | some kd =>
    obtain ⟨hk3, -, rfl⟩ := ix_some hi
    dsimp only
    by_cases cf : fitB (T.2.1 3 24) (T.1 4 24) kd = true
    · rw [if_pos cf]
      by_cases c4 : 24 ≤ T.1 2 0
      · rw [if_pos c4]; exact h
      · rw [if_neg c4]
        obtain ⟨q1, q2, q3, q4, q5, q6⟩ := dr1_ok h.1
        obtain ⟨d1, d2, d3, d4⟩ := h.1.2.2.1
        have hs : (dr1 T).1 5 24 = T.1 5 24 := by unfold dr1; split <;> rfl
        have hs3 : T.1 5 24 ≤ 320 := by
          by_cases k0 : kd = 0
          · unfold fitB at cf
            rw [if_pos k0, decide_eq_true_eq] at cf
            have := okE_sum _ d2 (fun q hq => (d3 q hq).2) (T.1 4 24) (Nat.le_refl _)
            rw [d2.2] at this
            omega
          · unfold fitB at cf
            rw [if_neg k0, Bool.and_eq_true] at cf
            have := okE_sum (k := 16) _ d2 (fun q hq => (fitL_all _ cf.1 q hq).2) (T.1 4 24) (Nat.le_refl _)
            rw [d2.2] at this
            omega
        have h5 : 1 ≤ kd → ∀ q, q < (dr1 T).1 4 24 → 0 < (dr1 T).2.1 3 24 q - pst ((dr1 T).2.1 3 24) q := by
          intro k1
          unfold fitB at cf
          rw [if_neg (by omega), Bool.and_eq_true, decide_eq_true_eq] at cf
          have e : dr1 T = T := by unfold dr1; rw [if_neg (by omega)]
          rw [e]
          exact fun q hq => (d3 q hq).1
        unfold bokT
        exact dr1_bok (by omega) (ok2_bok h (by omega) q1 q2 (by omega) (by omega) h5 q4 q5)
    · rw [if_neg cf]; exact h
end KEP
