/-! ===== the claim ===== -/
theorem ok2_T0 : ok2 T0 := by
  refine ⟨⟨⟨Nat.zero_le _, fun j hj => absurd hj (Nat.not_lt_zero _)⟩, ⟨Nat.zero_le _, fun j hj => absurd hj (Nat.not_lt_zero _)⟩, ⟨Nat.zero_le _, ⟨fun j hj => absurd hj (Nat.not_lt_zero _), rfl⟩, fun j hj => absurd hj (Nat.not_lt_zero _), fun j hj => absurd hj (Nat.not_lt_zero _)⟩, ⟨Nat.zero_le _, fun b hb => ?_, rfl, rfl, rfl, rfl, rfl, rfl⟩, ⟨Nat.zero_le _, Nat.zero_le _, fun _ => rfl, by decide, fun j hj => absurd hj (Nat.not_lt_zero _)⟩, ⟨Nat.zero_le _, fun j hj => absurd hj (Nat.not_lt_zero _), Nat.zero_le _⟩, ⟨Nat.zero_le _, fun j hj => absurd hj (Nat.not_lt_zero _), Nat.zero_le _, fun z => absurd rfl z⟩, Nat.zero_le _⟩, Nat.zero_le _⟩
  rcases hb with hb | rfl
  · exact absurd hb (Nat.not_lt_zero _)
  · exact ⟨⟨⟨fun j hj => absurd hj (Nat.not_lt_zero _), rfl⟩, Nat.zero_le _, Nat.zero_le _, Nat.zero_le _, fun _ j hj => absurd hj (Nat.not_lt_zero _), fun j hj => absurd hj (Nat.not_lt_zero _), fun j hj => absurd hj (Nat.not_lt_zero _)⟩, by decide, by decide, by decide⟩
theorem pm_hp0_mkh {base b L : Nat} {xs : Nat → Int32} : pm_hp0 base b L xs = mkh base 0 (fun a => if a = b then some (1, 2, L) else none) (fun _ _ => 0) (fun _ _ => none) (fun _ => xs) (fun _ _ => none) := by
  unfold pm_hp0 mkh
  refine Prod.ext rfl (Prod.ext rfl (funext fun a => ?_))
  dsimp only
  by_cases c : a = b
  · rw [if_pos c, if_pos c]; rfl
  · rw [if_neg c, if_neg c]
theorem pm_goal : pm_Goal := by
  intro base b L xs hb hL
  have key : rc_ 9 mL_law [.ref b] (pm_hp0 base b L xs) (fun r hp => r = some (.int 1) ∧ hp.1 ≤ base + 600000 ∧ hp.2.1 ≤ 7000000) := by
    rw [pm_hp0_mkh, eL_law]
    simp only [rL_law_0, rL_law_3]
    rw [rL_law_4]
    refine k_init11 (k := 4) (x := base) up1_eq ?_
    intro u1 sh1 F1 R1 A1 B1 hcX ag1 hu1
    obtain ⟨g1, g2, g3, g4, g5⟩ := id ag1
    simp only [rL_law_7, rL_law_7_n, rL_law_8, rL_law_11, up2_eq, va_rf, eq_self, or_true, true_or, Option.toList_some, Option.toList_none, List.cons_append, List.nil_append, if_true, if_false]
    rw [rL_law_12]
    refine k_init12 (k := 7) (y := base + 78) up1_eq ?_
    intro u2 sh2 R2 A2 hM e1 e2 e3 e4 hu2
    simp only [rL_law_15, rL_law_15_n, rL_law_16, rL_law_17, up2_eq, va_rf, eq_self, or_true, true_or, Option.toList_some, Option.toList_none, List.cons_append, List.nil_append, if_true, if_false]
    rw [show base + 78 + 39 = base + 117 from rfl]
    have hX : XS (base + 117) sh2 (up2 (zap F1 (base + 78) 0) 1227 (base + 78) (-1)) R2 A2 B1 base (fun _ => base + 11) (fun _ => 0) T0 := by
      refine hcX _ _ _ _ _ ⟨fun a ha => ?_, fun q a ha => ?_, fun q a ha => ?_, fun a ha => e3 a (by omega), fun _ _ => rfl⟩ _ (Nat.le_refl _)
      · rw [e1 a (by omega), up1_ne (by omega)]
      · rw [up2_o (by omega), zap_ne (by omega)]
      · rw [e2 q a (by omega), zap_ne (by omega)]
    have hMS : MS (up2 (zap F1 (base + 78) 0) 1227 (base + 78) (-1)) A2 (base + 78) T0 := MS_T0 (fun q _ hq => by rw [up2_k hq, zap_eq]) up2_eq e4
    have hs : sh2 b = some (1, 2, L) := by
      rw [e1 b (by omega), up1_ne (by omega), g1 b (by omega), up1_ne (by omega)]
      exact if_pos rfl
    have hxs : ∀ j, j < L → A2 b j = xs j := fun j _ => by rw [e3 b (by omega), g4 b (by omega)]
    have hB : BS base b L (base + 117) xs sh2 (up2 (zap F1 (base + 78) 0) 1227 (base + 78) (-1)) R2 A2 B1 T0 := ⟨⟨_, _, hX⟩, hM, hMS, ok2_T0, ⟨hs, hb, hL⟩, hxs⟩
    refine l_law (n0 := base + 117) (u0 := 200000) (fun hp' h1 h2 => ⟨rfl, by omega, by omega⟩) (L - 6 * 0) 0 _ _ _ _ _ _ _ T0 rfl (by omega) (by omega) (by omega) hB
  obtain ⟨f, r, hp', h1, h2, h3, h4⟩ := key
  subst h2
  exact ⟨f, hp', h1, h3, h4⟩
theorem i_vc : Claimed_1_1 ∧ Claimed_1_2 := pm_end pm_goal
