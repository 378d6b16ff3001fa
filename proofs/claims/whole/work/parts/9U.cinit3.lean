/-! ===== the class: the trainer is made ===== -/
section CI3
variable {k n u : Nat} {sh : hs_} {F : hF_} {R : hR_} {A : hF_} {B : hR_} {Q : Option Value → pm_H → Prop} {o : Nat}
theorem k_Trainer_init {pk : Nat} (ho : sh o = some (0, 8, 0))
    (hQ : ∀ u' sh' F' R' A' B', frO o sh F R A B sh' F' R' A' B' → (R' 800 o = some pk ∧ R' 801 o = some (o + 1) ∧ R' 803 o = some (o + 2) ∧ R' 805 o = some (o + 25) ∧ R' 806 o = some (o + 3) ∧ R' 807 o = some (o + 4) ∧ R' 500 (o + 4) = some (o + 5) ∧ R' 501 (o + 4) = some (o + 7) ∧ R' 100 (o + 5) = some (o + 6) ∧ R' 808 o = some (o + 8) ∧ ∀ i, i < 8 → R' 100 (o + 9 + 2 * i) = some (o + 10 + 2 * i)) → (sh' (o + 1) = some (2, 1, 8) ∧ sh' (o + 2) = some (2, 2, 8) ∧ sh' (o + 3) = some (1, 0, 8) ∧ sh' (o + 4) = some (0, 5, 0) ∧ sh' (o + 5) = some (0, 1, 0) ∧ sh' (o + 6) = some (1, 0, 72) ∧ sh' (o + 7) = some (1, 0, 6) ∧ sh' (o + 8) = some (1, 0, 6) ∧ (∀ i, i < 8 → sh' (o + 9 + 2 * i) = some (0, 1, 0) ∧ sh' (o + 10 + 2 * i) = some (1, 0, 40)) ∧ sh' (o + 25) = some (0, 2, 0) ∧ ∀ i, i < 8 → sh' (o + 26 + i) = some (0, 2, 0)) → (F' 502 (o + 4) = nI 0 ∧ F' 101 (o + 5) = nI 0) → (∀ i, i < 8 → B' (o + 1) i = some (o + 9 + 2 * i)) → (∀ i, i < 8 → B' (o + 2) i = some (o + 26 + i)) → u' ≤ u + 600 → Q none (mkh (o + 34) u' sh' F' R' A' B')) :
    rc_ (k + 3) mX8_init [.ref o, .ref pk] (mkh (o + 1) u sh F R A B) Q := by
  rw [eX8_init]
  simp only [rX8_init_0, rX8_init_1, rX8_init_4, rX8_init_5]
  have e1 : up1 sh (o + 1) (some (2, 1, 8)) o = some (0, 8, 0) := by rw [up1_ne (by omega)]; exact ho
  rw [rX8_init_7 (by decide), rX8_init_10 e1]
  simp only [rX8_init_13, rX8_init_14]
  have e2 : up1 (up1 sh (o + 1) (some (2, 1, 8))) (o + 1 + 1) (some (2, 2, 8)) o = some (0, 8, 0) := by rw [up1_ne (by omega)]; exact e1
  rw [rX8_init_16 (by decide), rX8_init_19 e2]
  simp only [rX8_init_22, rX8_init_23]
  have e3 : up1 (up1 (up1 sh (o + 1) (some (2, 1, 8))) (o + 1 + 1) (some (2, 2, 8))) (o + 1 + 1 + 1) (some (1, 0, 8)) o = some (0, 8, 0) := by rw [up1_ne (by omega)]; exact e2
  rw [rX8_init_25 (by decide), rX8_init_27 e3]
  simp only [rX8_init_30, rX8_init_31, rX8_init_34, rX8_init_35, rX8_init_37]
  rw [rX8_init_39, k_Pieces_init up1_eq (by omega) (by decide) (by decide)]
  obtain ⟨S7, hS7⟩ : ∃ S7 : hs_, S7 = up1 (up1 (up1 (up1 (up1 (up1 (up1 sh (o + 1) (some (2, 1, 8))) (o + 1 + 1) (some (2, 2, 8))) (o + 1 + 1 + 1) (some (1, 0, 8))) (o + 1 + 1 + 1 + 1) (some (0, 5, 0))) (o + 1 + 1 + 1 + 1 + 1) (some (0, 1, 0))) (o + 1 + 1 + 1 + 1 + 1 + 1) (some (1, 0, 72))) (o + 1 + 1 + 1 + 1 + 1 + 2) (some (1, 0, 6)) := ⟨_, rfl⟩
  rw [← hS7]
  have s0 : ∀ a, a < o + 1 → S7 a = sh a := fun a ha => by rw [hS7, up1_ne (by omega), up1_ne (by omega), up1_ne (by omega), up1_ne (by omega), up1_ne (by omega), up1_ne (by omega), up1_ne (by omega)]
  have s1 : S7 (o + 1) = some (2, 1, 8) := by rw [hS7, up1_ne (by omega), up1_ne (by omega), up1_ne (by omega), up1_ne (by omega), up1_ne (by omega), up1_ne (by omega), up1_eq]
  have s2 : S7 (o + 2) = some (2, 2, 8) := by rw [hS7, up1_ne (by omega), up1_ne (by omega), up1_ne (by omega), up1_ne (by omega), up1_ne (by omega), up1_eq]
  have s3 : S7 (o + 3) = some (1, 0, 8) := by rw [hS7, up1_ne (by omega), up1_ne (by omega), up1_ne (by omega), up1_ne (by omega), up1_eq]
  have s4 : S7 (o + 4) = some (0, 5, 0) := by rw [hS7, up1_ne (by omega), up1_ne (by omega), up1_ne (by omega), up1_eq]
  have s5 : S7 (o + 5) = some (0, 1, 0) := by rw [hS7, up1_ne (by omega), up1_ne (by omega), up1_eq]
  have s6 : S7 (o + 6) = some (1, 0, 72) := by rw [hS7, up1_ne (by omega), up1_eq]
  have s7 : S7 (o + 7) = some (1, 0, 6) := by rw [hS7, up1_eq]
  have so : S7 o = some (0, 8, 0) := by rw [s0 o (by omega)]; exact ho
  simp only [rX8_init_42, rX8_init_45, rX8_init_46, so, up2_eq, va_rf, eq_self, or_true, true_or, Option.toList_some, Option.toList_none, List.cons_append, List.nil_append, if_true, if_false]
  have e8 : up1 S7 (o + 1 + 1 + 1 + 1 + 1 + 3) (some (1, 0, 6)) o = some (0, 8, 0) := by rw [up1_ne (by omega)]; exact so
  rw [rX8_init_48 (by decide), rX8_init_50 e8]
  simp only [rX8_init_53, rX8_init_54, rX8_init_54_n, rX8_init_55, rX8_init_58, rX8_init_59, e8, up2_eq, va_rf, eq_self, or_true, true_or, Option.toList_some, Option.toList_none, List.cons_append, List.nil_append, if_true, if_false]
  obtain ⟨S8, hS8⟩ : ∃ S8 : hs_, S8 = up1 S7 (o + 1 + 1 + 1 + 1 + 1 + 3) (some (1, 0, 6)) := ⟨_, rfl⟩
  rw [← hS8]
  have p8 : S8 (o + 8) = some (1, 0, 6) := by rw [hS8, up1_eq]
  have po : ∀ a, a < o + 8 → S8 a = S7 a := fun a ha => by rw [hS8, up1_ne (by omega)]
  obtain ⟨R8, hR8⟩ : ∃ R8 : hR_, R8 = up2 (up2 (up2 (up2 (up2 (up2 (zap (zap (up2 (up2 (up2 R 801 o (some (o + 1))) 803 o (some (o + 1 + 1))) 806 o (some (o + 1 + 1 + 1))) (o + 1 + 1 + 1 + 1) none) (o + 1 + 1 + 1 + 1 + 1) none) 100 (o + 1 + 1 + 1 + 1 + 1) (some (o + 1 + 1 + 1 + 1 + 1 + 1))) 500 (o + 1 + 1 + 1 + 1) (some (o + 1 + 1 + 1 + 1 + 1))) 501 (o + 1 + 1 + 1 + 1) (some (o + 1 + 1 + 1 + 1 + 1 + 2))) 807 o (some (o + 1 + 1 + 1 + 1))) 808 o (some (o + 1 + 1 + 1 + 1 + 1 + 3))) 800 o (some pk) := ⟨_, rfl⟩
  rw [← hR8]
  have t0 : ∀ q a, a < o → R8 q a = R q a := fun q a ha => by rw [hR8, up2_o (by omega), up2_o (by omega), up2_o (by omega), up2_o (by omega), up2_o (by omega), up2_o (by omega), zap_ne (by omega), zap_ne (by omega), up2_o (by omega), up2_o (by omega), up2_o (by omega)]
  have t800 : R8 800 o = some pk := by rw [hR8, up2_eq]
  have t808 : R8 808 o = some (o + 8) := by rw [hR8, up2_k (by decide), up2_eq]
  have t807 : R8 807 o = some (o + 4) := by rw [hR8, up2_k (by decide), up2_k (by decide), up2_eq]
  have t501 : R8 501 (o + 4) = some (o + 7) := by rw [hR8, up2_k (by decide), up2_k (by decide), up2_k (by decide), up2_eq]
  have t500 : R8 500 (o + 4) = some (o + 5) := by rw [hR8, up2_k (by decide), up2_k (by decide), up2_k (by decide), up2_k (by decide), up2_eq]
  have t100 : R8 100 (o + 5) = some (o + 6) := by rw [hR8, up2_k (by decide), up2_k (by decide), up2_k (by decide), up2_k (by decide), up2_k (by decide), up2_eq]
  have t806 : R8 806 o = some (o + 3) := by rw [hR8, up2_k (by decide), up2_k (by decide), up2_k (by decide), up2_k (by decide), up2_k (by decide), up2_k (by decide), zap_ne (by omega), zap_ne (by omega), up2_eq]
  have t803 : R8 803 o = some (o + 2) := by rw [hR8, up2_k (by decide), up2_k (by decide), up2_k (by decide), up2_k (by decide), up2_k (by decide), up2_k (by decide), zap_ne (by omega), zap_ne (by omega), up2_k (by decide), up2_eq]
  have t801 : R8 801 o = some (o + 1) := by rw [hR8, up2_k (by decide), up2_k (by decide), up2_k (by decide), up2_k (by decide), up2_k (by decide), up2_k (by decide), zap_ne (by omega), zap_ne (by omega), up2_k (by decide), up2_k (by decide), up2_eq]
  refine l_tI1 (k := k + 1) (u := u + 8 + 8 + 8 + 3 + 2 + 72 + 6 + 6) ((po o (by omega)).trans so) ((po _ (by omega)).trans s1) t801 ?_ 8 0 _ _ _ _ _ _ _ (by omega) (by omega) (by omega) ⟨fun _ _ => rfl, fun _ _ _ => rfl, fun _ _ _ => rfl, fun _ _ => rfl, fun _ _ _ => rfl, fun j hj => absurd hj (Nat.not_lt_zero _)⟩
  intro u1 sh1 F1 R1 A1 B1 x2 h1 hu1
  obtain ⟨f1, f2, f3, f4, f5, f6⟩ := h1
  have g0 : up1 sh1 (o + 25) (some (0, 2, 0)) o = some (0, 8, 0) := by rw [up1_ne (by omega), f1 _ (by omega), po _ (by omega)]; exact so
  have g1 : up1 sh1 (o + 25) (some (0, 2, 0)) (o + 1) = some (2, 1, 8) := by rw [up1_ne (by omega), f1 _ (by omega), po _ (by omega)]; exact s1
  have g801 : zap R1 (o + 25) none 801 o = some (o + 1) := by rw [zap_ne (by omega), f3 _ _ (by omega)]; exact t801
  have gB : B1 (o + 1) 0 = some (o + 9) := (f6 0 (by omega)).2.2.2
  simp only [rX8_init_87, rX8_init_88, rX8_init_91, rX8_init_92, rX8_init_93, rX8_init_96, g0, g801, up2_eq, va_rf, eq_self, or_true, true_or, Option.toList_some, Option.toList_none, List.cons_append, List.nil_append, if_true, if_false]
  rw [rX8_init_97 g1 (by omega) (by omega), gB]
  simp only [up2_eq, va_rf, eq_self, or_true, true_or, Option.toList_some, Option.toList_none, List.cons_append, List.nil_append, if_true, if_false]
  rw [rX8_init_98, k_Cand_init up1_eq]
  simp only [rX8_init_101, rX8_init_104, rX8_init_105, g0, up2_eq, va_rf, eq_self, or_true, true_or, Option.toList_some, Option.toList_none, List.cons_append, List.nil_append, if_true, if_false]
  obtain ⟨S9, hS9⟩ : ∃ S9 : hs_, S9 = up1 sh1 (o + 25) (some (0, 2, 0)) := ⟨_, rfl⟩
  obtain ⟨R9, hR9⟩ : ∃ R9 : hR_, R9 = up2 (up2 (zap R1 (o + 25) none) 200 (o + 25) (some (o + 9))) 805 o (some (o + 25)) := ⟨_, rfl⟩
  rw [← hS9, ← hR9]
  have q9 : ∀ a, a < o + 25 → S9 a = sh1 a := fun a ha => by rw [hS9, up1_ne (by omega)]
  have q925 : S9 (o + 25) = some (0, 2, 0) := by rw [hS9, up1_eq]
  have r9 : ∀ q a, ¬ (q = 805 ∧ a = o) → a < o + 25 → R9 q a = R1 q a := fun q a g ha => by rw [hR9, up2_o g, up2_o (by omega), zap_ne (by omega)]
  have r805 : R9 805 o = some (o + 25) := by rw [hR9, up2_eq]
  refine l_tI2 (k := k + 1) (u := u1 + 4) (sh := S9) (R := R9) (F := zap F1 (o + 25) 0) (A := A1) (B := B1) (by rw [q9 _ (by omega), f1 _ (by omega), po _ (by omega)]; exact so) (by rw [q9 _ (by omega), f1 _ (by omega), po _ (by omega)]; exact s1) (by rw [q9 _ (by omega), f1 _ (by omega), po _ (by omega)]; exact s2) (by rw [r9 _ _ (by omega) (by omega), f3 _ _ (by omega)]; exact t801) (by rw [r9 _ _ (by omega) (by omega), f3 _ _ (by omega)]; exact t803) gB ?_ 8 0 _ _ _ _ _ _ _ (by omega) (by omega) (by omega) ⟨fun _ _ => rfl, fun _ _ _ => rfl, fun _ _ _ => rfl, fun _ _ => rfl, fun _ _ _ => rfl, fun j hj => absurd hj (Nat.not_lt_zero _)⟩
  intro u2 sh2 F2 R2 A2 B2 h2 hu2
  obtain ⟨v1, v2, v3, v4, v5, v6⟩ := h2
  have cs : ∀ a, a < o + 9 → sh2 a = S8 a := fun a ha => by rw [v1 a (by omega), q9 a (by omega), f1 a ha]
  have cr : ∀ q a, a < o + 9 → ¬ (q = 805 ∧ a = o) → R2 q a = R8 q a := fun q a ha g => by rw [v3 q a (by omega), r9 q a g (by omega), f3 q a ha]
  refine hQ u2 sh2 F2 R2 A2 B2 ⟨fun a ha => by rw [cs a (by omega), po a (by omega), s0 a ha], fun q a ha => ?_, fun q a ha => by rw [cr q a (by omega) (by omega), t0 q a ha], fun a ha => ?_, fun a ha => ?_⟩ ⟨by rw [cr _ _ (by omega) (by omega)]; exact t800, by rw [cr _ _ (by omega) (by omega)]; exact t801, by rw [cr _ _ (by omega) (by omega)]; exact t803, by rw [v3 _ _ (by omega)]; exact r805, by rw [cr _ _ (by omega) (by omega)]; exact t806, by rw [cr _ _ (by omega) (by omega)]; exact t807, by rw [cr _ _ (by omega) (by omega)]; exact t500, by rw [cr _ _ (by omega) (by omega)]; exact t501, by rw [cr _ _ (by omega) (by omega)]; exact t100, by rw [cr _ _ (by omega) (by omega)]; exact t808, fun i hi => ?_⟩ ⟨by rw [cs _ (by omega), po _ (by omega)]; exact s1, by rw [cs _ (by omega), po _ (by omega)]; exact s2, by rw [cs _ (by omega), po _ (by omega)]; exact s3, by rw [cs _ (by omega), po _ (by omega)]; exact s4, by rw [cs _ (by omega), po _ (by omega)]; exact s5, by rw [cs _ (by omega), po _ (by omega)]; exact s6, by rw [cs _ (by omega), po _ (by omega)]; exact s7, by rw [cs _ (by omega)]; exact p8, fun i hi => ⟨?_, ?_⟩, by rw [v1 _ (by omega)]; exact q925, fun i hi => (v6 i hi).1⟩ ⟨?_, ?_⟩ (fun i hi => ?_) (fun i hi => (v6 i hi).2) (by omega)
  · rw [v2 q a (by omega), zap_ne (by omega), f2 q a (by omega), zap_ne (by omega), zap_ne (by omega)]
  · rw [v4 a (by omega), f4 a (by omega), up1_ne (by omega), up1_ne (by omega), up1_ne (by omega), up1_ne (by omega)]
  · rw [v5 a (by omega) (by omega), f5 a (by omega) (by omega), up1_ne (by omega), up1_ne (by omega)]
  · rw [v3 _ _ (by omega), r9 _ _ (by omega) (by omega)]; exact (f6 i hi).2.2.1
  · rw [v1 _ (by omega), q9 _ (by omega)]; exact (f6 i hi).1
  · rw [v1 _ (by omega), q9 _ (by omega)]; exact (f6 i hi).2.1
  · rw [v2 _ _ (by omega), zap_ne (by omega), f2 _ _ (by omega), zap_ne (by omega), zap_eq]; rfl
  · rw [v2 _ _ (by omega), zap_ne (by omega), f2 _ _ (by omega), zap_eq]; rfl
  · rw [v5 _ (by omega) (by omega)]; exact (f6 i hi).2.2.2
end CI3
