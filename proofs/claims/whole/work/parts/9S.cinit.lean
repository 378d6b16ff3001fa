/-! ===== the class: its parts are made ===== -/
def aIn (LL : List (Nat × Nat × Nat × Nat)) (o i : Nat) (sh0 : hs_) (R0 : hR_) (A0 : hF_) (sh : hs_) (R : hR_) (A : hF_) : Prop :=
  (∀ a, a < o + 1 → sh a = sh0 a) ∧ (∀ q a, a ≠ o → R q a = R0 q a) ∧ (∀ a, a < o + 1 → A a = A0 a) ∧ ∀ e, e ∈ LL.take i → R e.1 o = some (o + e.2.1) ∧ sh (o + e.2.1) = some (1, e.2.2.1, e.2.2.2)
def pRl : List (Nat × Nat × Nat × Nat) := [(400, 1, 0, 121), (401, 2, 0, 121), (402, 3, 0, 121), (403, 4, 0, 121), (404, 5, 0, 121), (405, 6, 0, 321), (406, 7, 0, 121), (407, 8, 0, 121)]
section CIN
variable {k n u u0 : Nat} {sh sh0 : hs_} {F : hF_} {R R0 : hR_} {A A0 : hF_} {B : hR_} {Q : Option Value → pm_H → Prop} {o i : Nat} {LL : List (Nat × Nat × Nat × Nat)}
theorem aIn_step {q t l : Nat} (h : aIn LL o i sh0 R0 A0 sh R A) (hn : n = o + (i + 1)) (he : LL.take (i + 1) = LL.take i ++ [(q, i + 1, t, l)]) (hq : ∀ e, e ∈ LL.take i → e.1 ≠ q ∧ e.2.1 < i + 1) : aIn LL o (i + 1) sh0 R0 A0 (up1 sh n (some (1, t, l))) (up2 R q o (some n)) (up1 A n (fun _ => 0)) := by
  subst hn
  obtain ⟨a1, a2, a3, a4⟩ := h
  refine ⟨fun a ha => by rw [up1_ne (by omega)]; exact a1 a ha, fun q' a g => by rw [up2_a g]; exact a2 q' a g, fun a ha => by rw [up1_ne (by omega)]; exact a3 a ha, fun e hm => ?_⟩
  rw [he, List.mem_append, List.mem_singleton] at hm
  rcases hm with hm | rfl
  · obtain ⟨q1, q2⟩ := hq e hm
    obtain ⟨b1, b2⟩ := a4 e hm
    exact ⟨by rw [up2_k q1]; exact b1, by rw [up1_ne (by omega)]; exact b2⟩
  · exact ⟨up2_eq, up1_eq⟩
theorem l_gm4 (hs : sh (o + 8) = some (1, 0, 121)) (ho : sh o = some (0, 4, 0)) (hr : R 407 o = some (o + 8))
    (hQ : ∀ A', (∀ a, a ≠ o + 8 → A' a = A a) → (∀ j, 1 ≤ j → j ≤ 120 → A' (o + 8) j = nI (gm j)) → Q none (mkh n u sh F R A' B)) :
    ∀ d j A1, j + d = 121 → 1 ≤ j → (∀ a, a ≠ o + 8 → A1 a = A a) → (∀ q, 1 ≤ q → q < j → A1 (o + 8) q = nI (gm q)) → rw_ (k + 2) mX4_init 71 [.ref o, .int (nI j)] [] (mkh n u sh F R A1 B) Q := by
  intro d
  induction d with
  | zero =>
    intro j A1 hj hj1 f1 f2
    have g1 : nI 120 < nI j := nI_lt (by omega) (by omega)
    simp only [rX4_init_71, rX4_init_72, rX4_init_74, rX4_init_93, g1, up2_eq, va_rf, eq_self, or_true, true_or, Option.toList_some, Option.toList_none, List.cons_append, List.nil_append, if_true, if_false]
    exact hQ A1 f1 (fun q q1 q2 => f2 q q1 (by omega))
  | succ d ih =>
    intro j A1 hj hj1 f1 f2
    have g1 : ¬ nI 120 < nI j := nI_nlt (by omega) (by omega)
    simp only [rX4_init_71, rX4_init_72, rX4_init_74, rX4_init_77, rX4_init_78, rX4_init_81, rX4_init_82, g1, ho, hr, up2_eq, va_rf, eq_self, or_true, true_or, Option.toList_some, Option.toList_none, List.cons_append, List.nil_append, if_true, if_false]
    rw [rX4_init_83, k_gamma (by omega) (by omega)]
    simp only [up2_eq, va_rf, eq_self, or_true, true_or, Option.toList_some, Option.toList_none, List.cons_append, List.nil_append, if_true, if_false]
    rw [rX4_init_86 hs (by omega) (by omega)]
    simp only [rX4_init_87, rX4_init_90, nI_add, up2_eq, va_rf, eq_self, or_true, true_or, Option.toList_some, Option.toList_none, List.cons_append, List.nil_append, if_true, if_false]
    refine ih (j + 1) _ (by omega) (by omega) (fun a ha => by rw [up2_row ha]; exact f1 a ha) (fun q q1 q2 => ?_)
    by_cases e : q = j
    · subst e; rw [up2_eq]
    · rw [up2_a e]; exact f2 q q1 (by omega)
theorem l_pi_8 {x1 : Value} (h : aIn pRl o 8 sh0 R0 A0 sh R A) (hn : n = o + 9) (hu : u ≤ u0 + 1168) (hQ : ∀ u' sh' R' A', aIn pRl o 8 sh0 R0 A0 sh' R' A' → u' ≤ u0 + 1168 → rw_ (k + 2) mX4_init 69 [.ref o, x1] [] (mkh (o + 9) u' sh' F R' A' B) Q) : rw_ (k + 2) mX4_init 69 [.ref o, x1] [] (mkh n u sh F R A B) Q := by
  subst hn
  exact hQ _ _ _ _ h hu
theorem l_pi_7 {x1 : Value} (hy : sh0 o = some (0, 4, 0)) (h : aIn pRl o 7 sh0 R0 A0 sh R A) (hn : n = o + 8) (hu : u ≤ u0 + 1047) (hQ : ∀ u' sh' R' A', aIn pRl o 8 sh0 R0 A0 sh' R' A' → u' ≤ u0 + 1168 → rw_ (k + 2) mX4_init 69 [.ref o, x1] [] (mkh (o + 9) u' sh' F R' A' B) Q) : rw_ (k + 2) mX4_init 61 [.ref o, x1] [] (mkh n u sh F R A B) Q := by
  have h1 := aIn_step (q := 407) (t := 0) (l := 121) h hn rfl (by decide)
  rw [rX4_init_61, rX4_init_62, rX4_init_64 (by decide), rX4_init_66 ((h1.1 o (by omega)).trans hy)]
  exact l_pi_8 h1 (by omega) (by omega) hQ
theorem l_pi_6 {x1 : Value} (hy : sh0 o = some (0, 4, 0)) (h : aIn pRl o 6 sh0 R0 A0 sh R A) (hn : n = o + 7) (hu : u ≤ u0 + 926) (hQ : ∀ u' sh' R' A', aIn pRl o 8 sh0 R0 A0 sh' R' A' → u' ≤ u0 + 1168 → rw_ (k + 2) mX4_init 69 [.ref o, x1] [] (mkh (o + 9) u' sh' F R' A' B) Q) : rw_ (k + 2) mX4_init 53 [.ref o, x1] [] (mkh n u sh F R A B) Q := by
  have h1 := aIn_step (q := 406) (t := 0) (l := 121) h hn rfl (by decide)
  rw [rX4_init_53, rX4_init_54, rX4_init_56 (by decide), rX4_init_58 ((h1.1 o (by omega)).trans hy)]
  exact l_pi_7 hy h1 (by omega) (by omega) hQ
theorem l_pi_5 {x1 : Value} (hy : sh0 o = some (0, 4, 0)) (h : aIn pRl o 5 sh0 R0 A0 sh R A) (hn : n = o + 6) (hu : u ≤ u0 + 605) (hQ : ∀ u' sh' R' A', aIn pRl o 8 sh0 R0 A0 sh' R' A' → u' ≤ u0 + 1168 → rw_ (k + 2) mX4_init 69 [.ref o, x1] [] (mkh (o + 9) u' sh' F R' A' B) Q) : rw_ (k + 2) mX4_init 44 [.ref o, x1] [] (mkh n u sh F R A B) Q := by
  have h1 := aIn_step (q := 405) (t := 0) (l := 321) h hn rfl (by decide)
  rw [rX4_init_44, rX4_init_45, rX4_init_48 (by decide), rX4_init_50 ((h1.1 o (by omega)).trans hy)]
  exact l_pi_6 hy h1 (by omega) (by omega) hQ
theorem l_pi_4 {x1 : Value} (hy : sh0 o = some (0, 4, 0)) (h : aIn pRl o 4 sh0 R0 A0 sh R A) (hn : n = o + 5) (hu : u ≤ u0 + 484) (hQ : ∀ u' sh' R' A', aIn pRl o 8 sh0 R0 A0 sh' R' A' → u' ≤ u0 + 1168 → rw_ (k + 2) mX4_init 69 [.ref o, x1] [] (mkh (o + 9) u' sh' F R' A' B) Q) : rw_ (k + 2) mX4_init 36 [.ref o, x1] [] (mkh n u sh F R A B) Q := by
  have h1 := aIn_step (q := 404) (t := 0) (l := 121) h hn rfl (by decide)
  rw [rX4_init_36, rX4_init_37, rX4_init_39 (by decide), rX4_init_41 ((h1.1 o (by omega)).trans hy)]
  exact l_pi_5 hy h1 (by omega) (by omega) hQ
theorem l_pi_3 {x1 : Value} (hy : sh0 o = some (0, 4, 0)) (h : aIn pRl o 3 sh0 R0 A0 sh R A) (hn : n = o + 4) (hu : u ≤ u0 + 363) (hQ : ∀ u' sh' R' A', aIn pRl o 8 sh0 R0 A0 sh' R' A' → u' ≤ u0 + 1168 → rw_ (k + 2) mX4_init 69 [.ref o, x1] [] (mkh (o + 9) u' sh' F R' A' B) Q) : rw_ (k + 2) mX4_init 28 [.ref o, x1] [] (mkh n u sh F R A B) Q := by
  have h1 := aIn_step (q := 403) (t := 0) (l := 121) h hn rfl (by decide)
  rw [rX4_init_28, rX4_init_29, rX4_init_31 (by decide), rX4_init_33 ((h1.1 o (by omega)).trans hy)]
  exact l_pi_4 hy h1 (by omega) (by omega) hQ
theorem l_pi_2 {x1 : Value} (hy : sh0 o = some (0, 4, 0)) (h : aIn pRl o 2 sh0 R0 A0 sh R A) (hn : n = o + 3) (hu : u ≤ u0 + 242) (hQ : ∀ u' sh' R' A', aIn pRl o 8 sh0 R0 A0 sh' R' A' → u' ≤ u0 + 1168 → rw_ (k + 2) mX4_init 69 [.ref o, x1] [] (mkh (o + 9) u' sh' F R' A' B) Q) : rw_ (k + 2) mX4_init 20 [.ref o, x1] [] (mkh n u sh F R A B) Q := by
  have h1 := aIn_step (q := 402) (t := 0) (l := 121) h hn rfl (by decide)
  rw [rX4_init_20, rX4_init_21, rX4_init_23 (by decide), rX4_init_25 ((h1.1 o (by omega)).trans hy)]
  exact l_pi_3 hy h1 (by omega) (by omega) hQ
theorem l_pi_1 {x1 : Value} (hy : sh0 o = some (0, 4, 0)) (h : aIn pRl o 1 sh0 R0 A0 sh R A) (hn : n = o + 2) (hu : u ≤ u0 + 121) (hQ : ∀ u' sh' R' A', aIn pRl o 8 sh0 R0 A0 sh' R' A' → u' ≤ u0 + 1168 → rw_ (k + 2) mX4_init 69 [.ref o, x1] [] (mkh (o + 9) u' sh' F R' A' B) Q) : rw_ (k + 2) mX4_init 12 [.ref o, x1] [] (mkh n u sh F R A B) Q := by
  have h1 := aIn_step (q := 401) (t := 0) (l := 121) h hn rfl (by decide)
  rw [rX4_init_12, rX4_init_13, rX4_init_15 (by decide), rX4_init_17 ((h1.1 o (by omega)).trans hy)]
  exact l_pi_2 hy h1 (by omega) (by omega) hQ
theorem l_pi_0 {x1 : Value} (hy : sh0 o = some (0, 4, 0)) (h : aIn pRl o 0 sh0 R0 A0 sh R A) (hn : n = o + 1) (hu : u ≤ u0 + 0) (hQ : ∀ u' sh' R' A', aIn pRl o 8 sh0 R0 A0 sh' R' A' → u' ≤ u0 + 1168 → rw_ (k + 2) mX4_init 69 [.ref o, x1] [] (mkh (o + 9) u' sh' F R' A' B) Q) : rw_ (k + 2) mX4_init 4 [.ref o, x1] [] (mkh n u sh F R A B) Q := by
  have h1 := aIn_step (q := 400) (t := 0) (l := 121) h hn rfl (by decide)
  rw [rX4_init_4, rX4_init_5, rX4_init_7 (by decide), rX4_init_9 ((h1.1 o (by omega)).trans hy)]
  exact l_pi_1 hy h1 (by omega) (by omega) hQ
theorem k_Packer_init (ho : sh o = some (0, 4, 0)) (hQ : ∀ u' sh' R' A', (∀ a, a < o + 1 → sh' a = sh a) → (∀ q a, a ≠ o → R' q a = R q a) → (∀ a, a < o + 1 → A' a = A a) → isK sh' R' o → (∀ j, 1 ≤ j → j ≤ 120 → A' (o + 8) j = nI (gm j)) → u' ≤ u + 1168 → Q none (mkh (o + 9) u' sh' F R' A' B)) : rc_ (k + 2) mX4_init [.ref o] (mkh (o + 1) u sh F R A B) Q := by
  rw [eX4_init, rX4_init_0, rX4_init_1]
  refine l_pi_0 (u0 := u) (sh0 := sh) (R0 := R) (A0 := A) ho ⟨fun _ _ => rfl, fun _ _ _ => rfl, fun _ _ => rfl, fun e he => absurd he (by simp)⟩ rfl (Nat.le_refl _) ?_
  intro u' sh' R' A' h hu
  obtain ⟨a1, a2, a3, a4⟩ := h
  have e8 : pRl.take 8 = pRl := rfl
  rw [e8] at a4
  have hK : isK sh' R' o := by
    have c := fun e he => a4 e he
    exact ⟨(a1 o (by omega)).trans ho, ⟨(c (400, 1, 0, 121) (by decide)).1, (c (401, 2, 0, 121) (by decide)).1, (c (402, 3, 0, 121) (by decide)).1, (c (403, 4, 0, 121) (by decide)).1, (c (404, 5, 0, 121) (by decide)).1, (c (405, 6, 0, 321) (by decide)).1, (c (406, 7, 0, 121) (by decide)).1, (c (407, 8, 0, 121) (by decide)).1⟩, (c (400, 1, 0, 121) (by decide)).2, (c (401, 2, 0, 121) (by decide)).2, (c (402, 3, 0, 121) (by decide)).2, (c (403, 4, 0, 121) (by decide)).2, (c (404, 5, 0, 121) (by decide)).2, (c (405, 6, 0, 321) (by decide)).2, (c (406, 7, 0, 121) (by decide)).2, (c (407, 8, 0, 121) (by decide)).2⟩
  rw [rX4_init_69, rX4_init_70]
  refine l_gm4 (k := k) (A := A') hK.2.2.2.2.2.2.2.2.2 hK.1 hK.2.1.2.2.2.2.2.2.2 ?_ 120 1 A' (by omega) (by omega) (fun _ _ => rfl) (fun q q1 q2 => by omega)
  intro A2 f1 f2
  exact hQ u' sh' R' A2 a1 a2 (fun a ha => by rw [f1 a (by omega)]; exact a3 a ha) hK f2 (by omega)
end CIN
