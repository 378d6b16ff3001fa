/-! ===== the class: pieces copied, a book more ===== -/
section CPY
variable {k n u : Nat} {sh : hs_} {F : hF_} {R : hR_} {A : hF_} {B : hR_} {Q : Option Value → pm_H → Prop} {o r v z s e ze c : Nat} {E : Nat → Nat}
theorem l_copy (hp : isP sh F R A o r v z s e ze c E) (hE : okE E c s) (hn1 : n ≠ o) (hn2 : n + 1 ≠ r) (hv1 : v < n) (he1 : e < n) (ho : o < n) (hr : r < n) (hy : ∀ j, j < s → A v j &&& nI 255 = A v j) (h1 : sh n = some (0, 5, 0)) (h2 : R 500 n = some (n + 1)) (h3 : R 501 n = some (n + 3)) (h4 : sh (n + 3) = some (1, 0, c)) (h5 : sh (n + 1) = some (0, 1, 0)) (h6 : R 100 (n + 1) = some (n + 2)) (h7 : sh (n + 2) = some (1, 0, s)) (hc : c < 2 ^ 20) (hs : s < 2 ^ 20) {n1 : Nat}
    (hQ : ∀ F' A', (∀ q a, a < n → F' q a = F q a) → (∀ a, a < n → A' a = A a) → F' 502 n = nI c → F' 101 (n + 1) = nI s → (∀ q, q < c → A' (n + 3) q = nI (E q)) → (∀ j, j < s → A' (n + 2) j = A v j) → Q (some (.ref n)) (mkh n1 u sh F' R A' B)) :
    ∀ d i F1 A1, i + d = c → (∀ q a, a < n → F1 q a = F q a) → (∀ a, a < n → A1 a = A a) → F1 502 n = nI i → F1 101 (n + 1) = nI (pst E i) → (∀ q, q < i → A1 (n + 3) q = nI (E q)) → (∀ j, j < pst E i → A1 (n + 2) j = A v j) →
    rw_ (k + 3) mX5_copy 21 [.ref o, .ref n, .int (nI i)] [] (mkh n1 u sh F1 R A1 B) Q := by
  obtain ⟨p1, p2, p3, p4, p5, p6, p7, p8, p9⟩ := id hp
  intro d
  induction d with
  | zero =>
    intro i F1 A1 hi f1 f2 f3 f4 f5 f6
    have ei : i = c := by omega
    subst ei
    have e502 : F1 502 o = nI i := by rw [f1 _ _ ho]; exact p6
    have g1 : nI i ≤ nI i := nI_le (Nat.le_refl _) (by omega)
    rw [hE.2] at f4 f6
    simp only [rX5_copy_21, rX5_copy_22, rX5_copy_23, rX5_copy_26, rX5_copy_53, rX5_copy_53_n, rX5_copy_54, rX5_copy_54_n, p1, e502, g1, up2_eq, va_rf, eq_self, or_true, true_or, Option.toList_some, Option.toList_none, List.cons_append, List.nil_append, if_true, if_false]
    exact hQ F1 A1 f1 f2 f3 f4 f5 f6
  | succ d ih =>
    intro i F1 A1 hi f1 f2 f3 f4 f5 f6
    have e502 : F1 502 o = nI c := by rw [f1 _ _ ho]; exact p6
    have g1 : ¬ nI c ≤ nI i := nI_ge (by omega) (by omega)
    have hpi := hE.1 i (by omega)
    have hpl := hE.E_le (j := i) (by omega)
    have hps := hE.pst_le (j := i) (by omega)
    have hp1 : isP sh F1 R A1 o r v z s e ze c E := isP_cong hp (f1 _ _ ho) (f1 _ _ hr) rfl rfl rfl (f2 _ he1)
    have hd : isP sh F1 R A1 n (n + 1) (n + 2) s (pst E i) (n + 3) c i E := ⟨h1, h2, h3, h4, by omega, f3, by omega, f5, h5, h6, h7, by omega, f4, hps⟩
    simp only [rX5_copy_21, rX5_copy_22, rX5_copy_23, rX5_copy_26, rX5_copy_29, rX5_copy_29_n, rX5_copy_30, rX5_copy_31, rX5_copy_34, rX5_copy_35, p1, p2, e502, g1, up2_eq, va_rf, eq_self, or_true, true_or, Option.toList_some, Option.toList_none, List.cons_append, List.nil_append, if_true, if_false]
    rw [rX5_copy_36 p1, k_Pieces_start hp1 (by omega)]
    simp only [rX5_copy_39, rX5_copy_40, up2_eq, va_rf, eq_self, or_true, true_or, Option.toList_some, Option.toList_none, List.cons_append, List.nil_append, if_true, if_false]
    rw [rX5_copy_41 p1, k_Pieces_length hp1 hE (by omega)]
    simp only [up2_eq, va_rf, eq_self, or_true, true_or, Option.toList_some, Option.toList_none, List.cons_append, List.nil_append, if_true, if_false]
    rw [rX5_copy_44 h1, k_Pieces_append hd hp1.2.2.2.2.2.2.2.2 (by omega) (by omega) (by omega) (fun g => by omega) (fun j hj => by rw [f2 _ hv1]; exact hy j hj), show pst E i + (E i - pst E i) = E i by omega]
    simp only [rX5_copy_47, rX5_copy_50, nI_add, up2_eq, va_rf, eq_self, or_true, true_or, Option.toList_some, Option.toList_none, List.cons_append, List.nil_append, if_true, if_false]
    refine ih (i + 1) _ _ (by omega) (fun q a ha => ?_) (fun a ha => ?_) up2_eq ?_ (fun q hq => ?_) (fun j hj => ?_)
    · rw [up2_o (by omega), up2_o (by omega)]; exact f1 q a ha
    · rw [up2_row (by omega), acp_row (by omega)]; exact f2 a ha
    · rw [up2_k (by decide), up2_eq]; rfl
    · by_cases g : q = i
      · subst g; rw [up2_eq]
      · rw [up2_a g, acp_row (by omega)]; exact f5 q (by omega)
    · have hj' : j < E i := hj
      rw [up2_k (by omega)]
      by_cases g : j < pst E i
      · rw [acp_out (by omega)]; exact f6 j g
      · rw [acp_in (by omega) (by omega), f2 _ hv1, show pst E i + (j - pst E i) = j by omega]
theorem k_copy (hp : isP sh F R A o r v z s e ze c E) (hE : okE E c s) (hv1 : v < n) (he1 : e < n) (ho : o < n) (hr : r < n) (hy : ∀ j, j < s → A v j &&& nI 255 = A v j) (hc : c < 2 ^ 20) (hs : s < 2 ^ 20)
    (hQ : ∀ sh' F' R' A', (∀ a, a < n → sh' a = sh a) → (∀ q a, a < n → F' q a = F q a) → (∀ q a, a < n → R' q a = R q a) → (∀ a, a < n → A' a = A a) → sh' n = some (0, 5, 0) → R' 500 n = some (n + 1) → R' 501 n = some (n + 3) → sh' (n + 3) = some (1, 0, c) → sh' (n + 1) = some (0, 1, 0) → R' 100 (n + 1) = some (n + 2) → sh' (n + 2) = some (1, 0, s) → F' 502 n = nI c → F' 101 (n + 1) = nI s → (∀ q, q < c → A' (n + 3) q = nI (E q)) → (∀ j, j < s → A' (n + 2) j = A v j) → Q (some (.ref n)) (mkh (n + 4) (u + 3 + 2 + s + c) sh' F' R' A' B)) :
    rc_ (k + 3) mX5_copy [.ref o] (mkh n u sh F R A B) Q := by
  obtain ⟨p1, p2, p3, p4, p5, p6, p7, p8, p9⟩ := id hp
  rw [eX5_copy, rX5_copy_0]
  have eo : up1 sh n (some (0, 5, 0)) o = some (0, 5, 0) := by rw [up1_ne (by omega)]; exact p1
  have er : up1 sh n (some (0, 5, 0)) r = some (0, 1, 0) := by rw [up1_ne (by omega)]; exact p9.1
  have e500 : zap R n none 500 o = some r := by rw [zap_ne (by omega)]; exact p2
  have e101 : zap F n 0 101 r = nI s := by rw [zap_ne (by omega)]; exact p9.2.2.2.2.1
  have e502 : zap F n 0 502 o = nI c := by rw [zap_ne (by omega)]; exact p6
  simp only [rX5_copy_3, rX5_copy_4, rX5_copy_5, rX5_copy_8, rX5_copy_11, rX5_copy_12, eo, er, e500, e101, e502, up2_eq, va_rf, eq_self, or_true, true_or, Option.toList_some, Option.toList_none, List.cons_append, List.nil_append, if_true, if_false]
  rw [rX5_copy_15, k_Pieces_init up1_eq (by omega) (by omega) (by omega)]
  simp only [rX5_copy_18, rX5_copy_18_n, rX5_copy_19, rX5_copy_20, up2_eq, va_rf, eq_self, or_true, true_or, Option.toList_some, Option.toList_none, List.cons_append, List.nil_append, if_true, if_false]
  have hz1 : ∀ q a, a < n → zap (zap F n 0) (n + 1) 0 q a = F q a := fun q a ha => by rw [zap_ne (by omega), zap_ne (by omega)]
  have hz2 : ∀ q a, a < n → up2 (up2 (up2 (zap (zap R n none) (n + 1) none) 100 (n + 1) (some (n + 1 + 1))) 500 n (some (n + 1))) 501 n (some (n + 1 + 2)) q a = R q a := fun q a ha => by rw [up2_o (by omega), up2_o (by omega), up2_o (by omega), zap_ne (by omega), zap_ne (by omega)]
  have hz3 : ∀ a, a < n → up1 (up1 A (n + 1 + 1) (fun _ => (0 : Int32))) (n + 1 + 2) (fun _ => 0) a = A a := fun a ha => by rw [up1_ne (by omega), up1_ne (by omega)]
  have hz4 : ∀ a, a < n → up1 (up1 (up1 (up1 sh n (some (0, 5, 0))) (n + 1) (some (0, 1, 0))) (n + 1 + 1) (some (1, 0, s))) (n + 1 + 2) (some (1, 0, c)) a = sh a := fun a ha => by rw [up1_ne (by omega), up1_ne (by omega), up1_ne (by omega), up1_ne (by omega)]
  have hvn : ∀ a, a < n → sh a ≠ none → True := fun _ _ _ => trivial
  have s1 : up1 (up1 (up1 (up1 sh n (some (0, 5, 0))) (n + 1) (some (0, 1, 0))) (n + 1 + 1) (some (1, 0, s))) (n + 1 + 2) (some (1, 0, c)) n = some (0, 5, 0) := by rw [up1_ne (by omega), up1_ne (by omega), up1_ne (by omega), up1_eq]
  have s2 : up1 (up1 (up1 (up1 sh n (some (0, 5, 0))) (n + 1) (some (0, 1, 0))) (n + 1 + 1) (some (1, 0, s))) (n + 1 + 2) (some (1, 0, c)) (n + 1) = some (0, 1, 0) := by rw [up1_ne (by omega), up1_ne (by omega), up1_eq]
  have s3 : up1 (up1 (up1 (up1 sh n (some (0, 5, 0))) (n + 1) (some (0, 1, 0))) (n + 1 + 1) (some (1, 0, s))) (n + 1 + 2) (some (1, 0, c)) (n + 2) = some (1, 0, s) := by rw [up1_ne (by omega), show n + 2 = n + 1 + 1 from rfl, up1_eq]
  have s4 : up1 (up1 (up1 (up1 sh n (some (0, 5, 0))) (n + 1) (some (0, 1, 0))) (n + 1 + 1) (some (1, 0, s))) (n + 1 + 2) (some (1, 0, c)) (n + 3) = some (1, 0, c) := up1_eq
  have q1 : up2 (up2 (up2 (zap (zap R n none) (n + 1) none) 100 (n + 1) (some (n + 1 + 1))) 500 n (some (n + 1))) 501 n (some (n + 1 + 2)) 500 n = some (n + 1) := by rw [up2_k (by decide), up2_eq]
  have q2 : up2 (up2 (up2 (zap (zap R n none) (n + 1) none) 100 (n + 1) (some (n + 1 + 1))) 500 n (some (n + 1))) 501 n (some (n + 1 + 2)) 501 n = some (n + 3) := up2_eq
  have q3 : up2 (up2 (up2 (zap (zap R n none) (n + 1) none) 100 (n + 1) (some (n + 1 + 1))) 500 n (some (n + 1))) 501 n (some (n + 1 + 2)) 100 (n + 1) = some (n + 2) := by rw [up2_k (by decide), up2_k (by decide), up2_eq]
  have hp' : isP (up1 (up1 (up1 (up1 sh n (some (0, 5, 0))) (n + 1) (some (0, 1, 0))) (n + 1 + 1) (some (1, 0, s))) (n + 1 + 2) (some (1, 0, c))) (zap (zap F n 0) (n + 1) 0) (up2 (up2 (up2 (zap (zap R n none) (n + 1) none) 100 (n + 1) (some (n + 1 + 1))) 500 n (some (n + 1))) 501 n (some (n + 1 + 2))) (up1 (up1 A (n + 1 + 1) (fun _ => 0)) (n + 1 + 2) (fun _ => 0)) o r v z s e ze c E :=
    ⟨by rw [hz4 _ ho]; exact p1, by rw [hz2 _ _ ho]; exact p2, by rw [hz2 _ _ ho]; exact p3, by rw [hz4 _ he1]; exact p4, p5, by rw [hz1 _ _ ho]; exact p6, p7, by rw [hz3 _ he1]; exact p8, by rw [hz4 _ hr]; exact p9.1, by rw [hz2 _ _ hr]; exact p9.2.1, by rw [hz4 _ hv1]; exact p9.2.2.1, p9.2.2.2.1, by rw [hz1 _ _ hr]; exact p9.2.2.2.2.1, p9.2.2.2.2.2⟩
  refine l_copy (n := n) hp' hE (by omega) (by omega) hv1 he1 ho hr (fun j hj => by rw [hz3 _ hv1]; exact hy j hj) s1 q1 q2 s4 s2 q3 s3 hc hs ?_ c 0 _ _ (by omega) (fun _ _ _ => rfl) (fun _ _ => rfl) ?_ ?_ (fun q hq => absurd hq (Nat.not_lt_zero _)) (fun j hj => absurd hj (Nat.not_lt_zero _))
  · intro F' A' g1 g2 g3 g4 g5 g6
    have hu : u + 3 + 2 + s + c = u + 3 + 2 + s + c := rfl
    refine hQ _ F' _ A' hz4 (fun q a ha => by rw [g1 q a ha, hz1 q a ha]) hz2 (fun a ha => by rw [g2 a ha, hz3 a ha]) s1 q1 q2 s4 s2 q3 s3 g3 g4 g5 (fun j hj => by rw [g6 j hj, hz3 _ hv1])
  · rw [zap_ne (by omega), zap_eq]; rfl
  · rw [zap_eq]; rfl
end CPY
