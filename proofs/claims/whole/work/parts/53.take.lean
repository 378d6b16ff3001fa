/-! ===== LEAST depends on the bytes alone; the trainer takes a piece ===== -/
theorem copM_cg {P T : Nat → Nat} {i kd head : Nat} {mo mo' : Nat → Nat} {cur : o5} : ∀ n, (∀ p, p < n → mo p = mo' p) → copM P T i kd head mo cur n = copM P T i kd head mo' cur n
  | 0, _ => rfl
  | n + 1, h => by
    unfold copM
    rw [copM_cg n (fun p hp => h p (by omega)), h n (by omega)]
theorem whoS_cg {P T : Nat → Nat} {i : Nat} {E : Nat → Nat} {wh wh' : Nat → Bool} {cur : o5} : ∀ c, (∀ q, q < c → wh q = wh' q) → whoS P T i E wh cur c = whoS P T i E wh' cur c
  | 0, _ => rfl
  | c + 1, h => by
    unfold whoS
    rw [whoS_cg c (fun p hp => h p (by omega)), h c (by omega)]
section CG
variable {lf lf' f f' : Nat → Int32} {m s c : Nat} {E : Nat → Nat} {rk : Bool}
theorem tol_cg (hl : ∀ j, j < m → lf j = lf' j) (hf : ∀ j, j < s → f j = f' j) (hE : okE E c s) {i p : Nat} : tol lf f m c E i p = tol lf' f' m c E i p := by
  have := ear_le hE (p := p) c 0 (by omega)
  unfold tol
  exact cpl_congr (fun j hj => hl _ (by omega)) (fun j hj => hf _ (by omega))
theorem fal_cg (hl : ∀ j, j < m → lf j = lf' j) {i p : Nat} (hi : i ≤ m) : fal lf m i p = fal lf' m i p := by
  unfold fal
  exact cpl_congr (fun j hj => hl _ (by omega)) (fun j hj => hl _ (by omega))
theorem whl_cg (hl : ∀ j, j < m → lf j = lf' j) (hf : ∀ j, j < s → f j = f' j) (hE : okE E c s) {i q : Nat} (hq : q < c) : whl lf f m E i q = whl lf' f' m E i q := by
  have h1 := hE.E_le hq
  unfold whl
  by_cases h : i + (E q - pst E q) ≤ m
  · rw [cpl_congr (f' := fun j => lf' (i + j)) (g' := fun j => f' (pst E q + j)) (fun j hj => hl _ (by omega)) (fun j hj => hf _ (by have := hE.1 q hq; omega))]
  · rw [decide_eq_false h, Bool.false_and, Bool.false_and]
theorem stg_cg (hl : ∀ j, j < m → lf j = lf' j) (hf : ∀ j, j < s → f j = f' j) (hE : okE E c s) {P T : Nat → Nat} {i : Nat} (hi : i ≤ m) : stg lf f m s c E rk P T i = stg lf' f' m s c E rk P T i := by
  unfold stg
  rw [copM_cg (mo := tol lf f m c E i) (mo' := tol lf' f' m c E i) s (fun p _ => tol_cg hl hf hE), copM_cg (mo := fal lf m i) (mo' := fal lf' m i) i (fun p _ => fal_cg hl hi), whoS_cg (wh := whl lf f m E i) (wh' := whl lf' f' m E i) c (fun q hq => whl_cg hl hf hE hq)]
theorem plN_cg (hl : ∀ j, j < m → lf j = lf' j) (hf : ∀ j, j < s → f j = f' j) (hE : okE E c s) : ∀ t, plN lf f m s c E rk t = plN lf' f' m s c E rk t
  | 0 => rfl
  | t + 1 => by
    funext j
    unfold plN
    rw [plN_cg hl hf hE t]
    by_cases h : j = m - (t + 1)
    · rw [if_pos h, if_pos h]
      exact stg_cg hl hf hE (by omega)
    · rw [if_neg h, if_neg h]
theorem plan_cg (hl : ∀ j, j < m → lf j = lf' j) (hf : ∀ j, j < s → f j = f' j) (hE : okE E c s) : plan lf f m s c E rk = plan lf' f' m s c E rk := plN_cg hl hf hE m
theorem sumP_cg {sb sb' : Nat → Nat → Int32} {sl : Nat → Nat} (hf : ∀ j, j < s → f j = f' j) (hE : okE E c s) : ∀ i, (∀ q, q < i → ∀ j, j < sl q → sb q j = sb' q j) → sumP sb sl f s c E rk i = sumP sb' sl f' s c E rk i
  | 0, _ => rfl
  | i + 1, h => by
    unfold sumP
    rw [sumP_cg hf hE i (fun q hq => h q (by omega)), plan_cg (h i (by omega)) hf hE]
end CG
/-- a row with more behind it, ends with one more -/
def apG (g : Nat → Int32) (s : Nat) (h : Nat → Int32) : Nat → Int32 := fun j => if j < s then g j else h (j - s)
def apE (E : Nat → Nat) (c x : Nat) : Nat → Nat := fun q => if q = c then x else E q
theorem apE_pst {E : Nat → Nat} {c x : Nat} : ∀ j, j ≤ c → pst (apE E c x) j = pst E j
  | 0, _ => rfl
  | j + 1, h => if_neg (by omega)
theorem apE_ok {E : Nat → Nat} {c s n : Nat} (hE : okE E c s) : okE (apE E c (s + n)) (c + 1) (s + n) := by
  refine ⟨fun j hj => ?_, if_pos rfl⟩
  rw [apE_pst j (by omega)]
  unfold apE
  by_cases h : j = c
  · rw [if_pos h, h, hE.2]; omega
  · rw [if_neg h]; exact hE.1 j (by omega)
theorem apE_ne {E : Nat → Nat} {c s n : Nat} (hE : okE E c s) (hn : 0 < n) (h : ∀ q, q < c → 0 < E q - pst E q) : ∀ q, q < c + 1 → 0 < apE E c (s + n) q - pst (apE E c (s + n)) q := by
  intro q hq
  rw [apE_pst q (by omega)]
  unfold apE
  by_cases e : q = c
  · rw [if_pos e, e, hE.2]; omega
  · rw [if_neg e]; exact h q (by omega)
/-- the pieces taken so far -/
def isTk (sh : hs_) (F : hF_) (R : hR_) (A : hF_) (t s c : Nat) (E : Nat → Nat) (g : Nat → Int32) : Prop := isP sh F R A (t + 4) (t + 5) (t + 6) 72 s (t + 7) 6 c E ∧ ∀ j, j < s → A (t + 6) j = g j
/-- what taking a piece leaves as it was -/
def frT (pk t : Nat) (F : hF_) (R : hR_) (A : hF_) (F' : hF_) (R' : hR_) (A' : hF_) : Prop := (∀ q a, (q = 410 → a ≠ pk) → (q = 411 → a ≠ pk) → (q = 101 → a ≠ t + 5) → (q = 502 → a ≠ t + 4) → F' q a = F q a) ∧ (∀ q a, q ≠ 408 → q ≠ 409 → R' q a = R q a) ∧ (∀ a, (a < pk + 1 ∨ pk + 7 < a) → a ≠ t + 6 → a ≠ t + 7 → a ≠ t + 8 → A' a = A a)
theorem frT_refl {pk t : Nat} {F : hF_} {R : hR_} {A : hF_} : frT pk t F R A F R A := ⟨fun _ _ _ _ _ _ => rfl, fun _ _ _ _ => rfl, fun _ _ _ _ _ => rfl⟩
theorem frT_trans {pk t : Nat} {F F1 F2 : hF_} {R R1 R2 : hR_} {A A1 A2 : hF_} (h : frT pk t F R A F1 R1 A1) (h' : frT pk t F1 R1 A1 F2 R2 A2) : frT pk t F R A F2 R2 A2 :=
  ⟨fun q a x y z w => by rw [h'.1 q a x y z w, h.1 q a x y z w], fun q a x y => by rw [h'.2.1 q a x y, h.2.1 q a x y], fun a x y z w => by rw [h'.2.2 a x y z w, h.2.2 a x y z w]⟩
theorem frP_frT {pk t : Nat} {F F1 : hF_} {R R1 : hR_} {A A1 : hF_} (h : frP pk F R A F1 R1 A1) : frT pk t F R A F1 R1 A1 := ⟨fun q a x y _ _ => h.1 q a x y, h.2.1, fun a x _ _ _ => h.2.2 a x⟩
/-- what a candidate gains -/
def gnO (sb : Nat → Nat → Int32) (sl : Nat → Nat) (ns : Nat) (g : Nat → Int32) (s c : Nat) (E : Nat → Nat) (rk : Bool) (pr : Int32) (x : cd) : Int32 :=
  pr - nI (sumP sb sl (apG g s (cbt sb x)) (s + x.2.2.1) (c + 1) (apE E c (s + x.2.2.1)) rk ns) - nI (2 + gm x.2.2.1 + 8 * x.2.2.1)
def tkS (gn : Nat → Int32) (od : Nat → Nat → Int32) : Nat → Option Nat × Int32
  | 0 => (none, nI 0)
  | i + 1 => if (tkS gn od i).2 < gn i ∨ (∃ b, (tkS gn od i).1 = some b ∧ gn i = (tkS gn od i).2 ∧ od i b < nI 0) then (some i, gn i) else tkS gn od i
theorem tkS_lt {gn : Nat → Int32} {od : Nat → Nat → Int32} : ∀ i b, (tkS gn od i).1 = some b → b < i
  | 0, b, h => by cases h
  | i + 1, b, h => by
    unfold tkS at h
    split at h
    · cases h; omega
    · have := tkS_lt i b h; omega
def bst (b : Option Nat) : Int32 := match b with
  | none => -1
  | some b => nI b
section TAK
variable {k n u : Nat} {sh : hs_} {F : hF_} {R : hR_} {A : hF_} {B : hR_} {Q : Option Value → pm_H → Prop} {t pk ns : Nat} {sl : Nat → Nat} {s c o : Nat} {E : Nat → Nat} {g : Nat → Int32} {x : cd} {rk : Bool}
theorem sbA_frT {F' R' A'} (h : frT pk t F R A F' R' A') (ht : pk + 8 < t) : sbA A' t = sbA A t := by
  funext i
  exact h.2.2 _ (by omega) (by omega) (by omega) (by omega)
theorem isSm_frT {F' R' A'} (h : frT pk t F R A F' R' A') (hs : isSm F t ns sl) : isSm F' t ns sl := isSm_cong hs (h.1 _ _ (by omega) (by omega) (fun e => by cases e) (fun e => by cases e)) (fun i _ => h.1 _ _ (by omega) (by omega) (fun _ => by omega) (fun e => by cases e))
theorem isT_frT {F' R' A'} (h : frT pk t F R A F' R' A') (hT : isT sh R B t pk) : isT sh R' B t pk := isT_cong hT (fun q a hq => h.2.1 q a (by omega) (by omega))
theorem isC_frT {F' R' A'} (h : frT pk t F R A F' R' A') (hC : isC F R o t x) : isC F' R' o t x :=
  ⟨by rw [h.2.1 _ _ (by decide) (by decide)]; exact hC.1, by rw [h.1 _ _ (by omega) (by omega) (fun e => by cases e) (fun e => by cases e)]; exact hC.2.1, by rw [h.1 _ _ (by omega) (by omega) (fun e => by cases e) (fun e => by cases e)]; exact hC.2.2.1, by rw [h.1 _ _ (by omega) (by omega) (fun e => by cases e) (fun e => by cases e)]; exact hC.2.2.2⟩
theorem k_appendPiece (hT : isT sh R B t pk) (hsm : isSm F t ns sl) (hp : isTk sh F R A t s c E g) (hc : c < 6) (hs : s ≤ 12 * c) (ho : sh o = some (0, 2, 0)) (hC : isC F R o t x) (hx : okC ns sl x) (hy : ∀ i, i < ns → ∀ j, j < sl i → A (t + 10 + 2 * i) j &&& nI 255 = A (t + 10 + 2 * i) j)
    (hQ : ∀ F' A', frT pk t F R A F' R A' → A' (t + 8) = A (t + 8) → isTk sh F' R A' t (s + x.2.2.1) (c + 1) (apE E c (s + x.2.2.1)) (apG g s (cbt (sbA A t) x)) → Q none (mkh n u sh F' R A' B)) :
    rc_ (k + 3) mX8_appendPiece [.ref t, .ref o] (mkh n u sh F R A B) Q := by
  obtain ⟨h1, h2, h3, h4⟩ := hC
  obtain ⟨x1, x2, x3, x4, x5⟩ := hx
  have hB := isT_sB hT hsm x1
  have hsl := hB.2.2.2.2.2
  rw [eX8_appendPiece]
  simp only [rX8_appendPiece_0, rX8_appendPiece_1, rX8_appendPiece_4, rX8_appendPiece_4_n, rX8_appendPiece_5, rX8_appendPiece_8, rX8_appendPiece_8_n, rX8_appendPiece_9, rX8_appendPiece_12, rX8_appendPiece_12_n, rX8_appendPiece_13, hT.1.1, hT.2.2.2.2.2.1, ho, h1, h2, h3, up2_eq, va_rf, eq_self, or_true, true_or, Option.toList_some, Option.toList_none, List.cons_append, List.nil_append, if_true, if_false]
  rw [rX8_appendPiece_16 hp.1.1, k_Pieces_append hp.1 hB hc x2 (by omega) (fun e => by omega) (hy _ x1)]
  simp only [rX8_appendPiece_19, up2_eq, va_rf, eq_self, or_true, true_or, Option.toList_some, Option.toList_none, List.cons_append, List.nil_append, if_true, if_false]
  obtain ⟨p1, p2, p3, p4, p5, p6, p7, p8, p9⟩ := hp.1
  refine hQ _ _ ⟨fun q a a1 a2 a3 a4 => ?_, fun _ _ _ _ => rfl, fun a a1 a2 a3 a4 => ?_⟩ ?_ ⟨⟨p1, p2, p3, p4, p5, ?_, by omega, fun j hj => ?_, p9.1, p9.2.1, p9.2.2.1, p9.2.2.2.1, ?_, by omega⟩, fun j hj => ?_⟩
  · by_cases c1 : q = 502
    · subst c1
      rw [up2_a (a4 rfl), up2_k (by decide)]
    · rw [up2_k c1]
      by_cases c2 : q = 101
      · subst c2
        rw [up2_a (a3 rfl)]
      · rw [up2_k c2]
  · funext j
    rw [up2_k a3, acp_out (Or.inl a2)]
  · funext j
    rw [up2_k (by omega), acp_out (Or.inl (by omega))]
  · rw [up2_eq]
  · unfold apE
    by_cases c1 : j = c
    · subst c1
      rw [up2_eq, if_pos rfl]
    · rw [up2_a c1, if_neg c1, acp_out (Or.inl (by omega))]
      exact p8 j (by omega)
  · rw [up2_k (by decide), up2_eq]
  · unfold apG
    rw [up2_k (by omega)]
    by_cases c1 : j < s
    · rw [if_pos c1, acp_out (by omega)]
      exact hp.2 j c1
    · rw [if_neg c1, acp_in (by omega) hj]
      rfl
theorem k_gainOf {pr : Int32} (hT : isT sh R B t pk) (hsm : isSm F t ns sl) (hk : isK sh R pk) (hg : ∀ n, 1 ≤ n → n ≤ 120 → A (pk + 8) n = nI (gm n)) (hp : isTk sh F R A t s c E g) (hE : okE E c s) (hne : ∀ q, q < c → 0 < E q - pst E q) (htp : pk + 8 < t) (hc : c < 6) (hs : s ≤ 12 * c) (ho : sh o = some (0, 2, 0)) (hC : isC F R o t x) (hx : okC ns sl x) (hy : ∀ i, i < ns → ∀ j, j < sl i → A (t + 10 + 2 * i) j &&& nI 255 = A (t + 10 + 2 * i) j)
    (hQ : ∀ F' R' A', frT pk t F R A F' R' A' → A' (t + 8) = A (t + 8) → isTk sh F' R' A' t s c E g → Q (some (.int (gnO (sbA A t) sl ns g s c E rk pr x))) (mkh n u sh F' R' A' B)) :
    rc_ (k + 4) mX8_gainOf [.ref t, .ref o, .int (if rk = true then nI 1 else nI 0), .int pr] (mkh n u sh F R A B) Q := by
  obtain ⟨x1, x2, x3, x4, x5⟩ := id hx
  rw [eX8_gainOf]
  simp only [rX8_gainOf_0, rX8_gainOf_1, rX8_gainOf_1_n]
  rw [rX8_gainOf_2 hT.1.1]
  refine k_appendPiece hT hsm hp hc hs ho hC hx hy ?_
  intro F1 A1 hfr1 hga1 hp1
  have hT1 := hT
  have hsm1 := isSm_frT hfr1 hsm
  have hC1 := isC_frT hfr1 hC
  have esb := sbA_frT hfr1 htp
  have hE1 := apE_ok (n := x.2.2.1) hE
  simp only [rX8_gainOf_5, rX8_gainOf_6, rX8_gainOf_7, rX8_gainOf_10, hT.1.1, hT.2.2.2.2.2.1, up2_eq, va_rf, eq_self, or_true, true_or, Option.toList_some, Option.toList_none, List.cons_append, List.nil_append, if_true, if_false]
  rw [rX8_gainOf_11 hT.1.1]
  refine k_Tleast hT hsm1 hk (fun n g1 g2 => by rw [hfr1.2.2 _ (by omega) (by omega) (by omega) (by omega)]; exact hg n g1 g2) hp1.1 hE1 (by omega) (by omega) (by omega) (by omega) htp (fun _ => apE_ne hE (by omega) hne) ?_
  intro F2 R2 A2 hfr2
  have hfr2T := frP_frT (t := t) hfr2
  have hT2 := isT_frT hfr2T hT
  have hC2 := isC_frT hfr2T hC1
  have ev : A2 (t + 6) = A1 (t + 6) := hfr2.2.2 _ (by omega)
  have ee : A2 (t + 7) = A1 (t + 7) := hfr2.2.2 _ (by omega)
  have hp2 : isP sh F2 R2 A2 (t + 4) (t + 5) (t + 6) 72 (s + x.2.2.1) (t + 7) 6 (c + 1) (apE E c (s + x.2.2.1)) := isP_cong hp1.1 (hfr2.1 _ _ (by omega) (by omega)) (hfr2.1 _ _ (by omega) (by omega)) (hfr2.2.1 _ _ (by decide) (by decide)) (hfr2.2.1 _ _ (by decide) (by decide)) (hfr2.2.1 _ _ (by decide) (by decide)) ee
  have h16 : (16 : Nat) = 16 := rfl
  simp only [rX8_gainOf_14, rX8_gainOf_16, rX8_gainOf_17, hT.1.1, hT2.2.2.2.2.2.1, up2_eq, va_rf, eq_self, or_true, true_or, Option.toList_some, Option.toList_none, List.cons_append, List.nil_append, if_true, if_false]
  rw [rX8_gainOf_20 hp2.1, k_Pieces_dropLast hp2 hE1, apE_pst c (Nat.le_refl _), hE.2]
  have e202 : (up2 (up2 F2 502 (t + 4) (nI c)) 101 (t + 5) (nI s)) 202 o = nI x.2.2.1 := by rw [up2_k (by decide), up2_k (by decide)]; exact hC2.2.2.1
  simp only [rX8_gainOf_23, rX8_gainOf_24, rX8_gainOf_26, rX8_gainOf_27, rX8_gainOf_28, rX8_gainOf_28_n, rX8_gainOf_29, ho, e202, up2_eq, va_rf, eq_self, or_true, true_or, Option.toList_some, Option.toList_none, List.cons_append, List.nil_append, if_true, if_false]
  rw [rX8_gainOf_32, k_gamma (by omega) (by omega)]
  simp only [rX8_gainOf_35, rX8_gainOf_36, rX8_gainOf_38, rX8_gainOf_38_n, rX8_gainOf_39, rX8_gainOf_42, rX8_gainOf_43, rX8_gainOf_44, rX8_gainOf_45, ho, e202, pk_mul, nI_add, up2_eq, va_rf, eq_self, or_true, true_or, Option.toList_some, Option.toList_none, List.cons_append, List.nil_append, if_true, if_false]
  have eg : sumP (sbA A1 t) sl (A1 (t + 6)) (s + x.2.2.1) (c + 1) (apE E c (s + x.2.2.1)) rk ns = sumP (sbA A t) sl (apG g s (cbt (sbA A t) x)) (s + x.2.2.1) (c + 1) (apE E c (s + x.2.2.1)) rk ns := by
    rw [esb]
    exact sumP_cg hp1.2 hE1 ns (fun _ _ _ _ => rfl)
  rw [eg]
  refine hQ _ _ _ (frT_trans (frT_trans hfr1 hfr2T) ⟨fun q a a1 a2 a3 a4 => ?_, fun _ _ _ _ => rfl, fun _ _ _ _ _ => rfl⟩) (by rw [hfr2.2.2 _ (by omega)]; exact hga1) ⟨?_, fun j hj => ?_⟩
  · by_cases c1 : q = 101
    · subst c1
      rw [up2_a (a3 rfl), up2_k (by decide)]
    · rw [up2_k c1]
      by_cases c2 : q = 502
      · subst c2
        rw [up2_a (a4 rfl)]
      · rw [up2_k c2]
  · obtain ⟨p1, p2, p3, p4, p5, p6, p7, p8, p9⟩ := hp2
    refine ⟨p1, p2, p3, p4, p5, ?_, by omega, fun j hj => ?_, p9.1, p9.2.1, p9.2.2.1, p9.2.2.2.1, up2_eq, by omega⟩
    · rw [up2_k (by decide), up2_eq]
    · rw [p8 j (by omega)]
      unfold apE
      rw [if_neg (by omega)]
  · rw [ev, hp1.2 j (by omega)]
    unfold apG
    rw [if_pos hj]
end TAK
