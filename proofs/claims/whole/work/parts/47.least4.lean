/-! ===== LEAST: the plan ===== -/
section PLA
variable {lf f : Nat → Int32} {m s c : Nat} {E : Nat → Nat} {rk : Bool} {P T : Nat → Nat} {i : Nat} {cur : o5}
theorem ofr_le {kd n bits : Nat} {pl : Int32} : (ofr P T i cur kd pl n bits).1 ≤ cur.1 := by
  unfold ofr
  split
  · dsimp only; omega
  · exact Nat.le_refl _
theorem copM_leo {kd head n bits : Nat} {mo : Nat → Nat} (h : leo P T i cur n bits) : ∀ p, leo P T i (copM P T i kd head mo cur p) n bits
  | 0 => h
  | p + 1 => cinS_leo (copM_leo h p) _
theorem whoS_leo {n bits : Nat} {wh : Nat → Bool} (h : leo P T i cur n bits) : ∀ q, leo P T i (whoS P T i E wh cur q) n bits
  | 0 => h
  | q + 1 => by
    unfold whoS
    split
    · exact leo_mono (whoS_leo h q)
    · exact whoS_leo h q
theorem ownS_leo : ∀ d j, j ≤ d → leo P T i (ownS P T i d) (j + 1) (2 + gm (j + 1) + 8 * (j + 1))
  | 0, j, h => by
    rw [show j = 0 by omega]
    exact Or.inr ⟨rfl, Nat.le_refl _⟩
  | d + 1, j, h => by
    by_cases e : j = d + 1
    · subst e; exact leo_self
    · exact leo_mono (ownS_leo d j (by omega))
theorem stg_leo {j : Nat} (hj : j ≤ m - i - 1) : leo P T i (stg lf f m s c E rk P T i) (j + 1) (2 + gm (j + 1) + 8 * (j + 1)) := by
  have h := copM_leo (kd := 2) (head := 2 + wd i) (mo := fal lf m i) (copM_leo (kd := 1) (head := 2 + wd s) (mo := tol lf f m c E i) (ownS_leo (P := P) (T := T) (i := i) (m - i - 1) j hj) s) i
  unfold stg
  split
  · exact whoS_leo h c
  · exact h
def plan (lf f : Nat → Int32) (m s c : Nat) (E : Nat → Nat) (rk : Bool) (j : Nat) : o5 := plN lf f m s c E rk m j
theorem plN_stab {j t : Nat} (hj : m - t ≤ j) : ∀ d, t + d ≤ m → plN lf f m s c E rk (t + d) j = plN lf f m s c E rk t j
  | 0, _ => rfl
  | d + 1, h => by
    show (if j = m - (t + d + 1) then _ else plN lf f m s c E rk (t + d) j) = _
    rw [if_neg (by omega)]
    exact plN_stab hj d (by omega)
theorem plan_t {j t : Nat} (hj : m - t ≤ j) (ht : t ≤ m) : plN lf f m s c E rk t j = plan lf f m s c E rk j := by
  have := plN_stab (lf := lf) (f := f) (s := s) (c := c) (E := E) (rk := rk) hj (m - t) (by omega)
  rw [show t + (m - t) = m by omega] at this
  exact this.symm
theorem plN_low {j : Nat} : ∀ t, t ≤ m → (j + t < m ∨ m ≤ j) → plN lf f m s c E rk t j = (0, 0, 0, 0, 0)
  | 0, _, _ => rfl
  | t + 1, h, hj => by
    unfold plN
    rw [if_neg (by omega)]
    exact plN_low t (by omega) (by omega)
theorem plan_m : plan lf f m s c E rk m = (0, 0, 0, 0, 0) := plN_low m (Nat.le_refl _) (Or.inr (Nat.le_refl _))
theorem plan_eq (h : i < m) : plan lf f m s c E rk i = stg lf f m s c E rk (fun q => (plN lf f m s c E rk (m - 1 - i) q).1) (fun q => (plN lf f m s c E rk (m - 1 - i) q).2.1) i := by
  rw [← plan_t (t := m - 1 - i + 1) (by omega) (by omega)]
  show (if i = m - (m - 1 - i + 1) then _ else _) = _
  rw [if_pos (by omega)]
theorem plan_ok (h : i < m) (hs : s < 2 ^ 31) (hm : m < 2 ^ 31) (hc : c < 2 ^ 31) (hne : rk = true → ∀ q, q < c → 0 < E q - pst E q) : okO lf f m s c E rk (fun q => (plan lf f m s c E rk q).1) (fun q => (plan lf f m s c E rk q).2.1) i (plan lf f m s c E rk i) := by
  have h1 := okO_stg (lf := lf) (f := f) (E := E) (rk := rk) (P := fun q => (plN lf f m s c E rk (m - 1 - i) q).1) (T := fun q => (plN lf f m s c E rk (m - 1 - i) q).2.1) h hs hm hc hne
  rw [← plan_eq h] at h1
  obtain ⟨a1, a2, a3, a4⟩ := h1
  dsimp only at a2 a3
  have e := plan_t (m := m) (lf := lf) (f := f) (s := s) (c := c) (E := E) (rk := rk) (j := i + (plan lf f m s c E rk i).2.2.2.2) (t := m - 1 - i) (by omega) (by omega)
  rw [e] at a2 a3
  exact ⟨a1, a2, a3, a4⟩
theorem plan_leo {j : Nat} (h : i < m) (hj : j < m - i) : (plan lf f m s c E rk i).1 ≤ 2 + gm (j + 1) + 8 * (j + 1) + (plan lf f m s c E rk (i + (j + 1))).1 := by
  have h1 := stg_leo (lf := lf) (f := f) (s := s) (c := c) (E := E) (rk := rk) (P := fun q => (plN lf f m s c E rk (m - 1 - i) q).1) (T := fun q => (plN lf f m s c E rk (m - 1 - i) q).2.1) (i := i) (m := m) (j := j) (by omega)
  rw [← plan_eq h] at h1
  have e := plan_t (m := m) (lf := lf) (f := f) (s := s) (c := c) (E := E) (rk := rk) (j := i + (j + 1)) (t := m - 1 - i) (by omega) (by omega)
  unfold leo at h1
  dsimp only at h1
  rw [e] at h1
  omega
/-- never more than one OWN -/
theorem plan_own (h : i < m) : (plan lf f m s c E rk i).1 ≤ 2 + gm (m - i) + 8 * (m - i) := by
  have h1 := plan_leo (lf := lf) (f := f) (s := s) (c := c) (E := E) (rk := rk) (j := m - i - 1) h (by omega)
  rw [show i + (m - i - 1 + 1) = m by omega, plan_m, show m - i - 1 + 1 = m - i by omega] at h1
  exact h1
theorem plan_le (hs : s < 2 ^ 31) (hm : m < 2 ^ 31) (hc : c < 2 ^ 31) (hne : rk = true → ∀ q, q < c → 0 < E q - pst E q) : ∀ d i, i + d = m → (plan lf f m s c E rk i).1 ≤ 11 * d ∧ (plan lf f m s c E rk i).2.1 ≤ d := by
  intro d
  induction d using Nat.strongRecOn with
  | _ d ih =>
    intro i hi
    by_cases h0 : d = 0
    · have e : i = m := by omega
      subst e
      rw [plan_m]
      exact ⟨Nat.zero_le _, Nat.zero_le _⟩
    · have h1 := plan_leo (lf := lf) (f := f) (s := s) (c := c) (E := E) (rk := rk) (i := i) (m := m) (j := 0) (by omega) (by omega)
      have g1 : gm (0 + 1) = 1 := by decide
      rw [g1] at h1
      have h2 := ih (d - 1) (by omega) (i + (0 + 1)) (by omega)
      obtain ⟨⟨a1, a0⟩, -, a3, -⟩ := plan_ok (lf := lf) (f := f) (E := E) (rk := rk) (i := i) (m := m) (s := s) (c := c) (by omega) hs hm hc hne
      have h3 := ih (d - (plan lf f m s c E rk i).2.2.2.2) (by omega) (i + (plan lf f m s c E rk i).2.2.2.2) (by omega)
      refine ⟨by omega, ?_⟩
      dsimp only at a3
      omega
/-- the class's rows -/
theorem plnA_plN {A : hF_} {pk : Nat} (hE : okE E c s) (hm : m ≤ 120) (hs : s ≤ 320) (hc : c ≤ 20) (hne : rk = true → ∀ q, q < c → 0 < E q - pst E q) (hg : ∀ n, 1 ≤ n → n ≤ 120 → A (pk + 8) n = nI (gm n)) (h0 : A (pk + 1) m = nI 0 ∧ A (pk + 2) m = nI 0) :
    ∀ t, t ≤ m → ∀ j, m - t ≤ j → j ≤ m → (plnA A f lf pk m s c E rk t (pk + 1) j = nI (plan lf f m s c E rk j).1 ∧ plnA A f lf pk m s c E rk t (pk + 2) j = nI (plan lf f m s c E rk j).2.1) ∧ (j < m → plnA A f lf pk m s c E rk t (pk + 3) j = nI (plan lf f m s c E rk j).2.2.1 ∧ plnA A f lf pk m s c E rk t (pk + 4) j = (plan lf f m s c E rk j).2.2.2.1 ∧ plnA A f lf pk m s c E rk t (pk + 5) j = nI (plan lf f m s c E rk j).2.2.2.2)
  | 0, _, j, h1, h2 => by
    have e : j = m := by omega
    subst e
    rw [plan_m]
    exact ⟨h0, fun h => absurd h (Nat.lt_irrefl _)⟩
  | t + 1, ht, j, h1, h2 => by
    have ih := plnA_plN (A := A) (pk := pk) hE hm hs hc hne hg h0 t (by omega)
    have hstep : ∀ a q, q ≠ m - (t + 1) → a < pk + 6 → plnA A f lf pk m s c E rk (t + 1) a q = plnA A f lf pk m s c E rk t a q := by
      intro a q hq ha
      show plS (plnA A f lf pk m s c E rk t) f lf pk m s c E rk t a q = _
      have hF : plF (plnA A f lf pk m s c E rk t) f lf pk m s (fun p => ear E p c 0) t a q = plnA A f lf pk m s c E rk t a q := by
        unfold plF
        rw [pfx_out (by omega), pfx_out (by omega), up2_a hq]
      have hC : plC (plnA A f lf pk m s c E rk t) f lf pk m s (fun p => ear E p c 0) t a q = plnA A f lf pk m s c E rk t a q := by
        unfold plC
        rw [copA_ne hq, copA_ne hq, ownA_ne hq, hF]
      unfold plS
      split
      · rw [whoA_ne hq, hC]
      · exact hC
    by_cases e : j = m - (t + 1)
    · have hi : m - (t + 1) < m := by omega
      have hb := plan_le (lf := lf) (f := f) (E := E) (rk := rk) (m := m) (s := s) (c := c) (by omega) (by omega) (by omega) hne
      have hPQ : ∀ q, m - t ≤ q → plN lf f m s c E rk t q = plan lf f m s c E rk q := fun q hq => plan_t hq (by omega)
      have hsm : smP (fun q => (plN lf f m s c E rk t q).1) (fun q => (plN lf f m s c E rk t q).2.1) m := by
        intro q hq
        dsimp only
        by_cases g : m - t ≤ q
        · have := hb (m - q) q (by omega)
          rw [hPQ q g]
          omega
        · rw [plN_low t (by omega) (Or.inl (by omega))]
          exact ⟨by decide, by decide⟩
      have hF8 : ∀ n, 1 ≤ n → n ≤ 120 → plF (plnA A f lf pk m s c E rk t) f lf pk m s (fun p => ear E p c 0) t (pk + 8) n = nI (gm n) := fun n g1 g2 => by
        rw [plF_out (by omega), plnA_out (by omega)]
        exact hg n g1 g2
      have hF1 : plF (plnA A f lf pk m s c E rk t) f lf pk m s (fun p => ear E p c 0) t (pk + 1) (m - (t + 1)) = nI 1000000 := by
        unfold plF
        rw [pfx_out (by omega), pfx_out (by omega), up2_eq]
      have hFc : ∀ q, m - (t + 1) < q → q ≤ m → plF (plnA A f lf pk m s c E rk t) f lf pk m s (fun p => ear E p c 0) t (pk + 1) q = nI ((fun q => (plN lf f m s c E rk t q).1) q) ∧ plF (plnA A f lf pk m s c E rk t) f lf pk m s (fun p => ear E p c 0) t (pk + 2) q = nI ((fun q => (plN lf f m s c E rk t q).2.1) q) := by
        intro q g1 g2
        dsimp only
        unfold plF
        rw [pfx_out (by omega), pfx_out (by omega), up2_a (by omega), pfx_out (by omega), pfx_out (by omega), up2_row (by omega), hPQ q (by omega)]
        exact (ih q (by omega) g2).1
      have r1 := reA_own hF8 hF1 hFc hsm hm (m - (m - (t + 1)) - 1) (by omega)
      rw [show m - (m - (t + 1)) - 1 + 1 = m - (m - (t + 1)) by omega] at r1
      have r2 := reA_cop (kd := 1) (head := 2 + wd s) (rr := rowR f lf m s (fun p => ear E p c 0) (t + 1)) (mo := tol lf f m c E (m - (t + 1))) (fun n g1 g2 => by rw [ownA_out (by omega)]; exact hF8 n g1 g2) r1 hsm hm (by have := wd_le 9 s (by omega); omega) s (fun p hp => by
        refine ⟨?_, tol_le⟩
        unfold mostF
        rw [if_neg (by decide), rowR_tol hE (t + 1) p ht hp]
        unfold tol
        rw [show m - (m - (t + 1)) = t + 1 by omega])
      rw [(copSM s).1, ← nI_add] at r2
      have r3 := reA_cop (kd := 2) (head := 2 + wd (m - (t + 1))) (rr := letR lf m (t + 1)) (mo := fal lf m (m - (t + 1))) (fun n g1 g2 => by rw [copA_out (by omega), ownA_out (by omega)]; exact hF8 n g1 g2) r2 hsm hm (by have := wd_le 9 (m - (t + 1)) (by omega); omega) (m - (t + 1)) (fun p hp => by
        refine ⟨?_, fal_le⟩
        unfold mostF
        rw [if_pos rfl, letR_fal (t + 1) p ht, cpl_min]
        unfold fal
        rw [show m - (m - (t + 1)) = t + 1 by omega])
      rw [(copSM (m - (t + 1))).1, ← nI_add] at r3
      have hplan := plan_eq (lf := lf) (f := f) (s := s) (c := c) (E := E) (rk := rk) (i := m - (t + 1)) (m := m) hi
      rw [show m - 1 - (m - (t + 1)) = t by omega] at hplan
      have r4 : reA (plS (plnA A f lf pk m s c E rk t) f lf pk m s c E rk t) pk (m - (t + 1)) m (fun q => (plN lf f m s c E rk t q).1) (fun q => (plN lf f m s c E rk t q).2.1) (plan lf f m s c E rk (m - (t + 1))) := by
        rw [hplan]
        unfold plS stg
        by_cases hrk : rk = true
        · rw [if_pos hrk, if_pos hrk]
          refine reA_who (c := c) (fun n g1 g2 => ?_) r3 hsm hc (fun q hq => ?_) (fun q hq hw => ?_) c (Nat.le_refl _)
          · rw [copA_out (by omega), copA_out (by omega), ownA_out (by omega)]
            exact hF8 n g1 g2
          · have := whl_row (f := f) (lf := lf) (i := m - (t + 1)) hE hq hi (hne hrk q hq)
            rw [show m - (m - (t + 1)) = t + 1 by omega] at this
            exact this
          · unfold whl at hw
            rw [Bool.and_eq_true, decide_eq_true_eq] at hw
            exact hw.1
        · rw [if_neg hrk, if_neg hrk]
          exact r3
      obtain ⟨⟨a1, a2, a3, a4, a5⟩, -, -⟩ := r4
      subst e
      exact ⟨⟨a1, a2⟩, fun _ => ⟨a3, a4, a5⟩⟩
    · have g := ih j (by omega) h2
      rw [hstep _ _ e (by omega), hstep _ _ e (by omega), hstep _ _ e (by omega), hstep _ _ e (by omega), hstep _ _ e (by omega)]
      exact g
end PLA
