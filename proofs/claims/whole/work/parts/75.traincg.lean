/-! ===== training depends on the samples' bytes alone ===== -/
section TCG
variable {sb sb' : Nat → Nat → Int32} {sl : Nat → Nat} {ns : Nat} {x y p : cd} {S : cS}
theorem cbt_cg (H : ∀ i, i < ns → ∀ j, j < sl i → sb i j = sb' i j) (hx : okC ns sl x) {j : Nat} (hj : j < x.2.2.1) : cbt sb x j = cbt sb' x j := H _ hx.1 _ (by have := hx.2.1; omega)
theorem ordV_cg (H : ∀ i, i < ns → ∀ j, j < sl i → sb i j = sb' i j) (hx : okC ns sl x) (hy : okC ns sl y) : ordV sb x y = ordV sb' x y := by
  unfold ordV
  by_cases c : x.2.2.1 = y.2.2.1
  · rw [if_pos c, if_pos c]
    have e : cpl (cbt sb x) (cbt sb y) x.2.2.1 = cpl (cbt sb' x) (cbt sb' y) x.2.2.1 := cpl_congr (fun j hj => cbt_cg H hx hj) (fun j hj => cbt_cg H hy (by omega))
    have hle := cpl_le (f := cbt sb' x) (g := cbt sb' y) x.2.2.1
    rw [e]
    generalize cpl (cbt sb' x) (cbt sb' y) x.2.2.1 = w at hle ⊢
    by_cases c2 : w = x.2.2.1
    · rw [if_pos c2, if_pos c2]
    · rw [if_neg c2, if_neg c2, cbt_cg H hx (by omega), cbt_cg H hy (by omega)]
  · rw [if_neg c, if_neg c]
theorem ordW_cg (H : ∀ i, i < ns → ∀ j, j < sl i → sb i j = sb' i j) (hx : okC ns sl x) (hy : okC ns sl y) : ordW sb x y = ordW sb' x y := by
  unfold ordW
  rw [ordV_cg H hx hy]
theorem iat_cg {lt lt' : cd → Bool} {cs : Nat → cd} : ∀ d i, (∀ q, i ≤ q → q < i + d → lt (cs q) = lt' (cs q)) → iat lt cs d i = iat lt' cs d i
  | 0, _, _ => rfl
  | d + 1, i, h => by
    unfold iat
    rw [h i (Nat.le_refl _) (by omega), iat_cg d (i + 1) (fun q h1 h2 => h q (by omega) (by omega))]
theorem insP_cg (H : ∀ i, i < ns → ∀ j, j < sl i → sb i j = sb' i j) (hS : okCS ns sl S) (hp : okC ns sl p) : insP sb S p = insP sb' S p := by
  unfold insP
  have e : iat (fun c => decide (ordW sb c p < nI 0)) S.1 S.2 0 = iat (fun c => decide (ordW sb' c p < nI 0)) S.1 S.2 0 := iat_cg S.2 0 (fun q _ hq => by
    show decide (ordW sb (S.1 q) p < nI 0) = decide (ordW sb' (S.1 q) p < nI 0)
    rw [ordW_cg H (hS.2 q (by omega)) hp])
  have hw := iat_le (lt := fun c => decide (ordW sb' c p < nI 0)) (cs := S.1) S.2 0
  rw [e]
  generalize iat (fun c => decide (ordW sb' c p < nI 0)) S.1 S.2 0 = w at hw ⊢
  by_cases c : w < S.2
  · rw [ordW_cg H (hS.2 w c) hp]
  · have c1 : ¬ (w < S.2 ∧ ordW sb (S.1 w) p = nI 0) := fun h => c h.1
    have c2 : ¬ (w < S.2 ∧ ordW sb' (S.1 w) p = nI 0) := fun h => c h.1
    by_cases c3 : 8 ≤ w
    · rw [if_pos (Or.inr c3), if_pos (Or.inr c3)]
    · rw [if_neg (fun h => h.elim c1 c3), if_neg (fun h => h.elim c2 c3)]
theorem alk_cg (H : ∀ i, i < ns → ∀ j, j < sl i → sb i j = sb' i j) {s p i q : Nat} (hs : s < ns) (hi : i < ns) : alk sb sl s p i q = alk sb' sl s p i q := by
  unfold alk
  exact cpl_congr (fun j hj => H s hs _ (by omega)) (fun j hj => H i hi _ (by omega))
theorem lon_cg (H : ∀ i, i < ns → ∀ j, j < sl i → sb i j = sb' i j) {s p i : Nat} (hs : s < ns) (hi : i < ns) : ∀ q, lon sb sl s p i q = lon sb' sl s p i q
  | 0 => rfl
  | q + 1 => by
    unfold lon
    rw [lon_cg H hs hi q, alk_cg H hs hi]
theorem sprd_cg (H : ∀ i, i < ns → ∀ j, j < sl i → sb i j = sb' i j) {s p n : Nat} (hs : s < ns) : ∀ i, i ≤ ns → sprd sb sl s p n i = sprd sb' sl s p n i
  | 0, _ => rfl
  | i + 1, h => by
    unfold sprd
    rw [sprd_cg H hs i (by omega), lon_cg H hs (by omega)]
theorem fstp_cg (H : ∀ i, i < ns → ∀ j, j < sl i → sb i j = sb' i j) (hS : okCS ns sl S) (hns : ns ≤ 8) {s p n : Nat} (hs : s < ns) (hn : 3 ≤ n) (hp : p ≤ sl s) : fstp sb sl ns s p S n = fstp sb' sl ns s p S n := by
  unfold fstp
  rw [sprd_cg H hs ns (Nat.le_refl _)]
  by_cases c : 2 ≤ sprd sb' sl s p n ns
  · have h3 := sprd_in (sb := sb') (sl := sl) (s := s) (p := p) (n := n) ns (by omega)
    have h4 := sprd_le (sb := sb') (sl := sl) (s := s) (p := p) (n := n) ns
    rw [if_pos c, if_pos c, insP_cg H hS ⟨hs, by dsimp only; omega, hn, h3.1, by dsimp only; omega⟩]
  · rw [if_neg c, if_neg c]
theorem fndL_cg (H : ∀ i, i < ns → ∀ j, j < sl i → sb i j = sb' i j) (hS : okCS ns sl S) (hns : ns ≤ 8) {s p : Nat} (hs : s < ns) (hp : p ≤ sl s) : ∀ d, fndL sb sl ns s p S d = fndL sb' sl ns s p S d
  | 0 => rfl
  | d + 1 => by
    unfold fndL
    rw [fndL_cg H hS hns hs hp d, fstp_cg H (fndL_okCS hS hs hns hp d) hns hs (by omega) hp]
theorem begP_cg (H : ∀ i, i < ns → ∀ j, j < sl i → sb i j = sb' i j) (hS : okCS ns sl S) (hns : ns ≤ 8) {s : Nat} (hs : s < ns) : ∀ p, p ≤ sl s → begP sb sl ns s S p = begP sb' sl ns s S p
  | 0, _ => rfl
  | p + 1, hp => by
    unfold begP
    rw [begP_cg H hS hns hs p (by omega), fndL_cg H (begP_okCS hS hs hns p (by omega)) hns hs (by omega)]
theorem begS_cg (H : ∀ i, i < ns → ∀ j, j < sl i → sb i j = sb' i j) (hns : ns ≤ 8) : ∀ s, s ≤ ns → begS sb sl ns s = begS sb' sl ns s
  | 0, _ => rfl
  | s + 1, hs => by
    unfold begS
    rw [begS_cg H hns s (by omega), begP_cg H (begS_okCS hns s (by omega)) hns (by omega) _ (Nat.le_refl _)]
theorem tkS_cg {gn gn' : Nat → Int32} {od od' : Nat → Nat → Int32} : ∀ i, (∀ q, q < i → gn q = gn' q) → (∀ q b, q < i → b < i → od q b = od' q b) → tkS gn od i = tkS gn' od' i
  | 0, _, _ => rfl
  | i + 1, h1, h2 => by
    have e := tkS_cg (gn := gn) (gn' := gn') (od := od) (od' := od') i (fun q hq => h1 q (by omega)) (fun q b hq hb => h2 q b (by omega) (by omega))
    have hl := tkS_lt (gn := gn') (od := od') i
    unfold tkS
    rw [e, h1 i (by omega)]
    have e2 : (∃ b, (tkS gn' od' i).1 = some b ∧ gn' i = (tkS gn' od' i).2 ∧ od i b < nI 0) = (∃ b, (tkS gn' od' i).1 = some b ∧ gn' i = (tkS gn' od' i).2 ∧ od' i b < nI 0) := by
      apply propext
      constructor
      · rintro ⟨b, a1, a2, a3⟩
        have := hl b a1
        exact ⟨b, a1, a2, by rw [← h2 i b (by omega) (by omega)]; exact a3⟩
      · rintro ⟨b, a1, a2, a3⟩
        have := hl b a1
        exact ⟨b, a1, a2, by rw [h2 i b (by omega) (by omega)]; exact a3⟩
    simp only [e2]
theorem nxt_cg (H : ∀ i, i < ns → ∀ j, j < sl i → sb i j = sb' i j) (hS : okCS ns sl S) {g : Nat → Int32} {s c : Nat} {E : Nat → Nat} {rk : Bool} (hE : okE E c s) : nxt sb sl ns S g s c E rk = nxt sb' sl ns S g s c E rk := by
  unfold nxt
  rw [sumP_cg (f' := g) (fun _ _ => rfl) hE ns H]
  refine tkS_cg S.2 (fun q hq => ?_) (fun q b hq hb => ordV_cg H (hS.2 q hq) (hS.2 b hb))
  unfold gnO
  rw [sumP_cg (f' := apG g s (cbt sb' (S.1 q))) (fun j hj => ?_) (apE_ok hE) ns H]
  unfold apG
  by_cases c : j < s
  · rw [if_pos c, if_pos c]
  · rw [if_neg c, if_neg c]
    exact cbt_cg H (hS.2 q hq) (by omega)
theorem nxt_cgg {g g' : Nat → Int32} {s c : Nat} {E : Nat → Nat} {rk : Bool} (hE : okE E c s) (hg : ∀ j, j < s → g j = g' j) : nxt sb sl ns S g s c E rk = nxt sb sl ns S g' s c E rk := by
  unfold nxt
  rw [sumP_cg (f' := g') hg hE ns (fun _ _ _ _ => rfl)]
  refine tkS_cg S.2 (fun q hq => ?_) (fun _ _ _ _ => rfl)
  unfold gnO
  rw [sumP_cg (f' := apG g' s (cbt sb (S.1 q))) (fun j hj => ?_) (apE_ok hE) ns (fun _ _ _ _ => rfl)]
  unfold apG
  by_cases c : j < s
  · rw [if_pos c, if_pos c, hg j c]
  · rw [if_neg c, if_neg c]
end TCG
abbrev tZ : Type := (Nat → Int32) × Nat × Nat × (Nat → Nat) × (Nat → Int32) × Bool
def apC (g : Nat → Int32) (s n : Nat) (h : Nat → Int32) : Nat → Int32 := fun j => if j < s then g j else if j < s + n then h (j - s) else 0
/-- r rounds of training: bytes, size, pieces, ends, gains, whether there may be more -/
def trL (sb : Nat → Nat → Int32) (sl : Nat → Nat) (ns : Nat) (S : cS) (rk : Bool) : Nat → tZ
  | 0 => (fun _ => 0, 0, 0, fun _ => 0, fun _ => 0, true)
  | r + 1 => if (trL sb sl ns S rk r).2.2.2.2.2 = true then (match (nxt sb sl ns S (trL sb sl ns S rk r).1 (trL sb sl ns S rk r).2.1 (trL sb sl ns S rk r).2.2.1 (trL sb sl ns S rk r).2.2.2.1 rk).1 with
    | none => ((trL sb sl ns S rk r).1, (trL sb sl ns S rk r).2.1, (trL sb sl ns S rk r).2.2.1, (trL sb sl ns S rk r).2.2.2.1, (trL sb sl ns S rk r).2.2.2.2.1, false)
    | some b => (apC (trL sb sl ns S rk r).1 (trL sb sl ns S rk r).2.1 (S.1 b).2.2.1 (cbt sb (S.1 b)), (trL sb sl ns S rk r).2.1 + (S.1 b).2.2.1, (trL sb sl ns S rk r).2.2.1 + 1, apE (trL sb sl ns S rk r).2.2.2.1 (trL sb sl ns S rk r).2.2.1 ((trL sb sl ns S rk r).2.1 + (S.1 b).2.2.1), (fun j => if j = (trL sb sl ns S rk r).2.2.1 then (nxt sb sl ns S (trL sb sl ns S rk r).1 (trL sb sl ns S rk r).2.1 (trL sb sl ns S rk r).2.2.1 (trL sb sl ns S rk r).2.2.2.1 rk).2 else (trL sb sl ns S rk r).2.2.2.2.1 j), true)) else trL sb sl ns S rk r
def okZ (sb : Nat → Nat → Int32) (r : Nat) (Z : tZ) : Prop := Z.2.2.1 ≤ r ∧ Z.2.1 ≤ 12 * Z.2.2.1 ∧ okE Z.2.2.2.1 Z.2.2.1 Z.2.1 ∧ (∀ q, q < Z.2.2.1 → 3 ≤ Z.2.2.2.1 q - pst Z.2.2.2.1 q ∧ Z.2.2.2.1 q - pst Z.2.2.2.1 q ≤ 12) ∧ (∀ j, j < Z.2.1 → ∃ v, v < 256 ∧ Z.1 j = nI v) ∧ (Z.2.2.2.2.2 = true → Z.2.2.1 = r)
section TRL
variable {sb sb' : Nat → Nat → Int32} {sl : Nat → Nat} {ns : Nat} {S : cS} {rk : Bool}
theorem trL_ok (hb : ∀ i, i < ns → ∀ j, j < sl i → ∃ v, v < 256 ∧ sb i j = nI v) (hS : okCS ns sl S) : ∀ r, okZ sb r (trL sb sl ns S rk r)
  | 0 => ⟨Nat.le_refl _, Nat.zero_le _, ⟨fun j hj => absurd hj (Nat.not_lt_zero _), rfl⟩, fun q hq => absurd hq (Nat.not_lt_zero _), fun j hj => absurd hj (Nat.not_lt_zero _), fun _ => rfl⟩
  | r + 1 => by
    obtain ⟨h1, h2, h3, h4, h5, h6⟩ := trL_ok hb hS r
    unfold trL
    generalize trL sb sl ns S rk r = Z at h1 h2 h3 h4 h5 h6 ⊢
    by_cases c : Z.2.2.2.2.2 = true
    · rw [if_pos c]
      have hlt := tkS_lt (gn := fun i => gnO sb sl ns Z.1 Z.2.1 Z.2.2.1 Z.2.2.2.1 rk (nI (sumP sb sl Z.1 Z.2.1 Z.2.2.1 Z.2.2.2.1 rk ns)) (S.1 i)) (od := fun i b => ordV sb (S.1 i) (S.1 b)) S.2
      cases hn : (nxt sb sl ns S Z.1 Z.2.1 Z.2.2.1 Z.2.2.2.1 rk).1 with
      | none => exact ⟨by dsimp only; omega, h2, h3, h4, h5, fun e => by cases e⟩
      | some b =>
        have hbS := hlt b hn
        obtain ⟨k1, k2, k3, k4, k5⟩ := hS.2 b hbS
        have hc := h6 c
        refine ⟨by dsimp only; omega, by dsimp only; omega, apE_ok h3, fun q hq => ?_, fun j hj => ?_, fun _ => by dsimp only; omega⟩
        · dsimp only at hq ⊢
          rw [apE_pst q (by omega)]
          unfold apE
          by_cases e : q = Z.2.2.1
          · rw [if_pos e, e, h3.2]; omega
          · rw [if_neg e]; exact h4 q (by omega)
        · dsimp only at hj ⊢
          unfold apC
          by_cases e : j < Z.2.1
          · rw [if_pos e]; exact h5 j e
          · rw [if_neg e, if_pos hj]
            exact hb _ k1 _ (by omega)
    · rw [if_neg c]
      exact ⟨by omega, h2, h3, h4, h5, fun e => absurd e c⟩
theorem trL_cg (H : ∀ i, i < ns → ∀ j, j < sl i → sb i j = sb' i j) (hb : ∀ i, i < ns → ∀ j, j < sl i → ∃ v, v < 256 ∧ sb i j = nI v) (hS : okCS ns sl S) : ∀ r, trL sb sl ns S rk r = trL sb' sl ns S rk r
  | 0 => rfl
  | r + 1 => by
    have hok := trL_ok (rk := rk) hb hS r
    have e := trL_cg H hb hS r
    unfold trL
    rw [← e]
    generalize trL sb sl ns S rk r = Z at hok ⊢
    obtain ⟨h1, h2, h3, h4, h5, h6⟩ := hok
    rw [nxt_cg H hS h3]
    by_cases c : Z.2.2.2.2.2 = true
    · rw [if_pos c, if_pos c]
      have hlt := tkS_lt (gn := fun i => gnO sb' sl ns Z.1 Z.2.1 Z.2.2.1 Z.2.2.2.1 rk (nI (sumP sb' sl Z.1 Z.2.1 Z.2.2.1 Z.2.2.2.1 rk ns)) (S.1 i)) (od := fun i b => ordV sb' (S.1 i) (S.1 b)) S.2
      cases hn : (nxt sb' sl ns S Z.1 Z.2.1 Z.2.2.1 Z.2.2.2.1 rk).1 with
      | none => rfl
      | some b =>
        have hbS := hlt b hn
        have e2 : apC Z.1 Z.2.1 (S.1 b).2.2.1 (cbt sb (S.1 b)) = apC Z.1 Z.2.1 (S.1 b).2.2.1 (cbt sb' (S.1 b)) := by
          funext j
          unfold apC
          by_cases e : j < Z.2.1
          · rw [if_pos e, if_pos e]
          · rw [if_neg e, if_neg e]
            by_cases e3 : j < Z.2.1 + (S.1 b).2.2.1
            · rw [if_pos e3, if_pos e3]
              exact cbt_cg H (hS.2 b hbS) (by omega)
            · rw [if_neg e3, if_neg e3]
        dsimp only
        rw [e2]
    · rw [if_neg c, if_neg c]
theorem trL_stop {r : Nat} (h : ¬ (trL sb sl ns S rk r).2.2.2.2.2 = true) : ∀ d, trL sb sl ns S rk (r + d) = trL sb sl ns S rk r
  | 0 => rfl
  | d + 1 => by
    have e := trL_stop h d
    exact (show trL sb sl ns S rk (r + d + 1) = if (trL sb sl ns S rk (r + d)).2.2.2.2.2 = true then _ else trL sb sl ns S rk (r + d) from rfl).trans (by rw [e, if_neg h])
end TRL
