/-! ===== the order of candidates ===== -/
def bLt (f g : Nat → Nat) (n : Nat) : Prop := ∃ k, k < n ∧ (∀ j, j < k → f j = g j) ∧ f k < g k
theorem bTri {f g : Nat → Nat} : ∀ n, bLt f g n ∨ (∀ j, j < n → f j = g j) ∨ bLt g f n
  | 0 => Or.inr (Or.inl (fun j hj => absurd hj (Nat.not_lt_zero _)))
  | n + 1 => by
    rcases bTri (f := f) (g := g) n with ⟨k, h1, h2, h3⟩ | h | ⟨k, h1, h2, h3⟩
    · exact Or.inl ⟨k, by omega, h2, h3⟩
    · rcases Nat.lt_trichotomy (f n) (g n) with e | e | e
      · exact Or.inl ⟨n, by omega, h, e⟩
      · refine Or.inr (Or.inl (fun j hj => ?_))
        by_cases c : j = n
        · rw [c]; exact e
        · exact h j (by omega)
      · exact Or.inr (Or.inr ⟨n, by omega, fun j hj => (h j hj).symm, e⟩)
    · exact Or.inr (Or.inr ⟨k, by omega, h2, h3⟩)
theorem bLt_as {f g : Nat → Nat} {n : Nat} (h : bLt f g n) (h' : bLt g f n) : False := by
  obtain ⟨k, h1, h2, h3⟩ := h
  obtain ⟨k', g1, g2, g3⟩ := h'
  rcases Nat.lt_trichotomy k k' with e | e | e
  · have := g2 k e; omega
  · subst e; omega
  · have := h2 k' e; omega
theorem bLt_ne {f g : Nat → Nat} {n : Nat} (h : bLt f g n) (h' : ∀ j, j < n → f j = g j) : False := by
  obtain ⟨k, h1, h2, h3⟩ := h
  have := h' k h1
  omega
theorem bLt_tr {f g h : Nat → Nat} {n : Nat} (h1 : bLt f g n) (h2 : bLt g h n) : bLt f h n := by
  obtain ⟨k, a1, a2, a3⟩ := h1
  obtain ⟨k', b1, b2, b3⟩ := h2
  rcases Nat.lt_trichotomy k k' with e | e | e
  · exact ⟨k, a1, fun j hj => by rw [a2 j hj, b2 j (by omega)], by have := b2 k e; omega⟩
  · subst e
    exact ⟨k, a1, fun j hj => by rw [a2 j hj, b2 j hj], by omega⟩
  · exact ⟨k', b1, fun j hj => by rw [a2 j (by omega), b2 j hj], by have := a2 k' e; omega⟩
theorem bLt_eR {f g h : Nat → Nat} {n : Nat} (h1 : bLt f g n) (h2 : ∀ j, j < n → g j = h j) : bLt f h n := by
  obtain ⟨k, a1, a2, a3⟩ := h1
  exact ⟨k, a1, fun j hj => by rw [a2 j hj, h2 j (by omega)], by have := h2 k a1; omega⟩
/-- a candidate's bytes, as numbers -/
def cbn (J1 : Nat → Nat → Nat) (x : cd) (j : Nat) : Nat := J1 x.1 (x.2.1 + j)
def vLt (J1 : Nat → Nat → Nat) (x p : cd) : Prop := p.2.2.1 < x.2.2.1 ∨ (x.2.2.1 = p.2.2.1 ∧ bLt (cbn J1 x) (cbn J1 p) x.2.2.1)
def wLt (J1 : Nat → Nat → Nat) (x p : cd) : Prop := p.2.2.2 < x.2.2.2 ∨ (x.2.2.2 = p.2.2.2 ∧ vLt J1 x p)
def vEq12 (J1 : Nat → Nat → Nat) (x p : cd) : Prop := x.2.2.1 = p.2.2.1 ∧ ∀ j, j < x.2.2.1 → cbn J1 x j = cbn J1 p j
section ORD
variable {J1 : Nat → Nat → Nat} {x p z : cd} {ns : Nat} {sl : Nat → Nat}
theorem vTri : vLt J1 x p ∨ vEq12 J1 x p ∨ vLt J1 p x := by
  rcases Nat.lt_trichotomy x.2.2.1 p.2.2.1 with e | e | e
  · exact Or.inr (Or.inr (Or.inl e))
  · rcases bTri (f := cbn J1 x) (g := cbn J1 p) x.2.2.1 with h | h | h
    · exact Or.inl (Or.inr ⟨e, h⟩)
    · exact Or.inr (Or.inl ⟨e, h⟩)
    · exact Or.inr (Or.inr (Or.inr ⟨e.symm, by rw [← e]; exact h⟩))
  · exact Or.inl (Or.inl e)
theorem vLt_as (h : vLt J1 x p) (h' : vLt J1 p x) : False := by
  rcases h with h | ⟨h1, h2⟩
  · rcases h' with g | ⟨g1, g2⟩ <;> omega
  · rcases h' with g | ⟨g1, g2⟩
    · omega
    · rw [g1] at g2; exact bLt_as h2 g2
theorem vLt_ne (h : vLt J1 x p) (h' : vEq12 J1 x p) : False := by
  rcases h with h | ⟨h1, h2⟩
  · have := h'.1; omega
  · exact bLt_ne h2 h'.2
theorem vLt_tr (h : vLt J1 x p) (h' : vLt J1 p z) : vLt J1 x z := by
  rcases h with h | ⟨h1, h2⟩
  · rcases h' with g | ⟨g1, g2⟩
    · exact Or.inl (by omega)
    · exact Or.inl (by omega)
  · rcases h' with g | ⟨g1, g2⟩
    · exact Or.inl (by omega)
    · exact Or.inr ⟨by omega, bLt_tr h2 (by rw [h1]; exact g2)⟩
theorem vLt_eR (h : vLt J1 x p) (h' : vEq12 J1 p z) : vLt J1 x z := by
  have e := h'.1
  rcases h with h | ⟨h1, h2⟩
  · exact Or.inl (by omega)
  · exact Or.inr ⟨by omega, bLt_eR h2 (by rw [h1]; exact h'.2)⟩
theorem vEq_sy (h : vEq12 J1 x p) : vEq12 J1 p x := ⟨h.1.symm, fun j hj => (h.2 j (by have := h.1; omega)).symm⟩
theorem wLt_as (h : wLt J1 x p) (h' : wLt J1 p x) : False := by
  rcases h with h | ⟨h1, h2⟩
  · rcases h' with g | ⟨g1, g2⟩ <;> omega
  · rcases h' with g | ⟨g1, g2⟩
    · omega
    · exact vLt_as h2 g2
theorem wLt_tr (h : wLt J1 x p) (h' : wLt J1 p z) : wLt J1 x z := by
  rcases h with h | ⟨h1, h2⟩
  · rcases h' with g | ⟨g1, g2⟩
    · exact Or.inl (by omega)
    · exact Or.inl (by omega)
  · rcases h' with g | ⟨g1, g2⟩
    · exact Or.inl (by omega)
    · exact Or.inr ⟨by omega, vLt_tr h2 g2⟩
theorem wLt_eR (h : wLt J1 x p) (h1 : p.2.2.2 = z.2.2.2) (h2 : vEq12 J1 p z) : wLt J1 x z := by
  rcases h with h | ⟨g1, g2⟩
  · exact Or.inl (by omega)
  · exact Or.inr ⟨by omega, vLt_eR g2 h2⟩
theorem wLt_ne (h : wLt J1 x p) (h1 : x.2.2.2 = p.2.2.2) (h2 : vEq12 J1 x p) : False := by
  rcases h with h | ⟨g1, g2⟩
  · omega
  · exact vLt_ne g2 h2
theorem wTri : wLt J1 x p ∨ (x.2.2.2 = p.2.2.2 ∧ vEq12 J1 x p) ∨ wLt J1 p x := by
  rcases Nat.lt_trichotomy x.2.2.2 p.2.2.2 with e | e | e
  · exact Or.inr (Or.inr (Or.inl e))
  · rcases vTri (J1 := J1) (x := x) (p := p) with h | h | h
    · exact Or.inl (Or.inr ⟨e, h⟩)
    · exact Or.inr (Or.inl ⟨e, h⟩)
    · exact Or.inr (Or.inr (Or.inr ⟨e.symm, h⟩))
  · exact Or.inl (Or.inl e)
theorem i32_as {a : Int32} (h : a < nI 0) (h' : nI 0 < a) : False := by
  rw [Int32.lt_iff_toInt_lt] at h h'
  omega
theorem i32_ir {a : Int32} (h : a < nI 0) (h' : a = nI 0) : False := by
  rw [Int32.lt_iff_toInt_lt, h'] at h
  omega
theorem i32_ir2 {a : Int32} (h : nI 0 < a) (h' : a = nI 0) : False := by
  rw [Int32.lt_iff_toInt_lt, h'] at h
  omega
def bytJ (J1 : Nat → Nat → Nat) (ns : Nat) (sl : Nat → Nat) : Prop := ∀ i, i < ns → ∀ j, j < sl i → J1 i j < 256
theorem cbt_n {J : tJ} {j : Nat} : cbt (sbT J) x j = nI (cbn (J 1) x j) := rfl
theorem ordV3 {J : tJ} (hb : bytJ (J 1) ns sl) (hx : okC ns sl x) (hp : okC ns sl p) : (vLt (J 1) x p → ordV (sbT J) x p < nI 0) ∧ (vEq12 (J 1) x p → ordV (sbT J) x p = nI 0) ∧ (vLt (J 1) p x → nI 0 < ordV (sbT J) x p) := by
  obtain ⟨x1, x2, x3, x4, x5⟩ := hx
  obtain ⟨p1, p2, p3, p4, p5⟩ := hp
  have bx : ∀ j, j < x.2.2.1 → cbn (J 1) x j < 256 := fun j hj => hb _ x1 _ (by omega)
  have bp : ∀ j, j < p.2.2.1 → cbn (J 1) p j < 256 := fun j hj => hb _ p1 _ (by omega)
  have key : ∀ k, x.2.2.1 = p.2.2.1 → k < x.2.2.1 → (∀ j, j < k → cbn (J 1) x j = cbn (J 1) p j) → cbn (J 1) x k ≠ cbn (J 1) p k → ordV (sbT J) x p = nI (cbn (J 1) x k) - nI (cbn (J 1) p k) := by
    intro k hn hk he hne
    have ec : cpl (cbt (sbT J) x) (cbt (sbT J) p) x.2.2.1 = k := cpl_uniq (by omega) (fun j hj => by rw [cbt_n, cbt_n, he j hj]) (fun _ e => by
      rw [cbt_n, cbt_n] at e
      have := bx k hk
      have := bp k (by omega)
      exact hne ((nI_eq (by omega) (by omega)).mp e))
    unfold ordV
    rw [if_pos hn, ec, if_neg (by omega)]
    rfl
  refine ⟨fun h => ?_, fun h => ?_, fun h => ?_⟩
  · rcases h with h | ⟨h1, k, k1, k2, k3⟩
    · unfold ordV
      rw [if_neg (by omega)]
      exact pk_sneg (by omega) h
    · rw [key k h1 k1 k2 (by omega)]
      have := bp k (by omega)
      exact pk_sneg (by omega) k3
  · unfold ordV
    rw [if_pos h.1, if_pos (cpl_full.mpr (fun j hj => by rw [cbt_n, cbt_n, h.2 j hj]))]
  · rcases h with h | ⟨h1, k, k1, k2, k3⟩
    · unfold ordV
      rw [if_neg (by omega), pk_sub (by omega)]
      exact nI_lt (by omega) (by omega)
    · rw [key k h1.symm (by omega) (fun j hj => (k2 j hj).symm) (by omega), pk_sub (by omega)]
      have := bx k (by omega)
      exact nI_lt (by omega) (by omega)
theorem ordV_lt {J : tJ} (hb : bytJ (J 1) ns sl) (hx : okC ns sl x) (hp : okC ns sl p) : ordV (sbT J) x p < nI 0 ↔ vLt (J 1) x p := by
  obtain ⟨a1, a2, a3⟩ := ordV3 hb hx hp
  refine ⟨fun h => ?_, a1⟩
  rcases vTri (J1 := J 1) (x := x) (p := p) with g | g | g
  · exact g
  · exact (i32_ir h (a2 g)).elim
  · exact (i32_as h (a3 g)).elim
theorem ordW3 {J : tJ} (hb : bytJ (J 1) ns sl) (hx : okC ns sl x) (hp : okC ns sl p) : (wLt (J 1) x p → ordW (sbT J) x p < nI 0) ∧ (x.2.2.2 = p.2.2.2 → vEq12 (J 1) x p → ordW (sbT J) x p = nI 0) ∧ (wLt (J 1) p x → nI 0 < ordW (sbT J) x p) := by
  obtain ⟨a1, a2, a3⟩ := ordV3 hb hx hp
  have x5 := hx.2.2.2.2
  have p5 := hp.2.2.2.2
  refine ⟨fun h => ?_, fun e h => ?_, fun h => ?_⟩
  · unfold ordW
    rcases h with h | ⟨h1, h2⟩
    · rw [if_neg (by omega)]
      exact pk_sneg (by omega) h
    · rw [if_pos h1]
      exact a1 h2
  · unfold ordW
    rw [if_pos e]
    exact a2 h
  · unfold ordW
    rcases h with h | ⟨h1, h2⟩
    · rw [if_neg (by omega), pk_sub (by omega)]
      exact nI_lt (by omega) (by omega)
    · rw [if_pos h1.symm]
      exact a3 h2
theorem ordW_lt {J : tJ} (hb : bytJ (J 1) ns sl) (hx : okC ns sl x) (hp : okC ns sl p) : ordW (sbT J) x p < nI 0 ↔ wLt (J 1) x p := by
  obtain ⟨a1, a2, a3⟩ := ordW3 hb hx hp
  refine ⟨fun h => ?_, a1⟩
  rcases wTri (J1 := J 1) (x := x) (p := p) with g | g | g
  · exact g
  · exact (i32_ir h (a2 g.1 g.2)).elim
  · exact (i32_as h (a3 g)).elim
theorem ordW_eq {J : tJ} (hb : bytJ (J 1) ns sl) (hx : okC ns sl x) (hp : okC ns sl p) : ordW (sbT J) x p = nI 0 ↔ (x.2.2.2 = p.2.2.2 ∧ vEq12 (J 1) x p) := by
  obtain ⟨a1, a2, a3⟩ := ordW3 hb hx hp
  refine ⟨fun h => ?_, fun g => a2 g.1 g.2⟩
  rcases wTri (J1 := J 1) (x := x) (p := p) with g | g | g
  · exact (i32_ir (a1 g) h).elim
  · exact g
  · exact (i32_ir2 (a3 g) h).elim
end ORD
/-- where a new one goes -/
theorem iat_uq {lt : cd → Bool} {cs : Nat → cd} : ∀ d i w, i ≤ w → w ≤ i + d → (∀ j, i ≤ j → j < w → lt (cs j) = true) → (w < i + d → ¬ lt (cs w) = true) → iat lt cs d i = w
  | 0, i, w, h1, h2, _, _ => by
    have e : w = i := by omega
    subst e
    rfl
  | d + 1, i, w, h1, h2, h3, h4 => by
    unfold iat
    by_cases c : i = w
    · subst c
      rw [if_neg (h4 (by omega))]
    · rw [if_pos (h3 i (Nat.le_refl _) (by omega))]
      exact iat_uq d (i + 1) w (by omega) (by omega) (fun j g1 g2 => h3 j (by omega) g2) (fun g => h4 (by omega))
theorem iat_pr {lt : cd → Bool} {cs : Nat → cd} : ∀ d i, (∀ j, i ≤ j → j < iat lt cs d i → lt (cs j) = true) ∧ (iat lt cs d i < i + d → ¬ lt (cs (iat lt cs d i)) = true) ∧ i ≤ iat lt cs d i
  | 0, i => ⟨fun j h1 h2 => by unfold iat at h2; omega, fun h => by unfold iat at h; omega, Nat.le_refl _⟩
  | d + 1, i => by
    unfold iat
    by_cases c : lt (cs i) = true
    · rw [if_pos c]
      obtain ⟨a1, a2, a3⟩ := iat_pr (lt := lt) (cs := cs) d (i + 1)
      refine ⟨fun j h1 h2 => ?_, fun h => a2 (by omega), by omega⟩
      by_cases e : j = i
      · subst e; exact c
      · exact a1 j (by omega) h2
    · rw [if_neg c]
      exact ⟨fun j h1 h2 => by omega, fun _ => c, Nat.le_refl _⟩
/-- candidates in their order, each with its own count -/
def srt (J : tJ) (sl : Nat → Nat) (ns : Nat) (S : cS) : Prop := okCS ns sl S ∧ (∀ i j, i < j → j < S.2 → wLt (J 1) (S.1 i) (S.1 j)) ∧ ∀ i, i < S.2 → (S.1 i).2.2.2 = sprd (sbT J) sl (S.1 i).1 (S.1 i).2.1 (S.1 i).2.2.1 ns
section SRT
variable {J : tJ} {sl : Nat → Nat} {ns : Nat} {S : cS} {p : cd}
/-- one that is there already -/
theorem insP_dup {i : Nat} (hb : bytJ (J 1) ns sl) (hS : srt J sl ns S) (hp : okC ns sl p) (hi : i < S.2) (h : vEq12 (J 1) (S.1 i) p) (hc : (S.1 i).2.2.2 = p.2.2.2) : insP (sbT J) S p = S := by
  have e : iat (fun c => decide (ordW (sbT J) c p < nI 0)) S.1 S.2 0 = i := by
    refine iat_uq S.2 0 i (Nat.zero_le _) (by omega) (fun j _ hj => ?_) (fun _ g => ?_)
    · exact decide_eq_true ((ordW_lt hb (hS.1.2 j (by omega)) hp).mpr (wLt_eR (hS.2.1 j i hj hi) hc h))
    · exact wLt_ne ((ordW_lt hb (hS.1.2 i hi) hp).mp (of_decide_eq_true g)) hc h
  unfold insP
  rw [e, if_pos (Or.inl ⟨hi, (ordW_eq hb (hS.1.2 i hi) hp).mpr ⟨hc, h⟩⟩)]
/-- a new one: w is its place -/
theorem insP_new {w : Nat} (hb : bytJ (J 1) ns sl) (hS : srt J sl ns S) (hp : okC ns sl p) (hw : w ≤ S.2) (h1 : 0 < w → ¬ wLt (J 1) p (S.1 (w - 1))) (h2 : w < S.2 → wLt (J 1) p (S.1 w)) (hn : ∀ i, i < S.2 → ¬ vEq12 (J 1) (S.1 i) p) : insP (sbT J) S p = if 8 ≤ w then S else (insC S.1 w p, min (S.2 + 1) 8) := by
  have lo : ∀ j, j < w → wLt (J 1) (S.1 j) p := by
    intro j hj
    have hlast : wLt (J 1) (S.1 (w - 1)) p := by
      rcases wTri (J1 := J 1) (x := S.1 (w - 1)) (p := p) with g | g | g
      · exact g
      · exact absurd g.2 (hn _ (by omega))
      · exact absurd g (h1 (by omega))
    by_cases e : j = w - 1
    · rw [e]; exact hlast
    · exact wLt_tr (hS.2.1 j (w - 1) (by omega) (by omega)) hlast
  have e : iat (fun c => decide (ordW (sbT J) c p < nI 0)) S.1 S.2 0 = w := by
    refine iat_uq S.2 0 w (Nat.zero_le _) (by omega) (fun j _ hj => ?_) (fun g1 g => ?_)
    · exact decide_eq_true ((ordW_lt hb (hS.1.2 j (by omega)) hp).mpr (lo j hj))
    · exact wLt_as ((ordW_lt hb (hS.1.2 w (by omega)) hp).mp (of_decide_eq_true g)) (h2 (by omega))
  unfold insP
  rw [e]
  by_cases c : 8 ≤ w
  · rw [if_pos (Or.inr c), if_pos c]
  · rw [if_neg (fun x => x.elim (fun x => hn w x.1 ((ordW_eq hb (hS.1.2 w x.1) hp).mp x.2).2) c), if_neg c]
/-- the order stays -/
theorem insP_srt (hb : bytJ (J 1) ns sl) (hS : srt J sl ns S) (hp : okC ns sl p) (hc : p.2.2.2 = sprd (sbT J) sl p.1 p.2.1 p.2.2.1 ns) : srt J sl ns (insP (sbT J) S p) := by
  refine ⟨insP_okCS hS.1 hp, ?_⟩
  obtain ⟨a1, a2, -⟩ := iat_pr (lt := fun c => decide (ordW (sbT J) c p < nI 0)) (cs := S.1) S.2 0
  have a3 := iat_le (lt := fun c => decide (ordW (sbT J) c p < nI 0)) (cs := S.1) S.2 0
  unfold insP
  generalize iat (fun c => decide (ordW (sbT J) c p < nI 0)) S.1 S.2 0 = w at a1 a2 a3 ⊢
  split
  · exact hS.2
  · rename_i hno
    have lo : ∀ j, j < w → wLt (J 1) (S.1 j) p := fun j hj => (ordW_lt hb (hS.1.2 j (by omega)) hp).mp (of_decide_eq_true (a1 j (Nat.zero_le _) hj))
    have hi : ∀ j, w ≤ j → j < S.2 → wLt (J 1) p (S.1 j) := by
      intro j h1 h2
      have hw : wLt (J 1) p (S.1 w) := by
        rcases wTri (J1 := J 1) (x := S.1 w) (p := p) with g | g | g
        · exact absurd (decide_eq_true ((ordW_lt hb (hS.1.2 w (by omega)) hp).mpr g)) (a2 (by omega))
        · exact absurd (Or.inl ⟨by omega, (ordW_eq hb (hS.1.2 w (by omega)) hp).mpr g⟩) hno
        · exact g
      by_cases e : j = w
      · rw [e]; exact hw
      · exact wLt_tr hw (hS.2.1 w j (by omega) h2)
    refine ⟨fun i j hij hj => ?_, fun i hi' => ?_⟩
    · have hj' : j < min (S.2 + 1) 8 := hj
      show wLt (J 1) (insC S.1 w p i) (insC S.1 w p j)
      unfold insC
      by_cases c1 : i < w
      · rw [if_pos c1]
        by_cases c2 : j < w
        · rw [if_pos c2]; exact hS.2.1 i j hij (by omega)
        · rw [if_neg c2]
          by_cases c3 : j = w
          · rw [if_pos c3]; exact lo i c1
          · rw [if_neg c3]; exact hS.2.1 i (j - 1) (by omega) (by omega)
      · rw [if_neg c1, if_neg (show ¬ j < w by omega), if_neg (show ¬ j = w by omega)]
        by_cases c3 : i = w
        · rw [if_pos c3]; exact hi (j - 1) (by omega) (by omega)
        · rw [if_neg c3]; exact hS.2.1 (i - 1) (j - 1) (by omega) (by omega)
    · have hi2 : i < min (S.2 + 1) 8 := hi'
      show (insC S.1 w p i).2.2.2 = sprd (sbT J) sl (insC S.1 w p i).1 (insC S.1 w p i).2.1 (insC S.1 w p i).2.2.1 ns
      unfold insC
      by_cases c1 : i < w
      · rw [if_pos c1]; exact hS.2.2 i (by omega)
      · rw [if_neg c1]
        by_cases c3 : i = w
        · rw [if_pos c3]; exact hc
        · rw [if_neg c3]; exact hS.2.2 (i - 1) (by omega)
end SRT
/-! how often a piece is in the samples -/
section SPR
variable {sb : Nat → Nat → Int32} {sl : Nat → Nat} {s p i n : Nat}
theorem cpl_ge {f g : Nat → Int32} {m n : Nat} : n ≤ cpl f g m ↔ n ≤ m ∧ ∀ j, j < n → f j = g j := by
  have hl := cpl_le (f := f) (g := g) m
  constructor
  · intro h
    exact ⟨by omega, fun j hj => cpl_eq m j (by omega)⟩
  · rintro ⟨h1, h2⟩
    by_cases c : n ≤ cpl f g m
    · exact c
    · exact absurd (h2 _ (by omega)) (cpl_ne m (by omega))
theorem alk_ge {q : Nat} : n ≤ alk sb sl s p i q ↔ (n ≤ 12 ∧ n ≤ sl s - p ∧ n ≤ sl i - q) ∧ ∀ j, j < n → sb s (p + j) = sb i (q + j) := by
  unfold alk
  rw [cpl_ge]
  constructor
  · rintro ⟨h1, h2⟩; exact ⟨⟨by omega, by omega, by omega⟩, h2⟩
  · rintro ⟨h1, h2⟩; exact ⟨by omega, h2⟩
theorem lon_ge (hn : 0 < n) : ∀ w, n ≤ lon sb sl s p i w ↔ ∃ q, q < w ∧ n ≤ alk sb sl s p i q
  | 0 => ⟨fun h => by unfold lon at h; omega, fun ⟨q, h, _⟩ => absurd h (Nat.not_lt_zero _)⟩
  | w + 1 => by
    have ih := lon_ge hn w
    unfold lon
    constructor
    · intro h
      by_cases c : n ≤ lon sb sl s p i w
      · obtain ⟨q, h1, h2⟩ := ih.mp c
        exact ⟨q, by omega, h2⟩
      · exact ⟨w, by omega, by omega⟩
    · rintro ⟨q, h1, h2⟩
      by_cases c : q = w
      · rw [c] at h2; omega
      · have := ih.mpr ⟨q, by omega, h2⟩
        omega
theorem lon_in (hn : 0 < n) (h12 : n ≤ 12) (hs : p + n ≤ sl s) : n ≤ lon sb sl s p i (sl i) ↔ ∃ q, q + n ≤ sl i ∧ ∀ j, j < n → sb s (p + j) = sb i (q + j) := by
  rw [lon_ge hn]
  constructor
  · rintro ⟨q, h1, h2⟩
    obtain ⟨h3, h4⟩ := alk_ge.mp h2
    exact ⟨q, by omega, h4⟩
  · rintro ⟨q, h1, h2⟩
    exact ⟨q, by omega, alk_ge.mpr ⟨⟨h12, by omega, by omega⟩, h2⟩⟩
/-- the same bytes are as often -/
theorem sprd_same {s' p' : Nat} (hn : 0 < n) (h12 : n ≤ 12) (hs : p + n ≤ sl s) (hs' : p' + n ≤ sl s') (h : ∀ j, j < n → sb s (p + j) = sb s' (p' + j)) : ∀ i, sprd sb sl s p n i = sprd sb sl s' p' n i
  | 0 => rfl
  | i + 1 => by
    unfold sprd
    rw [sprd_same hn h12 hs hs' h i]
    have e : n ≤ lon sb sl s p i (sl i) ↔ n ≤ lon sb sl s' p' i (sl i) := by
      rw [lon_in hn h12 hs, lon_in hn h12 hs']
      constructor
      · rintro ⟨q, h1, h2⟩; exact ⟨q, h1, fun j hj => by rw [← h j hj]; exact h2 j hj⟩
      · rintro ⟨q, h1, h2⟩; exact ⟨q, h1, fun j hj => by rw [h j hj]; exact h2 j hj⟩
    by_cases c : n ≤ lon sb sl s p i (sl i)
    · rw [if_pos c, if_pos (e.mp c)]
    · rw [if_neg c, if_neg (fun x => c (e.mpr x))]
end SPR
