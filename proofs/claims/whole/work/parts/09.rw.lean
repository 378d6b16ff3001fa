/-! ===== runs of the pure machine, goal first; the heap as functions of fields and arrays ===== -/
theorem pm_run_succ : ∀ (f k : Nat) (M : pm_M) (pc : Nat) (ls st : List Value) (hp : pm_H) (x : Option Value × pm_H), pm_run f k M pc ls st hp = some x → pm_run (f + 1) k M pc ls st hp = some x := by
  intro f
  induction f with
  | zero => intro k M pc ls st hp x h; cases h
  | succ f ih =>
    intro k M pc ls st hp x h
    rw [pm_run] at h ⊢
    split at h
    · cases h
    · rename_i i len hd
      split at h
      · rename_i q hq
        try rw [hq]
        exact ih _ _ _ _ _ _ _ h
      · rename_i hq
        try rw [hq]
        try dsimp only
        split at h
        · rename_i r hr
          try rw [hr]
          exact h
        · rename_i hr
          try rw [hr]
          try dsimp only
          split at h
          · cases h
          · rename_i M' as rest hi
            try rw [hi]
            try dsimp only
            split at h
            · cases h
            · rename_i k'
              split at h
              · cases h
              · rename_i r1 hp1 h1
                try dsimp only
                rw [ih _ _ _ _ _ _ _ h1]
                exact ih _ _ _ _ _ _ _ h
theorem pm_run_le {f g k : Nat} {M : pm_M} {pc : Nat} {ls st : List Value} {hp : pm_H} {x : Option Value × pm_H} (h : pm_run f k M pc ls st hp = some x) (hl : f ≤ g) : pm_run g k M pc ls st hp = some x := by
  induction g with
  | zero => rw [Nat.le_zero.mp hl] at h; exact h
  | succ g ih =>
    rcases Nat.lt_or_ge f (g + 1) with h1 | h1
    · exact pm_run_succ _ _ _ _ _ _ _ _ (ih (by omega))
    · rw [show f = g + 1 by omega] at h; exact h
def rw_ (k : Nat) (M : pm_M) (pc : Nat) (ls st : List Value) (hp : pm_H) (Q : Option Value → pm_H → Prop) : Prop := ∃ f r hp', pm_run f k M pc ls st hp = some (r, hp') ∧ Q r hp'
def rc_ (k : Nat) (M : pm_M) (as : List Value) (hp : pm_H) (Q : Option Value → pm_H → Prop) : Prop := rw_ k M 0 (pm_ent M as) [] hp Q
theorem rw_mono {k : Nat} {M : pm_M} {pc : Nat} {ls st : List Value} {hp : pm_H} {Q Q' : Option Value → pm_H → Prop} (h : rw_ k M pc ls st hp Q) (hq : ∀ r hp', Q r hp' → Q' r hp') : rw_ k M pc ls st hp Q' := by
  obtain ⟨f, r, hp', h1, h2⟩ := h
  exact ⟨f, r, hp', h1, hq r hp' h2⟩
theorem rc_mono {k : Nat} {M : pm_M} {as : List Value} {hp : pm_H} {Q Q' : Option Value → pm_H → Prop} (h : rc_ k M as hp Q) (hq : ∀ r hp', Q r hp' → Q' r hp') : rc_ k M as hp Q' := rw_mono h hq
/-- an outcome, and then what holds of it -/
theorem rc_at {k : Nat} {M : pm_M} {as : List Value} {hp hp1 : pm_H} {r1 : Option Value} {Q : Option Value → pm_H → Prop} (h : rc_ k M as hp (fun r hp' => r = r1 ∧ hp' = hp1)) : rc_ k M as hp Q ↔ Q r1 hp1 := by
  constructor
  · intro hq
    obtain ⟨f, r, hp', h1, h2, h3⟩ := h
    obtain ⟨g, r', hp'', h4, h5⟩ := hq
    subst h2; subst h3
    have e1 := pm_run_le h1 (Nat.le_max_left f g)
    have e2 := pm_run_le h4 (Nat.le_max_right f g)
    rw [e1] at e2
    cases e2
    exact h5
  · intro hq
    exact rc_mono h (fun r hp' hh => by rw [hh.1, hh.2]; exact hq)
section RW
variable {k : Nat} {M : pm_M} {pc : Nat} {ls st : List Value} {hp : pm_H} {Q : Option Value → pm_H → Prop} {i : Instr} {len : Nat}
theorem rw_cont {q : pm_S} (hd : decode M.2.1 pc = .ok (i, len)) (hs : pm_st k M i len pc ls st hp = some q) : rw_ k M pc ls st hp Q ↔ rw_ k M q.1 q.2.1 q.2.2.1 q.2.2.2 Q := by
  constructor
  · rintro ⟨f, r, hp', h, hq⟩
    cases f with
    | zero => cases h
    | succ f =>
      rw [pm_run, hd] at h
      dsimp only at h
      rw [hs] at h
      exact ⟨f, r, hp', h, hq⟩
  · rintro ⟨f, r, hp', h, hq⟩
    refine ⟨f + 1, r, hp', ?_, hq⟩
    rw [pm_run, hd]
    dsimp only
    rw [hs]
    exact h
theorem rw_ret {r : Option Value} (hd : decode M.2.1 pc = .ok (i, len)) (hs : pm_st k M i len pc ls st hp = none) (hr : pm_ret M i len st = some r) : rw_ k M pc ls st hp Q ↔ Q r hp := by
  constructor
  · rintro ⟨f, r', hp', h, hq⟩
    cases f with
    | zero => cases h
    | succ f =>
      rw [pm_run, hd] at h
      dsimp only at h
      rw [hs] at h
      dsimp only at h
      rw [hr] at h
      cases h
      exact hq
  · intro hq
    refine ⟨1, r, hp, ?_, hq⟩
    rw [pm_run, hd]
    dsimp only
    rw [hs]
    dsimp only
    rw [hr]
theorem rw_call {M' : pm_M} {as rest : List Value} (hd : decode M.2.1 pc = .ok (i, len)) (hs : pm_st (k + 1) M i len pc ls st hp = none) (hr : pm_ret M i len st = none) (hi : pm_inv M i len st hp = some (M', as, rest)) : rw_ (k + 1) M pc ls st hp Q ↔ rc_ k M' as hp (fun r hp' => rw_ (k + 1) M (pc + 3) ls (r.toList ++ rest) hp' Q) := by
  constructor
  · rintro ⟨f, r', hp', h, hq⟩
    cases f with
    | zero => cases h
    | succ f =>
      rw [pm_run, hd] at h
      dsimp only at h
      rw [hs] at h
      dsimp only at h
      rw [hr] at h
      dsimp only at h
      rw [hi] at h
      dsimp only at h
      split at h
      · cases h
      · rename_i r1 hp1 h1
        exact ⟨f, r1, hp1, h1, f, r', hp', h, hq⟩
  · rintro ⟨f, r1, hp1, h1, g, r', hp', h, hq⟩
    refine ⟨max f g + 1, r', hp', ?_, hq⟩
    rw [pm_run, hd]
    dsimp only
    rw [hs]
    dsimp only
    rw [hr]
    dsimp only
    rw [hi]
    dsimp only
    rw [pm_run_le h1 (Nat.le_max_left f g)]
    exact pm_run_le h (Nat.le_max_right f g)
end RW
/-! the heap as functions: int fields by key and address, references by key and address, int arrays, arrays of references; the shapes -/
def up2 {α : Type} (F : Nat → Nat → α) (k a : Nat) (v : α) : Nat → Nat → α := fun k' a' => if k' = k then (if a' = a then v else F k' a') else F k' a'
theorem up2_eq {α : Type} {F : Nat → Nat → α} {k a : Nat} {v : α} : up2 F k a v k a = v := by simp [up2]
theorem up2_k {α : Type} {F : Nat → Nat → α} {k a : Nat} {v : α} {k' a' : Nat} (h : k' ≠ k) : up2 F k a v k' a' = F k' a' := by simp [up2, h]
theorem up2_a {α : Type} {F : Nat → Nat → α} {k a : Nat} {v : α} {k' a' : Nat} (h : a' ≠ a) : up2 F k a v k' a' = F k' a' := by simp [up2, h]
theorem up2_row {α : Type} {F : Nat → Nat → α} {k a : Nat} {v : α} {k' : Nat} (h : k' ≠ k) : up2 F k a v k' = F k' := by funext a'; simp [up2, h]
theorem up2_up2 {α : Type} {F : Nat → Nat → α} {k a : Nat} {v v' : α} : up2 (up2 F k a v) k a v' = up2 F k a v' := by
  funext k' a'
  simp only [up2]
  split
  · split <;> rfl
  · rfl
theorem up2_id {α : Type} {F : Nat → Nat → α} {k a : Nat} : up2 F k a (F k a) = F := by
  funext k' a'
  simp only [up2]
  split
  · rename_i h1
    split
    · rename_i h2
      rw [h1, h2]
    · rfl
  · rfl
abbrev hs_ : Type := Nat → Option (Nat × Nat × Nat)
abbrev hF_ : Type := Nat → Nat → Int32
abbrev hR_ : Type := Nat → Nat → Option Nat
def pm_isI (ty : FieldType) : Bool := match ty with
  | .int => true
  | .boolean => true
  | _ => false
def pm_fv (ci k : Nat) (x : Int32) (r : Option Nat) : Value := if pm_isI (pm_ty ci k) = true then .int x else va_rf r
def pm_fs (ci a : Nat) (F : hF_) (R : hR_) : List Value := (List.range (pm_N ci)).map (fun k => pm_fv ci k (F (100 * ci + k) a) (R (100 * ci + k) a))
def pm_ce (s : Nat × Nat × Nat) (a : Nat) (F : hF_) (R : hR_) (A : hF_) (B : hR_) : pm_C := match s with
  | (0, ci, _) => .inr (.inr (ci, pm_fs ci a F R))
  | (1, t, n) => .inl (t, n, A a)
  | (_, ci, n) => .inr (.inl (ci, n, B a))
/-- next address, slots spent, shapes (0: an object of a class; 1: ints, tag, length; 2: references, class, length), int fields, references, ints, references in rows -/
def mkh (n u : Nat) (sh : hs_) (F : hF_) (R : hR_) (A : hF_) (B : hR_) : pm_H := (n, u, fun a => match sh a with
  | some s => some (pm_ce s a F R A B)
  | none => none)
section MK
variable {n u : Nat} {sh : hs_} {F : hF_} {R : hR_} {A : hF_} {B : hR_} {a : Nat}
theorem mkh_o {ci z : Nat} (h : sh a = some (0, ci, z)) : (mkh n u sh F R A B).2.2 a = some (.inr (.inr (ci, pm_fs ci a F R))) := by simp [mkh, h, pm_ce]
theorem mkh_i {t z : Nat} (h : sh a = some (1, t, z)) : (mkh n u sh F R A B).2.2 a = some (.inl (t, z, A a)) := by simp [mkh, h, pm_ce]
theorem mkh_r {ci z : Nat} (h : sh a = some (2, ci, z)) : (mkh n u sh F R A B).2.2 a = some (.inr (.inl (ci, z, B a))) := by simp [mkh, h, pm_ce]
theorem pm_fs_get {ci k : Nat} (h : k < pm_N ci) : (pm_fs ci a F R)[k]? = some (pm_fv ci k (F (100 * ci + k) a) (R (100 * ci + k) a)) := by
  unfold pm_fs
  rw [List.getElem?_map, List.getElem?_range h]
  rfl
theorem pm_fs_len {ci : Nat} : (pm_fs ci a F R).length = pm_N ci := by simp [pm_fs]
theorem pm_N_le : ∀ ci, pm_N ci ≤ 64 := by
  intro ci
  unfold pm_N
  split <;> decide
theorem pm_fs_eqF {ci k b : Nat} {x : Int32} (h : b ≠ a) : pm_fs ci b (up2 F k a x) R = pm_fs ci b F R := by
  unfold pm_fs
  congr 1
  funext j
  rw [up2_a h]
theorem pm_fs_eqR {ci k b : Nat} {x : Option Nat} (h : b ≠ a) : pm_fs ci b F (up2 R k a x) = pm_fs ci b F R := by
  unfold pm_fs
  congr 1
  funext j
  rw [up2_a h]
theorem pm_key {ci cj j k : Nat} (hj : j < pm_N cj) (hk : k < pm_N ci) (h : 100 * cj + j = 100 * ci + k) : cj = ci ∧ j = k := by
  have h1 := pm_N_le ci
  have h2 := pm_N_le cj
  omega
theorem pm_fs_setF {ci k : Nat} {x : Int32} (hk : k < pm_N ci) (hI : pm_isI (pm_ty ci k) = true) : (pm_fs ci a F R).set k (.int x) = pm_fs ci a (up2 F (100 * ci + k) a x) R := by
  apply List.ext_getElem?
  intro j
  by_cases hj : j < pm_N ci
  · rw [pm_fs_get hj]
    by_cases e : k = j
    · subst e
      rw [List.getElem?_set_self (by rw [pm_fs_len]; exact hk), up2_eq]
      simp [pm_fv, hI]
    · rw [List.getElem?_set_ne e, pm_fs_get hj, up2_k (by omega)]
  · rw [List.getElem?_eq_none (by rw [List.length_set, pm_fs_len]; omega), List.getElem?_eq_none (by rw [pm_fs_len]; omega)]
theorem pm_fs_setR {ci k : Nat} {x : Option Nat} (hk : k < pm_N ci) (hI : pm_isI (pm_ty ci k) = false) : (pm_fs ci a F R).set k (va_rf x) = pm_fs ci a F (up2 R (100 * ci + k) a x) := by
  apply List.ext_getElem?
  intro j
  by_cases hj : j < pm_N ci
  · rw [pm_fs_get hj]
    by_cases e : k = j
    · subst e
      rw [List.getElem?_set_self (by rw [pm_fs_len]; exact hk), up2_eq]
      simp [pm_fv, hI]
    · rw [List.getElem?_set_ne e, pm_fs_get hj, up2_k (by omega)]
  · rw [List.getElem?_eq_none (by rw [List.length_set, pm_fs_len]; omega), List.getElem?_eq_none (by rw [pm_fs_len]; omega)]
theorem mkh_setF {ci k z : Nat} {x : Int32} (h : sh a = some (0, ci, z)) (hk : k < pm_N ci) (hI : pm_isI (pm_ty ci k) = true) : (n, u, pm_up (mkh n u sh F R A B).2.2 a (.inr (.inr (ci, (pm_fs ci a F R).set k (.int x))))) = mkh n u sh (up2 F (100 * ci + k) a x) R A B := by
  unfold mkh
  congr 2
  funext b
  unfold pm_up
  dsimp only
  by_cases e : b = a
  · subst e
    rw [if_pos rfl, h, pm_fs_setF hk hI]
    rfl
  · rw [if_neg e]
    split
    · rename_i s hs
      unfold pm_ce
      split
      · rw [pm_fs_eqF e]
      · rfl
      · rfl
    · rfl
theorem mkh_setR {ci k z : Nat} {x : Option Nat} (h : sh a = some (0, ci, z)) (hk : k < pm_N ci) (hI : pm_isI (pm_ty ci k) = false) : (n, u, pm_up (mkh n u sh F R A B).2.2 a (.inr (.inr (ci, (pm_fs ci a F R).set k (va_rf x))))) = mkh n u sh F (up2 R (100 * ci + k) a x) A B := by
  unfold mkh
  congr 2
  funext b
  unfold pm_up
  dsimp only
  by_cases e : b = a
  · subst e
    rw [if_pos rfl, h, pm_fs_setR hk hI]
    rfl
  · rw [if_neg e]
    split
    · rename_i s hs
      unfold pm_ce
      split
      · rw [pm_fs_eqR e]
      · rfl
      · rfl
    · rfl
theorem mkh_setA {t z j : Nat} {x : Int32} (h : sh a = some (1, t, z)) : (n, u, pm_up (mkh n u sh F R A B).2.2 a (.inl (t, z, upd (A a) j x))) = mkh n u sh F R (up2 A a j x) B := by
  unfold mkh
  congr 2
  funext b
  unfold pm_up
  dsimp only
  by_cases e : b = a
  · subst e
    rw [if_pos rfl, h]
    unfold pm_ce
    dsimp only
    congr 4
    funext q
    by_cases hq : q = j
    · subst hq; simp [upd, up2]
    · simp [upd, up2, hq]
  · rw [if_neg e]
    split
    · rename_i s hs
      unfold pm_ce
      split
      · rfl
      · rw [up2_row e]
      · rfl
    · rfl
theorem mkh_setB {ci z j : Nat} {x : Option Nat} (h : sh a = some (2, ci, z)) : (n, u, pm_up (mkh n u sh F R A B).2.2 a (.inr (.inl (ci, z, va_up (B a) j x)))) = mkh n u sh F R A (up2 B a j x) := by
  unfold mkh
  congr 2
  funext b
  unfold pm_up
  dsimp only
  by_cases e : b = a
  · subst e
    rw [if_pos rfl, h]
    unfold pm_ce
    dsimp only
    congr 5
    funext q
    by_cases hq : q = j
    · subst hq; simp [va_up, up2]
    · simp [va_up, up2, hq]
  · rw [if_neg e]
    split
    · rename_i s hs
      unfold pm_ce
      split
      · rfl
      · rfl
      · rw [up2_row e]
    · rfl
end MK
