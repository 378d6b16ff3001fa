/-! ===== the pure machine and the machine: what a heap holds, what locals hold ===== -/
/-- the classes' numbers, the fields' slots, the arrays' classes, the first address that is ours -/
abbrev pm_W : Type := (Nat → ClassId) × (Nat → Nat → Nat) × (Nat → ClassId) × Nat
def pm_tys (cA : Nat → ClassId) : List (ClassId × FieldType) := [(cA 0, .int), (cA 1, .boolean), (cA 2, .object (pm_cn 0)), (cA 3, .object (pm_cn 1)), (cA 4, .object (pm_cn 2)), (cA 5, .object (pm_cn 3))]
theorem pm_tys_q (cA : Nat → ClassId) {ci : Nat} (h : ci < 4) : (pm_tys cA)[ci + 2]? = some (cA (ci + 2), .object (pm_cn ci)) := by
  match ci, h with
  | 0, _ => rfl
  | 1, _ => rfl
  | 2, _ => rfl
  | 3, _ => rfl
  | n + 4, h => exact absurd h (by omega)
def pm_K (w : pm_W) (U : State) : Prop := va_K (w.1, w.2.1) vwCl (pm_tys w.2.2.1) U ∧ (∀ c ∈ tables_1, pm_isN c = true → va_Nw c U) ∧ ∀ ci, ci < 4 → va_AO (pm_cn ci) U
theorem pm_K.moved {w : pm_W} {s U : State} (hW : s.WarmedH U.vm) (h : pm_K w s) : pm_K w U := by
  refine ⟨va_K.moved hW.alike h.1, fun c hc hn => ?_, fun ci hci => va_AO.moved hW.alike (h.2.2 ci hci)⟩
  have hz := h.2.1 c hc hn
  unfold pm_isN at hn
  split at hn
  · exact va_Nw.warmF hW hz
  · exact va_Nw.warmM hW hz
  · cases hn
theorem pm_K.same {w : pm_W} {u U : State} (hvm : u.vm = U.vm) (h : pm_K w u) : pm_K w U := by
  have ha : u.vm.Alike U.vm := by rw [hvm]; exact Vm.Alike.refl _
  refine ⟨va_K.moved ha h.1, fun c hc hn => ?_, fun ci hci => va_AO.moved ha (h.2.2 ci hci)⟩
  have hz := h.2.1 c hc hn
  unfold pm_isN at hn
  split at hn
  · exact va_Nw.same rfl hvm hz
  · exact va_Nw.same rfl hvm hz
  · cases hn
def pm_at (w : pm_W) (U : State) (a : Nat) (c : pm_C) (H : Heap) : Prop := match c with
  | .inl (t, n, f) => (t = 2 ∧ a < w.2.2.2 ∧ va_X a n f U H) ∨ (t < 2 ∧ w.2.2.2 ≤ a ∧ H[a]? = some (vp_cell (w.2.2.1 t) (n, .inl f)))
  | .inr (.inl (ci, n, f)) => ci < 4 ∧ w.2.2.2 ≤ a ∧ H[a]? = some (vp_cell (w.2.2.1 (ci + 2)) (n, .inr (.inr (.inr (.inr f)))))
  | .inr (.inr (ci, fs)) => ci < 13 ∧ w.2.2.2 ≤ a ∧ t_OB a (w.1 ci) (pm_N ci) (w.2.1 ci) H (vp_V fs)
theorem pm_at.kept {w : pm_W} {U : State} {a : Nat} {c : pm_C} {H H1 : Heap} (h : pm_at w U a c H) (hq : H1[a]? = H[a]?) : pm_at w U a c H1 := by
  rcases c with ⟨t, n, f⟩ | ⟨ci, n, f⟩ | ⟨ci, fs⟩
  · rcases h with ⟨h1, h2, h3⟩ | ⟨h1, h2, h3⟩
    · exact Or.inl ⟨h1, h2, h3.kept hq⟩
    · exact Or.inr ⟨h1, h2, hq.trans h3⟩
  · exact ⟨h.1, h.2.1, hq.trans h.2.2⟩
  · exact ⟨h.1, h.2.1, h.2.2.kept hq⟩
theorem pm_at.moved {w : pm_W} {u U : State} (hvm : u.vm.Alike U.vm) {a : Nat} {c : pm_C} {H : Heap} (h : pm_at w u a c H) : pm_at w U a c H := by
  rcases c with ⟨t, n, f⟩ | ⟨ci, n, f⟩ | ⟨ci, fs⟩
  · rcases h with ⟨h1, h2, h3⟩ | h
    · exact Or.inl ⟨h1, h2, h3.moved hvm⟩
    · exact Or.inr h
  · exact h
  · exact h
theorem pm_at.lt {w : pm_W} {U : State} {a : Nat} {c : pm_C} {H : Heap} (h : pm_at w U a c H) : a < H.size := by
  rcases c with ⟨t, n, f⟩ | ⟨ci, n, f⟩ | ⟨ci, fs⟩
  · rcases h with ⟨-, -, scr, h3, -⟩ | ⟨-, -, h3⟩
    · exact (Array.getElem?_eq_some_iff.mp h3).1
    · exact (Array.getElem?_eq_some_iff.mp h3).1
  · exact (Array.getElem?_eq_some_iff.mp h.2.2).1
  · obtain ⟨-, -, cell, h3, -⟩ := h
    exact (Array.getElem?_eq_some_iff.mp h3).1
def pm_rep (w : pm_W) (U : State) (hp : pm_H) (H : Heap) : Prop := H.size = hp.1 ∧ w.2.2.2 ≤ hp.1 ∧ ∀ a c, hp.2.2 a = some c → pm_at w U a c H
theorem pm_rep.moved {w : pm_W} {u U : State} (hvm : u.vm.Alike U.vm) {hp : pm_H} {H : Heap} (h : pm_rep w u hp H) : pm_rep w U hp H := ⟨h.1, h.2.1, fun a c hc => (h.2.2 a c hc).moved hvm⟩
theorem pm_rep.up {w : pm_W} {U : State} {hp : pm_H} {H H1 : Heap} {a : Nat} {c1 : pm_C} (h : pm_rep w U hp H) (z : H1.size = H.size) (oq : ∀ q : Nat, q ≠ a → H1[q]? = H[q]?) (h1 : pm_at w U a c1 H1) : pm_rep w U (hp.1, hp.2.1, pm_up hp.2.2 a c1) H1 := by
  refine ⟨z.trans h.1, h.2.1, fun q c hc => ?_⟩
  unfold pm_up at hc
  dsimp only at hc
  split at hc
  · rename_i e
    cases hc
    rw [e]
    exact h1
  · rename_i e
    exact (h.2.2 q c hc).kept (oq q e)
theorem pm_rep.push {w : pm_W} {U : State} {hp : pm_H} {H H1 : Heap} {u : Nat} {c1 : pm_C} (h : pm_rep w U hp H) (z : H1.size = hp.1 + 1) (oq : ∀ q : Nat, q < hp.1 → H1[q]? = H[q]?) (h1 : pm_at w U hp.1 c1 H1) : pm_rep w U (hp.1 + 1, u, pm_up hp.2.2 hp.1 c1) H1 := by
  refine ⟨z, Nat.le_succ_of_le h.2.1, fun q c hc => ?_⟩
  unfold pm_up at hc
  dsimp only at hc
  split at hc
  · rename_i e
    cases hc
    rw [e]
    exact h1
  · rename_i e
    have h2 := h.2.2 q c hc
    exact h2.kept (oq q (by rw [← h.1]; exact h2.lt))
def pm_lv (nL : Nat) (lsA : Array Slot) (ls : List Value) : Prop := ∃ lv, lv_has lsA nL lv ∧ ls.length = nL ∧ ∀ i v, ls[i]? = some v → pm_v1 v = true → (i, v) ∈ lv
theorem pm_lv.get {nL : Nat} {lsA : Array Slot} {ls : List Value} {i : Nat} {v : Value} (h : pm_lv nL lsA ls) (hi : ls[i]? = some v) (hv : pm_v1 v = true) : lsA[i]? = some (.val v) := by
  obtain ⟨lv, h1, -, h3⟩ := h
  exact h1.2.2 (i, v) (h3 i v hi hv)
theorem pm_v1_cat {v : Value} (h : pm_v1 v = true) : v.category = 1 := by
  cases v <;> first | rfl | cases h
theorem pm_lv.set {nL : Nat} {lsA lsB : Array Slot} {ls : List Value} {i : Nat} {v : Value} {lv : List (Nat × Value)} (hlen : ls.length = nL) (h3 : ∀ i v, ls[i]? = some v → pm_v1 v = true → (i, v) ∈ lv)
    (hB : lv_has lsB nL ((i, v) :: lv.filter (fun q => !(q.1 == i) && !(q.1 + 1 == i && q.2.category == 2)))) : pm_lv nL lsB (ls.set i v) := by
  refine ⟨_, hB, by rw [List.length_set]; exact hlen, fun j x hj hx => ?_⟩
  by_cases e : j = i
  · subst e
    have hl : j < ls.length := by
      have := (List.getElem?_eq_some_iff.mp hj).1
      rwa [List.length_set] at this
    rw [List.getElem?_set_self hl] at hj
    cases hj
    exact List.mem_cons_self
  · rw [List.getElem?_set_ne (Ne.symm e)] at hj
    refine List.mem_cons_of_mem _ (List.mem_filter.mpr ⟨h3 j x hj hx, ?_⟩)
    have hc := pm_v1_cat hx
    simp [e, hc]
theorem pm_sl1 : ∀ (as : List Value), as.all pm_v1 = true → lg_sl as = as.map Slot.val
  | [], _ => rfl
  | v :: as, h => by
    simp only [List.all_cons, Bool.and_eq_true] at h
    have h1 := pm_v1_cat h.1
    have h2 := pm_sl1 as h.2
    unfold lg_sl at h2 ⊢
    simp [List.flatMap_cons, h1, h2]
theorem pm_args1 : ∀ (as : List Value) (i : Nat), as.all pm_v1 = true → ∀ j v, as[j]? = some v → (i + j, v) ∈ lv_args i as
  | [], _, _, j, v, h => by simp at h
  | x :: as, i, ha, j, v, h => by
    simp only [List.all_cons, Bool.and_eq_true] at ha
    have hc := pm_v1_cat ha.1
    unfold lv_args
    rw [if_neg (by rw [hc]; decide)]
    cases j with
    | zero => simp at h; rw [h]; exact List.mem_cons_self
    | succ j =>
      have := pm_args1 as (i + 1) ha.2 j v (by simpa using h)
      rw [show i + 1 + j = i + (j + 1) by omega] at this
      exact List.mem_cons_of_mem _ this
theorem pm_entry {M : pm_M} {as : List Value} (ha : as.all pm_v1 = true) (hn : as.length ≤ M.2.2.1) : pm_lv M.2.2.1 ((lg_sl as ++ List.replicate (M.2.2.1 - (lg_sl as).length) Slot.unset).toArray) (pm_ent M as) := by
  have hlen : (lg_sl as).length = as.length := by rw [pm_sl1 as ha, List.length_map]
  refine ⟨_, lv_entry as (n := M.2.2.1) (by rw [hlen]; exact hn), ?_, fun i v hi hv => ?_⟩
  · unfold pm_ent
    rw [List.length_append, List.length_replicate]
    omega
  · unfold pm_ent at hi
    by_cases hl : i < as.length
    · rw [List.getElem?_append_left hl] at hi
      have := pm_args1 as 0 ha i v hi
      rwa [Nat.zero_add] at this
    · rw [List.getElem?_append_right (by omega)] at hi
      have := List.eq_of_mem_replicate (List.mem_of_getElem? hi)
      rw [this] at hv
      cases hv
/-- the machine from a state of the pure machine on -/
def pm_Go (p : Program) (l : Launch) (e : Env) (R : Room) (s : State) (m : MethodId) (args : Array Value) (below : List Frame) (meth : Method) (c : Code) (Q : State → Prop) (w : pm_W) (n0 u0 : Nat) (q : pm_S) : Prop :=
  ∀ (H : Heap) (locs : List Loc) (lsA : Array Slot), pm_rep w s q.2.2.2 H → pm_lv c.maxLocals lsA q.2.1 → (∀ x ∈ locs, w.2.2.2 ≤ x.base) → W p l e R s m args below meth c H locs (q.2.2.2.1 - n0) (q.2.2.2.2.1 - u0) Q (F0 m q.1 lsA q.2.2.1)
/-- what stays through a method -/
def pm_Ctx (w : pm_W) (M : pm_M) (p : Program) (s : State) (m : MethodId) (args : Array Value) (meth : Method) (c : Code) : Prop :=
  p.tables.exec = Jvm.exec ∧ c.code = M.2.1 ∧ s.vm.findClass (pm_cn M.2.2.2.2.1) = some m.cls ∧ (∀ x ∈ pm_tb, x.before args s = true) ∧ meth.sig.returnType = M.2.2.2.1 ∧ meth.locks = false ∧ (M.1.name = "<init>" → meth.name = "<init>") ∧ pm_K w s
theorem pm_one {D : va_G} {cl : List vw_C} {x : Nat × va_E} {H : Heap} (h : va_at D cl x H) : va_P D cl [x] H := by
  intro k q hk
  have hz : k < 1 := (List.getElem?_eq_some_iff.mp hk).1
  rw [show k = 0 by omega] at hk
  cases hk
  exact h
theorem pm_loc {w : pm_W} {locs : List Loc} {a i : Nat} (h : ∀ x ∈ locs, w.2.2.2 ≤ x.base) (ha : w.2.2.2 ≤ a) : ∀ x ∈ locs ++ [(⟨a, i⟩ : Loc)], w.2.2.2 ≤ x.base := by
  intro x hx
  rcases List.mem_append.mp hx with h1 | h1
  · exact h x h1
  · rw [List.mem_singleton.mp h1]
    exact ha
