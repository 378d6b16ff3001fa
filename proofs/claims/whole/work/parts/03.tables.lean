/-! ===== the pure machine's tables against the words of the claim ===== -/
def pm_tb : List Cond := lw_tbl.filter goodWord
def pm_isN (w : Cond) : Bool := match w with
  | .fieldLinkNest _ _ _ _ _ _ => true
  | .methodLinkNest _ _ _ _ => true
  | _ => false
theorem pm_in {w : Cond} {i : Nat} (h : lw_tbl[i]? = some w) (hg : goodWord w = true) : w ∈ pm_tb := List.mem_filter.mpr ⟨List.mem_of_getElem? h, hg⟩
theorem pm_in1 {w : Cond} {i : Nat} (h : tables_1[i]? = some w) (hg : goodWord w = true) : w ∈ pm_tb := List.mem_filter.mpr ⟨List.mem_append_right _ (List.mem_of_getElem? h), hg⟩
theorem pm_good (w : Cond) (h : w ∈ pm_tb) : w ∈ pm_tb ∧ ((w.onTables && w.keeps) = true ∨ ∃ ty, w = .arrayClass ty) := ⟨h, good_of_word (List.mem_filter.mp h).2⟩
theorem pm_vw : ∀ ci, ci < 13 → vwCl[ci]? = some (pm_cn ci, pm_T ci, pm_N ci) := by
  intro ci h
  match ci, h with
  | 0, _ => rfl
  | 1, _ => rfl
  | 2, _ => rfl
  | 3, _ => rfl
  | 4, _ => rfl
  | 5, _ => rfl
  | 6, _ => rfl
  | 7, _ => rfl
  | 8, _ => rfl
  | 9, _ => rfl
  | 10, _ => rfl
  | 11, _ => rfl
  | 12, _ => rfl
  | n + 13, h => exact absurd h (by omega)
/-- what a row of the fields' table says -/
def pm_flk (r : Nat × Nat × Nat × Nat × Nat × Nat) : Prop := r.2.2.1 < 13 ∧ r.2.2.2.1 < pm_N r.2.2.1 ∧ (pm_T r.2.2.1 r.2.2.2.1).1 = pm_cn r.2.2.1 ∧
  ((r.2.2.2.2.1 = 0 ∧ tables_1[r.2.2.2.2.2]? = some (.fieldLink (pm_cn r.1) r.2.1 (pm_cn r.2.2.1) (pm_T r.2.2.1 r.2.2.2.1).2.1 (pm_T r.2.2.1 r.2.2.2.1).2.2.1)) ∨
   (r.2.2.2.2.1 = 1 ∧ tables_1[r.2.2.2.2.2]? = some (.fieldLinkNest (pm_cn r.1) r.2.1 (pm_cn r.2.2.1) (pm_T r.2.2.1 r.2.2.2.1).2.1 (pm_T r.2.2.1 r.2.2.2.1).2.2.1 "ShortPost")))
set_option maxRecDepth 100000 in
theorem pm_flc_ok : ∀ r ∈ pm_flc, pm_flk r := by
  unfold pm_flk
  decide +kernel
theorem pm_fl_ok {oc idx ci k nest : Nat} (h : pm_fl oc idx = some (ci, k, nest)) : ci < 13 ∧ k < pm_N ci ∧ (pm_T ci k).1 = pm_cn ci ∧
    ((nest = 0 ∧ Cond.fieldLink (pm_cn oc) idx (pm_cn ci) (pm_T ci k).2.1 (pm_T ci k).2.2.1 ∈ pm_tb) ∨ (nest = 1 ∧ Cond.fieldLinkNest (pm_cn oc) idx (pm_cn ci) (pm_T ci k).2.1 (pm_T ci k).2.2.1 "ShortPost" ∈ tables_1)) := by
  unfold pm_fl at h
  cases hf : pm_flc.find? (fun r => r.1 == oc && r.2.1 == idx) with
  | none => rw [hf] at h; cases h
  | some r =>
    rw [hf] at h
    have h1 := List.find?_some hf
    have h2 := pm_flc_ok r (List.mem_of_find?_eq_some hf)
    obtain ⟨a, b, c, d, e, g⟩ := r
    simp only [Option.map_some, Option.some.injEq, Prod.mk.injEq] at h
    obtain ⟨rfl, rfl, rfl⟩ := h
    simp only [Bool.and_eq_true, beq_iff_eq] at h1
    obtain ⟨rfl, rfl⟩ := h1
    obtain ⟨q1, q2, q3, q4⟩ := h2
    refine ⟨q1, q2, q3, ?_⟩
    rcases q4 with ⟨e1, e2⟩ | ⟨e1, e2⟩
    · exact Or.inl ⟨e1, pm_in1 e2 rfl⟩
    · exact Or.inr ⟨e1, List.mem_of_getElem? e2⟩
theorem pm_oi_ok {oc idx : Nat} (h : pm_oi oc idx = true) : Cond.methodLink (pm_cn oc) idx Lib.objectInit ∈ pm_tb := by
  have k : ∀ r ∈ pm_oic, tables_1[r.2.2]? = some (.methodLink (pm_cn r.1) r.2.1 Lib.objectInit) := by decide +kernel
  obtain ⟨r, h1, h2⟩ := List.any_eq_true.mp h
  simp only [Bool.and_eq_true, beq_iff_eq] at h2
  have := k r h1
  rw [h2.1, h2.2] at this
  exact pm_in1 this rfl
theorem pm_mx_ok {oc idx : Nat} {b : Bool} (h : pm_mx oc idx = some b) : Cond.methodLink (pm_cn oc) idx (if b = true then Lib.Math.max.name else Lib.Math.min.name) ∈ pm_tb := by
  have k : ∀ r ∈ pm_mxc, tables_1[r.2.2.2]? = some (.methodLink (pm_cn r.1) r.2.1 (if r.2.2.1 = true then Lib.Math.max.name else Lib.Math.min.name)) := by decide +kernel
  unfold pm_mx at h
  cases hf : pm_mxc.find? (fun r => r.1 == oc && r.2.1 == idx) with
  | none => rw [hf] at h; cases h
  | some r =>
    rw [hf] at h
    have h1 := List.find?_some hf
    have h2 := k r (List.mem_of_find?_eq_some hf)
    obtain ⟨a, b, c, d⟩ := r
    simp only [Option.map_some, Option.some.injEq] at h
    subst h
    simp only [Bool.and_eq_true, beq_iff_eq] at h1
    obtain ⟨rfl, rfl⟩ := h1
    exact pm_in1 h2 rfl
theorem pm_cl_ok {oc idx ci : Nat} (h : pm_cl oc idx = some ci) : ci < 13 ∧ Cond.classLink (pm_cn oc) idx (pm_cn ci) ∈ pm_tb ∧ Cond.instantiable (pm_cn ci) (pm_N ci) ∈ pm_tb ∧ Cond.initialized (pm_cn ci) ∈ pm_tb := by
  have k : ∀ r ∈ pm_clc, r.2.2.1 < 13 ∧ tables_1[r.2.2.2.1]? = some (.classLink (pm_cn r.1) r.2.1 (pm_cn r.2.2.1)) ∧ tables_1[r.2.2.2.2.1]? = some (.instantiable (pm_cn r.2.2.1) (pm_N r.2.2.1)) ∧ tables_1[r.2.2.2.2.2]? = some (.initialized (pm_cn r.2.2.1)) := by decide +kernel
  unfold pm_cl at h
  cases hf : pm_clc.find? (fun r => r.1 == oc && r.2.1 == idx) with
  | none => rw [hf] at h; cases h
  | some r =>
    rw [hf] at h
    have h1 := List.find?_some hf
    have h2 := k r (List.mem_of_find?_eq_some hf)
    obtain ⟨a, b, c, d, e, g⟩ := r
    simp only [Option.map_some, Option.some.injEq] at h
    subst h
    simp only [Bool.and_eq_true, beq_iff_eq] at h1
    obtain ⟨rfl, rfl⟩ := h1
    exact ⟨h2.1, pm_in1 h2.2.1 rfl, pm_in1 h2.2.2.1 rfl, pm_in1 h2.2.2.2 rfl⟩
theorem pm_ld_ok {oc idx : Nat} {v : Int32} (h : pm_ld oc idx = some v) : Cond.constant (pm_cn oc) idx v ∈ pm_tb := by
  have k : ∀ r ∈ pm_ldcc, tables_1[r.2.2.2]? = some (.constant (pm_cn r.1) r.2.1 r.2.2.1) := by decide +kernel
  unfold pm_ld at h
  cases hf : pm_ldcc.find? (fun r => r.1 == oc && r.2.1 == idx) with
  | none => rw [hf] at h; cases h
  | some r =>
    rw [hf] at h
    have h1 := List.find?_some hf
    have h2 := k r (List.mem_of_find?_eq_some hf)
    obtain ⟨a, b, c, d⟩ := r
    simp only [Option.map_some, Option.some.injEq] at h
    subst h
    simp only [Bool.and_eq_true, beq_iff_eq] at h1
    obtain ⟨rfl, rfl⟩ := h1
    exact pm_in1 h2 rfl
/-- what a row of the calls' table says -/
def pm_mlk (r : Nat × Nat × pm_M × Nat × Nat × Nat × Nat × Nat × Nat × Nat) : Prop :=
  ((r.2.2.2.2.1 = 0 ∧ lw_tbl[r.2.2.2.2.2.1]? = some (.methodLink (pm_cn r.1) r.2.1 r.2.2.1.1)) ∨ (r.2.2.2.2.1 = 1 ∧ lw_tbl[r.2.2.2.2.2.1]? = some (.methodLinkNest (pm_cn r.1) r.2.1 r.2.2.1.1 "ShortPost"))) ∧
  (r.2.2.2.1 = 1 → lw_tbl[r.2.2.2.2.2.2.2.1]? = some (.static r.2.2.1.1)) ∧ (r.2.2.2.1 ≠ 1 → lw_tbl[r.2.2.2.2.2.2.2.1]? = some (.instanceMethod r.2.2.1.1)) ∧
  (r.2.2.2.1 = 0 → lw_tbl[r.2.2.2.2.2.2.2.2.1]? = some (.selects (pm_cn r.2.2.1.2.2.2.2.1) r.2.2.1.1 r.2.2.1.1)) ∧
  lw_tbl[r.2.2.2.2.2.2.2.2.2]? = some (.initialized r.2.2.1.1.cls) ∧
  r.2.2.1.1.cls = pm_cn r.2.2.1.2.2.2.2.1 ∧ plainName r.2.2.1.1.cls = true ∧
  r.2.2.1.1.cls ≠ "java/lang/invoke/MethodHandle" ∧ r.2.2.1.1.cls ≠ "java/lang/invoke/VarHandle" ∧
  (parseMethodDescriptor r.2.2.1.1.desc).map (fun d => d.parameters.length) = some (if r.2.2.2.1 = 1 then r.2.2.1.2.2.2.2.2 else r.2.2.1.2.2.2.2.2 - 1) ∧
  (r.2.2.2.1 = 2 → r.2.2.1.1.name = "<init>" ∧ r.2.2.1.2.2.2.1 = none) ∧ r.2.2.1.2.2.1 ≤ 18 ∧ r.2.2.1.2.2.2.2.2 ≤ r.2.2.1.2.2.1 ∧ (r.2.2.2.1 ≠ 1 → 1 ≤ r.2.2.1.2.2.2.2.2) ∧ r.2.2.1.2.2.2.2.1 < 16 ∧ (r.2.2.2.1 ≠ 1 → r.2.2.1.2.2.2.2.1 < 13)
set_option maxRecDepth 100000 in
theorem pm_mlc_ok0 : ∀ r ∈ pm_mlc_0, pm_mlk r := by
  unfold pm_mlk
  decide +kernel
set_option maxRecDepth 100000 in
theorem pm_mlc_ok1 : ∀ r ∈ pm_mlc_1, pm_mlk r := by
  unfold pm_mlk
  decide +kernel
set_option maxRecDepth 100000 in
theorem pm_mlc_ok2 : ∀ r ∈ pm_mlc_2, pm_mlk r := by
  unfold pm_mlk
  decide +kernel
set_option maxRecDepth 100000 in
theorem pm_mlc_ok3 : ∀ r ∈ pm_mlc_3, pm_mlk r := by
  unfold pm_mlk
  decide +kernel
set_option maxRecDepth 100000 in
theorem pm_mlc_ok4 : ∀ r ∈ pm_mlc_4, pm_mlk r := by
  unfold pm_mlk
  decide +kernel
theorem pm_mlc_ok : ∀ r ∈ pm_mlc, pm_mlk r := by
  intro r h
  unfold pm_mlc at h
  simp only [List.mem_append] at h
  rcases h with (((h | h) | h) | h) | h
  · exact pm_mlc_ok0 r h
  · exact pm_mlc_ok1 r h
  · exact pm_mlc_ok2 r h
  · exact pm_mlc_ok3 r h
  · exact pm_mlc_ok4 r h
theorem pm_map_ok {α β : Type} {l : List α} {f g : α → β} (h : l.map f = l.map g) : ∀ r ∈ l, f r = g r := by
  induction l with
  | nil => intro r hr; cases hr
  | cons a l ih =>
    intro r hr
    simp only [List.map_cons, List.cons.injEq] at h
    rcases List.mem_cons.mp hr with rfl | hr
    · exact h.1
    · exact ih h.2 r hr
set_option maxRecDepth 100000 in
theorem pm_mlc_cd0 : pm_mlc_0.map (fun r => lw_tbl[r.2.2.2.2.2.2.1]?) = pm_mlc_0.map (fun r => some (Cond.code r.2.2.1.1 r.2.2.1.2.1 r.2.2.1.2.2.1 r.2.2.1.2.2.2.1)) := by rfl
set_option maxRecDepth 100000 in
theorem pm_mlc_cd1 : pm_mlc_1.map (fun r => lw_tbl[r.2.2.2.2.2.2.1]?) = pm_mlc_1.map (fun r => some (Cond.code r.2.2.1.1 r.2.2.1.2.1 r.2.2.1.2.2.1 r.2.2.1.2.2.2.1)) := by rfl
set_option maxRecDepth 100000 in
theorem pm_mlc_cd2 : pm_mlc_2.map (fun r => lw_tbl[r.2.2.2.2.2.2.1]?) = pm_mlc_2.map (fun r => some (Cond.code r.2.2.1.1 r.2.2.1.2.1 r.2.2.1.2.2.1 r.2.2.1.2.2.2.1)) := by rfl
set_option maxRecDepth 100000 in
theorem pm_mlc_cd3 : pm_mlc_3.map (fun r => lw_tbl[r.2.2.2.2.2.2.1]?) = pm_mlc_3.map (fun r => some (Cond.code r.2.2.1.1 r.2.2.1.2.1 r.2.2.1.2.2.1 r.2.2.1.2.2.2.1)) := by rfl
set_option maxRecDepth 100000 in
theorem pm_mlc_cd4 : pm_mlc_4.map (fun r => lw_tbl[r.2.2.2.2.2.2.1]?) = pm_mlc_4.map (fun r => some (Cond.code r.2.2.1.1 r.2.2.1.2.1 r.2.2.1.2.2.1 r.2.2.1.2.2.2.1)) := by rfl
theorem pm_mlc_cd : ∀ r ∈ pm_mlc, lw_tbl[r.2.2.2.2.2.2.1]? = some (Cond.code r.2.2.1.1 r.2.2.1.2.1 r.2.2.1.2.2.1 r.2.2.1.2.2.2.1) := by
  intro r h
  unfold pm_mlc at h
  simp only [List.mem_append] at h
  rcases h with (((h | h) | h) | h) | h
  · exact pm_map_ok pm_mlc_cd0 r h
  · exact pm_map_ok pm_mlc_cd1 r h
  · exact pm_map_ok pm_mlc_cd2 r h
  · exact pm_map_ok pm_mlc_cd3 r h
  · exact pm_map_ok pm_mlc_cd4 r h
/-- a method that a call reaches -/
def pm_okM (M : pm_M) (kind : Nat) : Prop :=
  Cond.code M.1 M.2.1 M.2.2.1 M.2.2.2.1 ∈ pm_tb ∧ (kind = 1 → Cond.static M.1 ∈ pm_tb) ∧ (kind ≠ 1 → Cond.instanceMethod M.1 ∈ pm_tb) ∧ (kind = 0 → Cond.selects (pm_cn M.2.2.2.2.1) M.1 M.1 ∈ pm_tb) ∧ Cond.initialized M.1.cls ∈ pm_tb ∧
  M.1.cls = pm_cn M.2.2.2.2.1 ∧ plainName M.1.cls = true ∧ M.1.cls ≠ "java/lang/invoke/MethodHandle" ∧ M.1.cls ≠ "java/lang/invoke/VarHandle" ∧
  (parseMethodDescriptor M.1.desc).map (fun d => d.parameters.length) = some (if kind = 1 then M.2.2.2.2.2 else M.2.2.2.2.2 - 1) ∧
  (kind = 2 → M.1.name = "<init>" ∧ M.2.2.2.1 = none) ∧ M.2.2.1 ≤ 18 ∧ M.2.2.2.2.2 ≤ M.2.2.1 ∧ (kind ≠ 1 → 1 ≤ M.2.2.2.2.2) ∧ (kind ≠ 1 → M.2.2.2.2.1 < 13)
theorem pm_ml_ok {oc idx kind nest : Nat} {M : pm_M} (h : pm_ml oc idx = some (M, kind, nest)) : pm_okM M kind ∧
    ((nest = 0 ∧ Cond.methodLink (pm_cn oc) idx M.1 ∈ pm_tb) ∨ (nest = 1 ∧ Cond.methodLinkNest (pm_cn oc) idx M.1 "ShortPost" ∈ tables_1)) := by
  unfold pm_ml at h
  cases hf : pm_mlc.find? (fun r => r.1 == oc && r.2.1 == idx) with
  | none => rw [hf] at h; cases h
  | some r =>
    rw [hf] at h
    have h1 := List.find?_some hf
    have h2 := pm_mlc_ok r (List.mem_of_find?_eq_some hf)
    obtain ⟨a, b, c, d, e, g⟩ := r
    simp only [Option.map_some, Option.some.injEq, Prod.mk.injEq] at h
    obtain ⟨rfl, rfl, rfl⟩ := h
    simp only [Bool.and_eq_true, beq_iff_eq] at h1
    obtain ⟨rfl, rfl⟩ := h1
    have q2 := pm_mlc_cd _ (List.mem_of_find?_eq_some hf)
    obtain ⟨q1, q3, q4, q5, q6, q7, q8, q9, q10, q11, q12, q13, q14, q15, q16, q17⟩ := h2
    refine ⟨⟨pm_in q2 rfl, fun z => pm_in (q3 z) rfl, fun z => pm_in (q4 z) rfl, fun z => pm_in (q5 z) rfl, pm_in q6 rfl, q7, q8, q9, q10, q11, q12, q13, q14, q15, q17⟩, ?_⟩
    rcases q1 with ⟨e1, e2⟩ | ⟨e1, e2⟩
    · exact Or.inl ⟨e1, pm_in e2 rfl⟩
    · refine Or.inr ⟨e1, ?_⟩
      rcases List.mem_append.mp (List.mem_of_getElem? e2) with z | z
      · obtain ⟨q, -, hq⟩ := List.mem_map.mp z
        cases hq
      · exact z
/-- what the tables say of a class -/
def pm_okC (ci : Nat) : Prop := (∀ w ∈ u_ws (pm_cn ci) (pm_T ci) (pm_N ci), w ∈ pm_tb) ∧ (∀ k, k < pm_N ci → parseFieldDescriptor (pm_T ci k).2.2.1 = some (pm_ty ci k)) ∧ (∀ a, a < pm_N ci → ∀ b, b < pm_N ci → a ≠ b → (pm_T ci a).2.1 ≠ (pm_T ci b).2.1) ∧
  (∀ j, j < pm_N ci → defaultValue (pm_ty ci j) = vp_V (pm_df ci) j) ∧ (pm_df ci).length = pm_N ci
theorem pm_lay {ci : Nat} (h : ∀ w ∈ u_ws (pm_cn ci) (pm_T ci) (pm_N ci), w ∈ tables_1) : ∀ w ∈ u_ws (pm_cn ci) (pm_T ci) (pm_N ci), w ∈ pm_tb := by
  intro w hw
  refine List.mem_filter.mpr ⟨List.mem_append_right _ (h w hw), ?_⟩
  obtain ⟨k, -, rfl⟩ := List.mem_map.mp hw
  unfold u_lay
  split <;> rfl
theorem pm_okC_0 : pm_okC 0 := ⟨pm_lay (by decide +kernel), tyX0_ok, nmX0, by decide +kernel, rfl⟩
theorem pm_okC_1 : pm_okC 1 := ⟨pm_lay (by decide +kernel), tyX1_ok, nmX1, by decide +kernel, rfl⟩
theorem pm_okC_2 : pm_okC 2 := ⟨pm_lay (by decide +kernel), tyX2_ok, nmX2, by decide +kernel, rfl⟩
theorem pm_okC_3 : pm_okC 3 := ⟨pm_lay (by decide +kernel), tyX3_ok, nmX3, by decide +kernel, rfl⟩
theorem pm_okC_4 : pm_okC 4 := ⟨pm_lay (by decide +kernel), tyX4_ok, nmX4, by decide +kernel, rfl⟩
theorem pm_okC_5 : pm_okC 5 := ⟨pm_lay (by decide +kernel), tyX5_ok, nmX5, by decide +kernel, rfl⟩
theorem pm_okC_6 : pm_okC 6 := ⟨pm_lay (by decide +kernel), tyX6_ok, nmX6, by decide +kernel, rfl⟩
theorem pm_okC_7 : pm_okC 7 := ⟨pm_lay (by decide +kernel), tyX7_ok, nmX7, by decide +kernel, rfl⟩
theorem pm_okC_8 : pm_okC 8 := ⟨pm_lay (by decide +kernel), tyX8_ok, nmX8, by decide +kernel, rfl⟩
theorem pm_okC_9 : pm_okC 9 := ⟨pm_lay (by decide +kernel), tyX9_ok, nmX9, by decide +kernel, rfl⟩
theorem pm_okC_10 : pm_okC 10 := ⟨pm_lay (by decide +kernel), tyX10_ok, nmX10, by decide +kernel, rfl⟩
theorem pm_okC_11 : pm_okC 11 := ⟨pm_lay (by decide +kernel), tyX11_ok, nmX11, by decide +kernel, rfl⟩
theorem pm_okC_12 : pm_okC 12 := ⟨pm_lay (by decide +kernel), tyX12_ok, nmX12, by decide +kernel, rfl⟩
theorem pm_okC_all : ∀ ci, ci < 13 → pm_okC ci := by
  intro ci h
  match ci, h with
  | 0, _ => exact pm_okC_0
  | 1, _ => exact pm_okC_1
  | 2, _ => exact pm_okC_2
  | 3, _ => exact pm_okC_3
  | 4, _ => exact pm_okC_4
  | 5, _ => exact pm_okC_5
  | 6, _ => exact pm_okC_6
  | 7, _ => exact pm_okC_7
  | 8, _ => exact pm_okC_8
  | 9, _ => exact pm_okC_9
  | 10, _ => exact pm_okC_10
  | 11, _ => exact pm_okC_11
  | 12, _ => exact pm_okC_12
  | n + 13, h => exact absurd h (by omega)
