/-! ===== the pure machine's instructions on the heap are the machine's ===== -/
section PMH
variable {p : Program} {l : Launch} {e : Env} {R : Room} {s : State} {m : MethodId} {args : Array Value} {below : List Frame} {meth : Method} {c : Code} {Q : State → Prop} {w : pm_W} {M : pm_M} {k pc n0 u0 : Nat} {ls st : List Value} {hp : pm_H} {q : pm_S}
theorem pm_getf_ok {oc idx : Nat} (h : pm_getf oc idx pc ls st hp = some q) : ∃ a st' ci kf nest fs v, st = .ref a :: st' ∧ pm_fl oc idx = some (ci, kf, nest) ∧ hp.2.2 a = some (.inr (.inr (ci, fs))) ∧ fs[kf]? = some v ∧ q = (pc + 3, ls, v :: st', hp) := by
  unfold pm_getf at h
  split at h
  · rename_i a st'
    split at h
    · rename_i ci kf nest cj fs h1 h2
      split at h
      · rename_i hz
        subst hz
        split at h
        · rename_i v hv
          cases h
          exact ⟨a, st', _, _, _, _, v, rfl, h1, h2, hv, rfl⟩
        · cases h
      · cases h
    · cases h
  · cases h
theorem pm_g_getf (C : pm_Ctx w M p s m args meth c) {idx : Nat} (hd : decode M.2.1 pc = .ok (.getfield idx, 3)) (h : pm_getf M.2.2.2.2.1 idx pc ls st hp = some q) (kk : pm_Go p l e R s m args below meth c Q w n0 u0 q) : pm_Go p l e R s m args below meth c Q w n0 u0 (pc, ls, st, hp) := by
  obtain ⟨a, st', ci, kf, nest, fs, v, rfl, h1, h2, h3, rfl⟩ := pm_getf_ok h
  obtain ⟨hx, hb, hown, hts, hr0, hlk, hnm, hK⟩ := C
  obtain ⟨g1, g2, g3, g4⟩ := pm_fl_ok h1
  have hO := pm_okC_all ci g1
  intro H locs lsA hr hl hlo
  have hat := hr.2.2 a _ h2
  have hP : va_P (w.1, w.2.1) vwCl [(a, .inr (ci, fs))] H := pm_one ⟨_, pm_vw ci g1, hat.2.2⟩
  rcases g4 with ⟨-, g4⟩ | ⟨-, g4⟩
  · exact va_get (ref := pm_cn ci) hx hb hts hO.1 hown hK.1 hP 0 rfl (pm_vw ci g1) kf g2 (hts _ g4) (fun x hx => by rw [g3] at hx; exact hx) h3 hd (kk H locs lsA hr hl hlo)
  · exact va_getN (ref := pm_cn ci) (host := "ShortPost") hx hb hts hO.1 hown hK.1 hP 0 rfl (pm_vw ci g1) kf g2 (va_Nw.use rfl (hK.2.1 _ g4 rfl)) (fun x hx => by rw [g3] at hx; exact hx) h3 hd (kk H locs lsA hr hl hlo)
theorem pm_putf_ok {idx : Nat} (h : pm_putf M idx pc ls st hp = some q) : ∃ a st' ci kf nest fs v, st = v :: .ref a :: st' ∧ pm_fl M.2.2.2.2.1 idx = some (ci, kf, nest) ∧ hp.2.2 a = some (.inr (.inr (ci, fs))) ∧ kf < fs.length ∧ pm_fit (pm_ty ci kf) v = true ∧ ((pm_T ci kf).2.2.2 = false ∨ (nest = 0 ∧ M.2.2.2.2.1 = ci ∧ M.1.name = "<init>")) ∧ q = (pc + 3, ls, st', hp.1, hp.2.1, pm_up hp.2.2 a (.inr (.inr (ci, fs.set kf v)))) := by
  unfold pm_putf at h
  split at h
  · rename_i v a st'
    split at h
    · rename_i ci kf nest cj fs h1 h2
      split at h
      · rename_i hz
        obtain ⟨z1, z2, z3, z4⟩ := hz
        subst z1
        cases h
        exact ⟨a, st', _, _, _, _, v, rfl, h1, h2, z2, z3, z4, rfl⟩
      · cases h
    · cases h
  · cases h
theorem pm_g_putf (C : pm_Ctx w M p s m args meth c) {idx : Nat} (hd : decode M.2.1 pc = .ok (.putfield idx, 3)) (h : pm_putf M idx pc ls st hp = some q) (kk : pm_Go p l e R s m args below meth c Q w n0 u0 q) : pm_Go p l e R s m args below meth c Q w n0 u0 (pc, ls, st, hp) := by
  obtain ⟨a, st', ci, kf, nest, fs, v, rfl, h1, h2, h3, h4, h5, rfl⟩ := pm_putf_ok h
  obtain ⟨hx, hb, hown, hts, hr0, hlk, hnm, hK⟩ := C
  obtain ⟨g1, g2, g3, g4⟩ := pm_fl_ok h1
  have hO := pm_okC_all ci g1
  have hc := pm_vw ci g1
  simp only [pm_fit, Bool.and_eq_true, decide_eq_true_eq] at h4
  intro H locs lsA hr hl hlo
  have hat := hr.2.2 a _ h2
  obtain ⟨b1, b2, cell, q1, q2, q3, q4⟩ := hat
  have hap := va_apart (own := pm_cn M.2.2.2.2.1) hts hO.1 (pm_ty ci) hO.2.1 hO.2.2.1 hK.1 hc
  obtain ⟨hS, hfc, kC, hkC, hkind⟩ := hK.1.1 ci _ hc
  obtain ⟨cf, kf0, fi, f, hi, hsl⟩ := hS kf g2
  have hlay := hts _ (hO.1 _ (u_in_lay g2))
  have hst := (u_facts hfc hkC (u_lays hts hO.1 g2) hi).1
  have hi2 : s.fieldFound? (pm_cn ci) (pm_T ci kf).2.1 (pm_T ci kf).2.2.1 = some (cf, kf0, fi, f) := by rw [← g3]; exact hi
  have fin : ∀ H1 : Heap, H1[a]? = some (cell.setSlot f.slot v) → H1.size = H.size → (∀ q, q ≠ a → H1[q]? = H[q]?) → W p l e R s m args below meth c H1 (locs ++ [⟨a, f.slot⟩]) (hp.1 - n0) (hp.2.1 - u0) Q (F0 m (pc + 3) lsA st') := by
    intro H1 e1 e2 e3
    rw [hsl] at e1
    exact kk H1 _ lsA (hr.up e2 e3 ⟨b1, b2, t_OB.to (V := updV (vp_V fs) kf v) ⟨_, e1, q2, q3, t_set q4 hap g2 v⟩ (fun j _ => vp_updV_set h3 v j)⟩) hl (pm_loc hlo b2)
  have hlt : f.slot < cell.slots.size := by rw [hsl]; exact k2_hasslot (q4 kf g2)
  by_cases hf : (pm_T ci kf).2.2.2 = false
  · unfold u_lay at hlay
    rw [if_neg (by rw [hf]; decide)] at hlay
    have h6 := u_store hfc hkC hkind hlay hi (hO.2.1 kf g2) h4.1 h4.2
    rcases g4 with ⟨-, g4⟩ | ⟨-, g4⟩
    · exact W.putK hx hb (f := f) ⟨hown, hts _ g4, ⟨_, _, _, hi2⟩, hst⟩ (by rw [q2]; exact h6) q1 q3 hlt rfl rfl hd fin
    · exact va_WputK (host := "ShortPost") hx hb (f := f) hown (va_Nw.use rfl (hK.2.1 _ g4 rfl)) hi2 hst (by rw [q2]; exact h6) q1 q3 hlt rfl rfl hd fin
  · rcases h5 with h5 | ⟨z0, z1, z2⟩
    · exact absurd h5 hf
    · have hft : (pm_T ci kf).2.2.2 = true := by
        cases hb9 : (pm_T ci kf).2.2.2 with
        | true => rfl
        | false => exact absurd hb9 hf
      unfold u_lay at hlay
      rw [if_pos hft] at hlay
      have hcf : m.cls = cf := by
        obtain ⟨_, _, c', _, _, _, -, -, hf', -, -, -, hown2, -⟩ := Cond.laysFinal_spec hlay
        have e1 : c' = cf := by have := hi.symm.trans hf'; simp at this; exact this.1.symm
        rw [g3, ← z1] at hown2
        rw [← e1]
        exact Option.some.inj (hown.symm.trans hown2)
      have h6 := u_fits hfc hkC hkind (Or.inr hlay) hi (hO.2.1 kf g2) h4.1 h4.2
      rcases g4 with ⟨-, g4⟩ | ⟨g5, -⟩
      · exact W.putFinK hx hb hown (hts _ g4) hi2 hst hcf (hnm z2) (by rw [q2]; exact h6) q1 q3 hlt rfl rfl hd fin
      · omega
theorem pm_iald_ok {b : Bool} (h : pm_iald b pc ls st hp = some q) : ∃ i a st' t n f, st = .int i :: .ref a :: st' ∧ hp.2.2 a = some (.inl (t, n, f)) ∧ b = decide (t = 1) ∧ vp_in i n ∧ q = (pc + 1, ls, .int (f i.toNatClampNeg) :: st', hp) := by
  unfold pm_iald at h
  split at h
  · rename_i i a st'
    split at h
    · rename_i t n f h1
      split at h
      · rename_i hz
        cases h
        exact ⟨i, a, st', t, n, f, rfl, h1, hz.1, hz.2, rfl⟩
      · cases h
    · cases h
  · cases h
theorem pm_g_iald (C : pm_Ctx w M p s m args meth c) (hd : decode M.2.1 pc = .ok (.iaload, 1)) (h : pm_iald false pc ls st hp = some q) (kk : pm_Go p l e R s m args below meth c Q w n0 u0 q) : pm_Go p l e R s m args below meth c Q w n0 u0 (pc, ls, st, hp) := by
  obtain ⟨i, a, st', t, n, f, rfl, h1, h2, h3, rfl⟩ := pm_iald_ok h
  intro H locs lsA hr hl hlo
  have hK := C.2.2.2.2.2.2.2
  have ht : ¬ t = 1 := of_decide_eq_false h2.symm
  rcases hr.2.2 a _ h1 with ⟨-, g2, scr, k1, k2, k3, k4, k5⟩ | ⟨g1, g2, g3⟩
  · have hlt : i.toNatClampNeg < n := Nat.not_le.mp fun z => h3 (Or.inr z)
    exact W.iald (v := .int (f i.toNatClampNeg)) C.1 C.2.1 k1 k2 k3 (by rw [k4]; exact h3) (k5 _ hlt) rfl rfl hd (kk H locs lsA hr hl hlo)
  · have h0 : t = 0 := by omega
    subst h0
    have hP : va_P (w.1, w.2.1) vwCl [(a, .inl (w.2.2.1 0, n, .inl f))] H := pm_one g3
    exact va_iald C.1 C.2.1 hK.1 hP 0 0 rfl rfl h3 hd (kk H locs lsA hr hl hlo)
theorem pm_g_bald (C : pm_Ctx w M p s m args meth c) (hd : decode M.2.1 pc = .ok (.baload, 1)) (h : pm_iald true pc ls st hp = some q) (kk : pm_Go p l e R s m args below meth c Q w n0 u0 q) : pm_Go p l e R s m args below meth c Q w n0 u0 (pc, ls, st, hp) := by
  obtain ⟨i, a, st', t, n, f, rfl, h1, h2, h3, rfl⟩ := pm_iald_ok h
  intro H locs lsA hr hl hlo
  have hK := C.2.2.2.2.2.2.2
  have ht : t = 1 := of_decide_eq_true h2.symm
  subst ht
  rcases hr.2.2 a _ h1 with ⟨g1, -⟩ | ⟨g1, g2, g3⟩
  · omega
  · have hP : va_P (w.1, w.2.1) vwCl [(a, .inl (w.2.2.1 1, n, .inl f))] H := pm_one g3
    exact va_zald C.1 C.2.1 hK.1 hP 0 1 rfl rfl h3 hd (kk H locs lsA hr hl hlo)
theorem pm_iast_ok {b : Bool} (h : pm_iast b pc ls st hp = some q) : ∃ x i a st' t n f, st = .int x :: .int i :: .ref a :: st' ∧ hp.2.2 a = some (.inl (t, n, f)) ∧ t = (if b = true then 1 else 0) ∧ vp_in i n ∧ q = (pc + 1, ls, st', hp.1, hp.2.1, pm_up hp.2.2 a (.inl (t, n, upd f i.toNatClampNeg (if b = true then vp_nar .boolean x else x)))) := by
  unfold pm_iast at h
  split at h
  · rename_i x i a st'
    split at h
    · rename_i t n f h1
      by_cases hz : t = (if b = true then 1 else 0) ∧ ¬ (i < 0 ∨ n ≤ i.toNatClampNeg)
      · rw [if_pos hz] at h
        cases h
        exact ⟨x, i, a, st', t, n, f, rfl, h1, hz.1, hz.2, rfl⟩
      · rw [if_neg hz] at h
        cases h
    · cases h
  · cases h
theorem pm_upd_cell {cA : ClassId} {n : Nat} {f : Nat → Int32} {i : Nat} {x : Int32} : (vp_cell cA (n, .inl f)).setSlot i (.int x) = vp_cell cA (n, .inl (upd f i x)) := by
  rw [vp_cell_i, vp_cell_i, arrV_store]
  congr 1
  funext q
  by_cases hq : q = i
  · subst hq
    simp [updV, upd]
  · simp [updV, upd, hq]
theorem pm_g_iast (C : pm_Ctx w M p s m args meth c) (hd : decode M.2.1 pc = .ok (.iastore, 1)) (h : pm_iast false pc ls st hp = some q) (kk : pm_Go p l e R s m args below meth c Q w n0 u0 q) : pm_Go p l e R s m args below meth c Q w n0 u0 (pc, ls, st, hp) := by
  obtain ⟨x, i, a, st', t, n, f, rfl, h1, h2, h3, rfl⟩ := pm_iast_ok h
  rw [if_neg (by decide)] at h2
  subst h2
  intro H locs lsA hr hl hlo
  have hK := C.2.2.2.2.2.2.2
  rcases hr.2.2 a _ h1 with ⟨g1, -⟩ | ⟨g1, g2, g3⟩
  · omega
  · refine W.iast C.1 C.2.1 g3 ((hK.1.2 0 _ rfl).1 n (fun j => .int (f j))) (fun z => by cases z) (by show ¬ (i < 0 ∨ (arrV _ _ _).slots.size ≤ _); rw [arrV_size]; exact h3) rfl rfl hd fun H1 e1 z oq => ?_
    refine kk H1 _ lsA (hr.up z oq (Or.inr ⟨g1, g2, ?_⟩)) hl (pm_loc hlo g2)
    rw [e1, pm_upd_cell, if_neg (by decide)]
theorem pm_g_bast (C : pm_Ctx w M p s m args meth c) (hd : decode M.2.1 pc = .ok (.bastore, 1)) (h : pm_iast true pc ls st hp = some q) (kk : pm_Go p l e R s m args below meth c Q w n0 u0 q) : pm_Go p l e R s m args below meth c Q w n0 u0 (pc, ls, st, hp) := by
  obtain ⟨x, i, a, st', t, n, f, rfl, h1, h2, h3, rfl⟩ := pm_iast_ok h
  rw [if_pos rfl] at h2
  subst h2
  intro H locs lsA hr hl hlo
  have hK := C.2.2.2.2.2.2.2
  rcases hr.2.2 a _ h1 with ⟨g1, -⟩ | ⟨g1, g2, g3⟩
  · omega
  · refine W.zast C.1 C.2.1 g3 ((hK.1.2 1 _ rfl).1 n (fun j => .int (f j))) (fun z => by cases z) (by show ¬ (i < 0 ∨ (arrV _ _ _).slots.size ≤ _); rw [arrV_size]; exact h3) rfl rfl hd fun H1 e1 z oq => ?_
    refine kk H1 _ lsA (hr.up z oq (Or.inr ⟨g1, g2, ?_⟩)) hl (pm_loc hlo g2)
    have hn : narrow .boolean (.int x) = .int (vp_nar .boolean x) := by
      unfold vp_nar
      first | rfl | simp [narrow]
    rw [e1, hn, pm_upd_cell, if_pos rfl]
theorem pm_aald_ok (h : pm_aald pc ls st hp = some q) : ∃ i a st' ci n f, st = .int i :: .ref a :: st' ∧ hp.2.2 a = some (.inr (.inl (ci, n, f))) ∧ vp_in i n ∧ q = (pc + 1, ls, va_rf (f i.toNatClampNeg) :: st', hp) := by
  unfold pm_aald at h
  split at h
  · rename_i i a st'
    split at h
    · rename_i t n f h1
      split at h
      · rename_i hz
        cases h
        exact ⟨i, a, st', t, n, f, rfl, h1, hz, rfl⟩
      · cases h
    · cases h
  · cases h
theorem pm_g_aald (C : pm_Ctx w M p s m args meth c) (hd : decode M.2.1 pc = .ok (.aaload, 1)) (h : pm_aald pc ls st hp = some q) (kk : pm_Go p l e R s m args below meth c Q w n0 u0 q) : pm_Go p l e R s m args below meth c Q w n0 u0 (pc, ls, st, hp) := by
  obtain ⟨i, a, st', ci, n, f, rfl, h1, h3, rfl⟩ := pm_aald_ok h
  intro H locs lsA hr hl hlo
  have hK := C.2.2.2.2.2.2.2
  obtain ⟨g1, g2, g3⟩ := hr.2.2 a _ h1
  have hP : va_P (w.1, w.2.1) vwCl [(a, .inl (w.2.2.1 (ci + 2), n, .inr (.inr (.inr (.inr f)))))] H := pm_one g3
  exact va_aldq C.1 C.2.1 hK.1 hP 0 (ci + 2) rfl (pm_tys_q _ g1) h3 hd (kk H locs lsA hr hl hlo)
theorem pm_aast_ok (h : pm_aast pc ls st hp = some q) : ∃ v i a st' ci n f vs, st = .ref v :: .int i :: .ref a :: st' ∧ hp.2.2 a = some (.inr (.inl (ci, n, f))) ∧ hp.2.2 v = some (.inr (.inr (ci, vs))) ∧ vp_in i n ∧ q = (pc + 1, ls, st', hp.1, hp.2.1, pm_up hp.2.2 a (.inr (.inl (ci, n, va_up f i.toNatClampNeg (some v))))) := by
  unfold pm_aast at h
  split at h
  · rename_i v i a st'
    split at h
    · rename_i ci n f cj vs h1 h2
      split at h
      · rename_i hz
        obtain ⟨z1, z2⟩ := hz
        subst z1
        cases h
        exact ⟨v, i, a, st', _, n, f, _, rfl, h1, h2, z2, rfl⟩
      · cases h
    · cases h
  · cases h
theorem pm_g_aast (C : pm_Ctx w M p s m args meth c) (hd : decode M.2.1 pc = .ok (.aastore, 1)) (h : pm_aast pc ls st hp = some q) (kk : pm_Go p l e R s m args below meth c Q w n0 u0 q) : pm_Go p l e R s m args below meth c Q w n0 u0 (pc, ls, st, hp) := by
  obtain ⟨v, i, a, st', ci, n, f, vs, rfl, h1, h2, h3, rfl⟩ := pm_aast_ok h
  intro H locs lsA hr hl hlo
  have hK := C.2.2.2.2.2.2.2
  obtain ⟨g1, g2, g3⟩ := hr.2.2 a _ h1
  obtain ⟨b1, b2, cellV, c1, c2, c3, -⟩ := hr.2.2 v _ h2
  have hlt : i.toNatClampNeg < n := Nat.not_le.mp fun z => h3 (Or.inr z)
  have h0 : ¬ i < 0 := fun z => h3 (Or.inl z)
  have hcls := (hK.1.1 ci _ (pm_vw ci b1)).2
  obtain ⟨kA, comp, k1, k2, k3, -⟩ := (hK.1.2 (ci + 2) _ (pm_tys_q _ g1)).2
  have hcomp : comp = w.1 ci := Option.some.inj (k3.symm.trans hcls.1)
  subst hcomp
  obtain ⟨kC, hkC, -⟩ := hcls.2
  refine W.aast C.1 C.2.1 g3 (fun z h => by cases h) (fun h => by cases h) k1 k2 rfl hkC ⟨h0, by show _ < (arrV _ _ _).slots.size; rw [arrV_size]; exact hlt⟩ c1 (fun z h => by rw [c3] at h; cases h) (by rw [c2]; exact hkC) (by rw [c2]; exact va_assign hcls) rfl rfl hd fun H1 e1 z oq => ?_
  refine kk H1 _ lsA (hr.up z oq ⟨g1, g2, ?_⟩) hl (pm_loc hlo g2)
  rw [e1]
  rw [vp_cell_q, vp_cell_q, arrV_store]
  congr 2
  funext q
  by_cases hq : q = i.toNatClampNeg
  · subst hq
    simp [updV, va_up, va_rf]
  · simp [updV, va_up, hq]
theorem pm_g_alen (C : pm_Ctx w M p s m args meth c) (hd : decode M.2.1 pc = .ok (.arraylength, 1)) (h : pm_alen pc ls st hp = some q) (kk : pm_Go p l e R s m args below meth c Q w n0 u0 q) : pm_Go p l e R s m args below meth c Q w n0 u0 (pc, ls, st, hp) := by
  have hK := C.2.2.2.2.2.2.2
  unfold pm_alen at h
  split at h
  · rename_i a st'
    split at h
    · rename_i t n f h1
      cases h
      intro H locs lsA hr hl hlo
      rcases hr.2.2 a _ h1 with ⟨-, g2, scr, k1, k2, k3, k4, k5⟩ | ⟨g1, g2, g3⟩
      · exact W.alen (n := Int32.ofNat n) C.1 C.2.1 k1 k2 (by rw [k4] <;> rfl) rfl rfl hd (kk H locs lsA hr hl hlo)
      · have hP : va_P (w.1, w.2.1) vwCl [(a, .inl (w.2.2.1 t, n, .inl f))] H := pm_one g3
        rcases (show t = 0 ∨ t = 1 by omega) with rfl | rfl
        · exact va_alen C.1 C.2.1 hK.1 hP 0 0 rfl rfl rfl hd (kk H locs lsA hr hl hlo)
        · exact va_alen C.1 C.2.1 hK.1 hP 0 1 rfl rfl rfl hd (kk H locs lsA hr hl hlo)
    · rename_i ci n f h1
      cases h
      intro H locs lsA hr hl hlo
      obtain ⟨g1, g2, g3⟩ := hr.2.2 a _ h1
      have hP : va_P (w.1, w.2.1) vwCl [(a, .inl (w.2.2.1 (ci + 2), n, .inr (.inr (.inr (.inr f)))))] H := pm_one g3
      exact va_alen C.1 C.2.1 hK.1 hP 0 (ci + 2) rfl (pm_tys_q _ g1) rfl hd (kk H locs lsA hr hl hlo)
    · cases h
  · cases h
theorem pm_newa_ok {t : Nat} (h : pm_newa t pc ls st hp = some q) : ∃ n st', st = .int n :: st' ∧ ¬ n < 0 ∧ n.toNatClampNeg * 4 ≤ 536870912 ∧ q = (pc + 2, ls, .ref hp.1 :: st', hp.1 + 1, hp.2.1 + n.toNatClampNeg, pm_up hp.2.2 hp.1 (.inl (t, n.toNatClampNeg, fun _ => 0))) := by
  unfold pm_newa at h
  split at h
  · rename_i n st'
    split at h
    · rename_i hz
      cases h
      exact ⟨n, st', rfl, hz.1, hz.2, rfl⟩
    · cases h
  · cases h
theorem pm_g_newa (C : pm_Ctx w M p s m args meth c) (t : Nat) (ty : ArrayType) (hty : (t = 0 ∧ ty = .int) ∨ (t = 1 ∧ ty = .boolean)) (hd : decode M.2.1 pc = .ok (.newarray ty, 2)) (h : pm_newa t pc ls st hp = some q) (hn0 : n0 ≤ hp.1) (hu0 : u0 ≤ hp.2.1) (hc : q.2.2.2.1 - n0 ≤ R.cells) (hs : q.2.2.2.2.1 - u0 ≤ R.slots) (kk : pm_Go p l e R s m args below meth c Q w n0 u0 q) : pm_Go p l e R s m args below meth c Q w n0 u0 (pc, ls, st, hp) := by
  obtain ⟨n, st', rfl, h1, h2, rfl⟩ := pm_newa_ok h
  intro H locs lsA hr hl hlo
  have hK := C.2.2.2.2.2.2.2
  have har : (Cond.arrayClass (newarray.typeOf ty)).before args s = true := by
    rcases hty with ⟨-, rfl⟩ | ⟨-, rfl⟩
    · exact C.2.2.2.1 _ (pm_in1 (i := 47) (by decide +kernel) rfl)
    · exact C.2.2.2.1 _ (pm_in1 (i := 1177) (by decide +kernel) rfl)
  have hbytes : n.toNatClampNeg * componentBytes (newarray.typeOf ty) ≤ 536870912 := by
    rcases hty with ⟨-, rfl⟩ | ⟨-, rfl⟩
    · exact h2
    · have : componentBytes (newarray.typeOf .boolean) = 1 := by first | rfl | decide
      rw [this]
      omega
  dsimp only at hc hs
  refine va_newaK C.1 C.2.1 har (g := F0 m pc lsA (.int n :: st')) rfl hd rfl h1 rfl hbytes (by dsimp only; omega) (by dsimp only; omega) hr.1 fun H1 cA e1 z1 o1 hAr hNm => ?_
  have hcA : cA = w.2.2.1 t := by
    rcases hty with ⟨rfl, rfl⟩ | ⟨rfl, rfl⟩
    · exact Option.some.inj (hNm.symm.trans (hK.1.2 0 _ rfl).2)
    · exact Option.some.inj (hNm.symm.trans (hK.1.2 1 _ rfl).2)
  have hkk := kk H1 locs lsA (hr.push (u := hp.2.1 + n.toNatClampNeg) z1 o1 (Or.inr ⟨by rcases hty with ⟨rfl, -⟩ | ⟨rfl, -⟩ <;> decide, hr.2.1, by
    rw [e1, hcA, vp_cell_i]
    rcases hty with ⟨rfl, rfl⟩ | ⟨rfl, rfl⟩ <;> rfl⟩)) hl hlo
  refine W.widen (k := hp.1 + 1 - n0) (n := hp.2.1 + n.toNatClampNeg - u0) (by dsimp only; omega) (by dsimp only; omega) ?_
  exact hkk
theorem pm_anew_ok {oc idx : Nat} (h : pm_anew oc idx pc ls st hp = some q) : ∃ n st' ci, st = .int n :: st' ∧ pm_cl oc idx = some ci ∧ ci < 4 ∧ ¬ n < 0 ∧ n.toNatClampNeg * 4 ≤ 536870912 ∧ q = (pc + 3, ls, .ref hp.1 :: st', hp.1 + 1, hp.2.1 + n.toNatClampNeg, pm_up hp.2.2 hp.1 (.inr (.inl (ci, n.toNatClampNeg, fun _ => none)))) := by
  unfold pm_anew at h
  split at h
  · rename_i n st'
    split at h
    · rename_i ci h1
      split at h
      · rename_i hz
        cases h
        exact ⟨n, st', ci, rfl, h1, hz.1, hz.2.1, hz.2.2, rfl⟩
      · cases h
    · cases h
  · cases h
theorem pm_g_anew (C : pm_Ctx w M p s m args meth c) {idx : Nat} (hd : decode M.2.1 pc = .ok (.anewarray idx, 3)) (h : pm_anew M.2.2.2.2.1 idx pc ls st hp = some q) (hn0 : n0 ≤ hp.1) (hu0 : u0 ≤ hp.2.1) (hc : q.2.2.2.1 - n0 ≤ R.cells) (hs : q.2.2.2.2.1 - u0 ≤ R.slots) (kk : pm_Go p l e R s m args below meth c Q w n0 u0 q) : pm_Go p l e R s m args below meth c Q w n0 u0 (pc, ls, st, hp) := by
  obtain ⟨n, st', ci, rfl, h1, h2, h3, h4, rfl⟩ := pm_anew_ok h
  intro H locs lsA hr hl hlo
  have hK := C.2.2.2.2.2.2.2
  obtain ⟨g1, g2, g3, g4⟩ := pm_cl_ok h1
  dsimp only at hc hs
  refine W.anew C.1 C.2.1 C.2.2.1 (C.2.2.2.1 _ g2) (va_AO.use (hK.2.2 ci h2)) (g := F0 m pc lsA (.int n :: st')) rfl hd rfl h3 h4 (by dsimp only; omega) (by dsimp only; omega) fun cA kA comp f1 f2 f3 f4 => ?_
  have hcA : cA = w.2.2.1 (ci + 2) := by
    obtain ⟨kA', comp', k1, k2, k3, k4⟩ := (hK.1.2 (ci + 2) _ (pm_tys_q _ h2)).2
    exact Option.some.inj (f1.symm.trans k4)
  generalize hH1 : H.push ({ cls := cA, slots := Array.replicate n.toNatClampNeg .null, vm := .none } : Cell) = H1
  have z1 : H1.size = hp.1 + 1 := by rw [← hH1, Array.size_push, hr.1]
  have e1 : H1[hp.1]? = some (arrV cA n.toNatClampNeg (fun _ => .null)) := by rw [← hH1, ← hr.1, Array.getElem?_push_size, ← arrV_new]
  have o1 : ∀ q : Nat, q < hp.1 → H1[q]? = H[q]? := fun q hq => by rw [← hH1, Array.getElem?_push, if_neg (by rw [hr.1]; exact Nat.ne_of_lt hq)]
  have hkk := kk H1 locs lsA (hr.push (u := hp.2.1 + n.toNatClampNeg) z1 o1 ⟨h2, hr.2.1, by rw [e1, hcA, vp_cell_q]; rfl⟩) hl hlo
  refine W.widen (k := hp.1 + 1 - n0) (n := hp.2.1 + n.toNatClampNeg - u0) (by dsimp only; omega) (by dsimp only; omega) ?_
  rw [hr.1]
  exact hkk
theorem pm_g_new (C : pm_Ctx w M p s m args meth c) {idx : Nat} (hd : decode M.2.1 pc = .ok (.new idx, 3)) (h : pm_new M.2.2.2.2.1 idx pc ls st hp = some q) (hn0 : n0 ≤ hp.1) (hu0 : u0 ≤ hp.2.1) (hc : q.2.2.2.1 - n0 ≤ R.cells) (hs : q.2.2.2.2.1 - u0 ≤ R.slots) (kk : pm_Go p l e R s m args below meth c Q w n0 u0 q) : pm_Go p l e R s m args below meth c Q w n0 u0 (pc, ls, st, hp) := by
  unfold pm_new at h
  split at h
  · rename_i ci h1
    cases h
    intro H locs lsA hr hl hlo
    have hK := C.2.2.2.2.2.2.2
    obtain ⟨g1, g2, g3, g4⟩ := pm_cl_ok h1
    have hO := pm_okC_all ci g1
    have hKn := hK.1.1 ci _ (pm_vw ci g1)
    dsimp only at hc hs
    refine W.newcK C.1 C.2.1 C.2.2.1 (C.2.2.2.1 _ g2) (C.2.2.2.1 _ g3) (C.2.2.2.1 _ g4) (g := F0 m pc lsA st) rfl hd (by dsimp only; omega) (by dsimp only; omega) hKn.2.1 hr.1 fun H1 kC hkC e1 z1 o1 => ?_
    have hkk := kk H1 locs lsA (hr.push (u := hp.2.1 + pm_N ci) z1 o1 ⟨g1, hr.2.1, (u_born (pm_ty ci) C.2.2.2.1 hO.1 hKn hkC e1 hO.2.1).to hO.2.2.2.1⟩) hl hlo
    refine W.widen (k := hp.1 + 1 - n0) (n := hp.2.1 + pm_N ci - u0) (by dsimp only; omega) (by dsimp only; omega) ?_
    exact hkk
  · cases h
end PMH
