/-! ===== the pure machine's instructions are the machine's ===== -/
section PMG
variable {p : Program} {l : Launch} {e : Env} {R : Room} {s : State} {m : MethodId} {args : Array Value} {below : List Frame} {meth : Method} {c : Code} {Q : State → Prop} {w : pm_W} {M : pm_M} {k pc n0 u0 : Nat} {ls st : List Value} {hp : pm_H} {q : pm_S}
theorem pm_g_iconst (C : pm_Ctx w M p s m args meth c) {n : Int} (hd : decode M.2.1 pc = .ok (.iconst n, 1)) (h : pm_push (.int (Int32.ofInt n)) 1 pc ls st hp = some q) (kk : pm_Go p l e R s m args below meth c Q w n0 u0 q) : pm_Go p l e R s m args below meth c Q w n0 u0 (pc, ls, st, hp) := by
  cases h
  intro H locs lsA hr hl hlo
  exact lv_iconst C.1 C.2.1 hd rfl (kk H locs lsA hr hl hlo)
theorem pm_g_bipush (C : pm_Ctx w M p s m args meth c) {n : Int} (hd : decode M.2.1 pc = .ok (.bipush n, 2)) (h : pm_push (.int (Int8.ofInt n).toInt32) 2 pc ls st hp = some q) (kk : pm_Go p l e R s m args below meth c Q w n0 u0 q) : pm_Go p l e R s m args below meth c Q w n0 u0 (pc, ls, st, hp) := by
  cases h
  intro H locs lsA hr hl hlo
  exact lv_bipush C.1 C.2.1 hd rfl (kk H locs lsA hr hl hlo)
theorem pm_g_sipush (C : pm_Ctx w M p s m args meth c) {n : Int} (hd : decode M.2.1 pc = .ok (.sipush n, 3)) (h : pm_push (.int (Int16.ofInt n).toInt32) 3 pc ls st hp = some q) (kk : pm_Go p l e R s m args below meth c Q w n0 u0 q) : pm_Go p l e R s m args below meth c Q w n0 u0 (pc, ls, st, hp) := by
  cases h
  intro H locs lsA hr hl hlo
  exact lv_sipush C.1 C.2.1 hd rfl (kk H locs lsA hr hl hlo)
theorem pm_g_null (C : pm_Ctx w M p s m args meth c) (hd : decode M.2.1 pc = .ok (.aconst_null, 1)) (h : pm_push .null 1 pc ls st hp = some q) (kk : pm_Go p l e R s m args below meth c Q w n0 u0 q) : pm_Go p l e R s m args below meth c Q w n0 u0 (pc, ls, st, hp) := by
  cases h
  intro H locs lsA hr hl hlo
  exact lv_null C.1 C.2.1 hd (kk H locs lsA hr hl hlo)
theorem pm_g_ldc (C : pm_Ctx w M p s m args meth c) {idx : Nat} {v : Int32} (hv : pm_ld M.2.2.2.2.1 idx = some v) (hd : decode M.2.1 pc = .ok (.ldc idx, 2)) (h : pm_push (.int v) 2 pc ls st hp = some q) (kk : pm_Go p l e R s m args below meth c Q w n0 u0 q) : pm_Go p l e R s m args below meth c Q w n0 u0 (pc, ls, st, hp) := by
  cases h
  intro H locs lsA hr hl hlo
  exact lv_ldc C.1 C.2.1 C.2.2.1 (C.2.2.2.1 _ (pm_ld_ok hv)) hd (kk H locs lsA hr hl hlo)
theorem pm_g_iload_n (C : pm_Ctx w M p s m args meth c) {n : Fin 4} (hd : decode M.2.1 pc = .ok (.iload_n n, 1)) (h : pm_iload n.val 1 pc ls st hp = some q) (kk : pm_Go p l e R s m args below meth c Q w n0 u0 q) : pm_Go p l e R s m args below meth c Q w n0 u0 (pc, ls, st, hp) := by
  unfold pm_iload at h
  split at h
  · rename_i x hx
    cases h
    intro H locs lsA hr hl hlo
    exact lv_iload_n C.1 C.2.1 hd rfl (hl.get hx rfl) (kk H locs lsA hr hl hlo)
  · cases h
theorem pm_g_iload (C : pm_Ctx w M p s m args meth c) {n : Nat} (hd : decode M.2.1 pc = .ok (.iload n, 2)) (h : pm_iload n 2 pc ls st hp = some q) (kk : pm_Go p l e R s m args below meth c Q w n0 u0 q) : pm_Go p l e R s m args below meth c Q w n0 u0 (pc, ls, st, hp) := by
  unfold pm_iload at h
  split at h
  · rename_i x hx
    cases h
    intro H locs lsA hr hl hlo
    exact lv_iload C.1 C.2.1 hd (hl.get hx rfl) (kk H locs lsA hr hl hlo)
  · cases h
theorem pm_g_aload_n (C : pm_Ctx w M p s m args meth c) {n : Fin 4} (hd : decode M.2.1 pc = .ok (.aload_n n, 1)) (h : pm_aload n.val 1 pc ls st hp = some q) (kk : pm_Go p l e R s m args below meth c Q w n0 u0 q) : pm_Go p l e R s m args below meth c Q w n0 u0 (pc, ls, st, hp) := by
  unfold pm_aload at h
  split at h
  · rename_i x hx
    cases h
    intro H locs lsA hr hl hlo
    exact lv_aload_n C.1 C.2.1 hd rfl (hl.get hx rfl) (kk H locs lsA hr hl hlo)
  · rename_i hx
    cases h
    intro H locs lsA hr hl hlo
    exact lv_aload_nN C.1 C.2.1 hd rfl (hl.get hx rfl) (kk H locs lsA hr hl hlo)
  · cases h
theorem pm_g_aload (C : pm_Ctx w M p s m args meth c) {n : Nat} (hd : decode M.2.1 pc = .ok (.aload n, 2)) (h : pm_aload n 2 pc ls st hp = some q) (kk : pm_Go p l e R s m args below meth c Q w n0 u0 q) : pm_Go p l e R s m args below meth c Q w n0 u0 (pc, ls, st, hp) := by
  unfold pm_aload at h
  split at h
  · rename_i x hx
    cases h
    intro H locs lsA hr hl hlo
    exact lv_aload C.1 C.2.1 hd (hl.get hx rfl) (kk H locs lsA hr hl hlo)
  · rename_i hx
    cases h
    intro H locs lsA hr hl hlo
    exact lv_aloadN C.1 C.2.1 hd (hl.get hx rfl) (kk H locs lsA hr hl hlo)
  · cases h
theorem pm_g_istore_n (C : pm_Ctx w M p s m args meth c) {n : Fin 4} (hd : decode M.2.1 pc = .ok (.istore_n n, 1)) (h : pm_istore n.val 1 pc ls st hp = some q) (kk : pm_Go p l e R s m args below meth c Q w n0 u0 q) : pm_Go p l e R s m args below meth c Q w n0 u0 (pc, ls, st, hp) := by
  unfold pm_istore at h
  split at h
  · split at h
    · rename_i hx
      cases h
      intro H locs lsA hr hl hlo
      obtain ⟨lv, h1, h2, h3⟩ := hl
      exact lv_istore_n C.1 C.2.1 hd rfl h1 (by rw [← h2]; exact hx) rfl (fun ls2 hl2 => kk H locs ls2 hr (pm_lv.set (lsA := lsA) h2 h3 hl2) hlo)
    · cases h
  · cases h
theorem pm_g_istore (C : pm_Ctx w M p s m args meth c) {n : Nat} (hd : decode M.2.1 pc = .ok (.istore n, 2)) (h : pm_istore n 2 pc ls st hp = some q) (kk : pm_Go p l e R s m args below meth c Q w n0 u0 q) : pm_Go p l e R s m args below meth c Q w n0 u0 (pc, ls, st, hp) := by
  unfold pm_istore at h
  split at h
  · split at h
    · rename_i hx
      cases h
      intro H locs lsA hr hl hlo
      obtain ⟨lv, h1, h2, h3⟩ := hl
      exact lv_istore C.1 C.2.1 hd h1 (by rw [← h2]; exact hx) rfl (fun ls2 hl2 => kk H locs ls2 hr (pm_lv.set (lsA := lsA) h2 h3 hl2) hlo)
    · cases h
  · cases h
theorem pm_g_astore_n (C : pm_Ctx w M p s m args meth c) {n : Fin 4} (hd : decode M.2.1 pc = .ok (.astore_n n, 1)) (h : pm_astore n.val 1 pc ls st hp = some q) (kk : pm_Go p l e R s m args below meth c Q w n0 u0 q) : pm_Go p l e R s m args below meth c Q w n0 u0 (pc, ls, st, hp) := by
  unfold pm_astore at h
  split at h
  · split at h
    · rename_i hx
      cases h
      intro H locs lsA hr hl hlo
      obtain ⟨lv, h1, h2, h3⟩ := hl
      exact lv_astore_n C.1 C.2.1 hd rfl h1 (by rw [← h2]; exact hx) rfl (fun ls2 hl2 => kk H locs ls2 hr (pm_lv.set (lsA := lsA) h2 h3 hl2) hlo)
    · cases h
  · split at h
    · rename_i hx
      cases h
      intro H locs lsA hr hl hlo
      obtain ⟨lv, h1, h2, h3⟩ := hl
      exact lv_astore_nN C.1 C.2.1 hd rfl h1 (by rw [← h2]; exact hx) rfl (fun ls2 hl2 => kk H locs ls2 hr (pm_lv.set (lsA := lsA) h2 h3 hl2) hlo)
    · cases h
  · cases h
theorem pm_g_astore (C : pm_Ctx w M p s m args meth c) {n : Nat} (hd : decode M.2.1 pc = .ok (.astore n, 2)) (h : pm_astore n 2 pc ls st hp = some q) (kk : pm_Go p l e R s m args below meth c Q w n0 u0 q) : pm_Go p l e R s m args below meth c Q w n0 u0 (pc, ls, st, hp) := by
  unfold pm_astore at h
  split at h
  · split at h
    · rename_i hx
      cases h
      intro H locs lsA hr hl hlo
      obtain ⟨lv, h1, h2, h3⟩ := hl
      exact lv_astore C.1 C.2.1 hd h1 (by rw [← h2]; exact hx) rfl (fun ls2 hl2 => kk H locs ls2 hr (pm_lv.set (lsA := lsA) h2 h3 hl2) hlo)
    · cases h
  · split at h
    · rename_i hx
      cases h
      intro H locs lsA hr hl hlo
      obtain ⟨lv, h1, h2, h3⟩ := hl
      exact lv_astoreN C.1 C.2.1 hd h1 (by rw [← h2]; exact hx) rfl (fun ls2 hl2 => kk H locs ls2 hr (pm_lv.set (lsA := lsA) h2 h3 hl2) hlo)
    · cases h
  · cases h
theorem pm_g_iinc (C : pm_Ctx w M p s m args meth c) {i : Nat} {n : Int} (hd : decode M.2.1 pc = .ok (.iinc i n, 3)) (h : pm_iinc i n pc ls st hp = some q) (kk : pm_Go p l e R s m args below meth c Q w n0 u0 q) : pm_Go p l e R s m args below meth c Q w n0 u0 (pc, ls, st, hp) := by
  unfold pm_iinc at h
  split at h
  · rename_i x hx
    cases h
    intro H locs lsA hr hl hlo
    obtain ⟨lv, h1, h2, h3⟩ := hl
    obtain ⟨kz, hkz⟩ := List.getElem?_of_mem (h3 i _ hx rfl)
    exact lv_iinc C.1 C.2.1 hd h1 (k := kz) hkz rfl (by rw [← h2]; exact (List.getElem?_eq_some_iff.mp hx).1) rfl (fun ls2 hl2 => kk H locs ls2 hr (pm_lv.set (lsA := lsA) h2 h3 hl2) hlo)
  · cases h
theorem pm_g_iadd (C : pm_Ctx w M p s m args meth c) (hd : decode M.2.1 pc = .ok (.iadd, 1)) (h : pm_bin (fun x y => x + y) pc ls st hp = some q) (kk : pm_Go p l e R s m args below meth c Q w n0 u0 q) : pm_Go p l e R s m args below meth c Q w n0 u0 (pc, ls, st, hp) := by
  unfold pm_bin at h
  split at h
  · cases h
    intro H locs lsA hr hl hlo
    exact lv_iadd C.1 C.2.1 hd (kk H locs lsA hr hl hlo)
  · cases h
theorem pm_g_isub (C : pm_Ctx w M p s m args meth c) (hd : decode M.2.1 pc = .ok (.isub, 1)) (h : pm_bin (fun x y => x - y) pc ls st hp = some q) (kk : pm_Go p l e R s m args below meth c Q w n0 u0 q) : pm_Go p l e R s m args below meth c Q w n0 u0 (pc, ls, st, hp) := by
  unfold pm_bin at h
  split at h
  · cases h
    intro H locs lsA hr hl hlo
    exact lv_isub C.1 C.2.1 hd (kk H locs lsA hr hl hlo)
  · cases h
theorem pm_g_imul (C : pm_Ctx w M p s m args meth c) (hd : decode M.2.1 pc = .ok (.imul, 1)) (h : pm_bin (fun x y => x * y) pc ls st hp = some q) (kk : pm_Go p l e R s m args below meth c Q w n0 u0 q) : pm_Go p l e R s m args below meth c Q w n0 u0 (pc, ls, st, hp) := by
  unfold pm_bin at h
  split at h
  · cases h
    intro H locs lsA hr hl hlo
    exact lv_imul C.1 C.2.1 hd (kk H locs lsA hr hl hlo)
  · cases h
theorem pm_g_iand (C : pm_Ctx w M p s m args meth c) (hd : decode M.2.1 pc = .ok (.iand, 1)) (h : pm_bin (fun x y => x &&& y) pc ls st hp = some q) (kk : pm_Go p l e R s m args below meth c Q w n0 u0 q) : pm_Go p l e R s m args below meth c Q w n0 u0 (pc, ls, st, hp) := by
  unfold pm_bin at h
  split at h
  · cases h
    intro H locs lsA hr hl hlo
    exact lv_iand C.1 C.2.1 hd (kk H locs lsA hr hl hlo)
  · cases h
theorem pm_g_ior (C : pm_Ctx w M p s m args meth c) (hd : decode M.2.1 pc = .ok (.ior, 1)) (h : pm_bin (fun x y => x ||| y) pc ls st hp = some q) (kk : pm_Go p l e R s m args below meth c Q w n0 u0 q) : pm_Go p l e R s m args below meth c Q w n0 u0 (pc, ls, st, hp) := by
  unfold pm_bin at h
  split at h
  · cases h
    intro H locs lsA hr hl hlo
    exact lv_ior C.1 C.2.1 hd (kk H locs lsA hr hl hlo)
  · cases h
theorem pm_g_ishl (C : pm_Ctx w M p s m args meth c) (hd : decode M.2.1 pc = .ok (.ishl, 1)) (h : pm_bin (fun x y => x <<< (y &&& 31)) pc ls st hp = some q) (kk : pm_Go p l e R s m args below meth c Q w n0 u0 q) : pm_Go p l e R s m args below meth c Q w n0 u0 (pc, ls, st, hp) := by
  unfold pm_bin at h
  split at h
  · cases h
    intro H locs lsA hr hl hlo
    exact lv_ishl C.1 C.2.1 hd (kk H locs lsA hr hl hlo)
  · cases h
theorem pm_g_ishr (C : pm_Ctx w M p s m args meth c) (hd : decode M.2.1 pc = .ok (.ishr, 1)) (h : pm_bin (fun x y => x >>> (y &&& 31)) pc ls st hp = some q) (kk : pm_Go p l e R s m args below meth c Q w n0 u0 q) : pm_Go p l e R s m args below meth c Q w n0 u0 (pc, ls, st, hp) := by
  unfold pm_bin at h
  split at h
  · cases h
    intro H locs lsA hr hl hlo
    exact lv_ishr C.1 C.2.1 hd (kk H locs lsA hr hl hlo)
  · cases h
theorem pm_g_iushr (C : pm_Ctx w M p s m args meth c) (hd : decode M.2.1 pc = .ok (.iushr, 1)) (h : pm_bin (fun x y => (x.toUInt32 >>> (y.toUInt32 &&& Int32.toUInt32 31)).toInt32) pc ls st hp = some q) (kk : pm_Go p l e R s m args below meth c Q w n0 u0 q) : pm_Go p l e R s m args below meth c Q w n0 u0 (pc, ls, st, hp) := by
  unfold pm_bin at h
  split at h
  · cases h
    intro H locs lsA hr hl hlo
    exact lv_iushr C.1 C.2.1 hd rfl (kk H locs lsA hr hl hlo)
  · cases h
theorem pm_g_idiv (C : pm_Ctx w M p s m args meth c) (hd : decode M.2.1 pc = .ok (.idiv, 1)) (h : pm_div (fun x y => x / y) pc ls st hp = some q) (kk : pm_Go p l e R s m args below meth c Q w n0 u0 q) : pm_Go p l e R s m args below meth c Q w n0 u0 (pc, ls, st, hp) := by
  unfold pm_div at h
  split at h
  · split at h
    · cases h
    · rename_i hz
      cases h
      intro H locs lsA hr hl hlo
      exact lv_idiv C.1 C.2.1 hd hz (kk H locs lsA hr hl hlo)
  · cases h
theorem pm_g_irem (C : pm_Ctx w M p s m args meth c) (hd : decode M.2.1 pc = .ok (.irem, 1)) (h : pm_div (fun x y => x - x / y * y) pc ls st hp = some q) (kk : pm_Go p l e R s m args below meth c Q w n0 u0 q) : pm_Go p l e R s m args below meth c Q w n0 u0 (pc, ls, st, hp) := by
  unfold pm_div at h
  split at h
  · split at h
    · cases h
    · rename_i hz
      cases h
      intro H locs lsA hr hl hlo
      exact lv_irem C.1 C.2.1 hd hz (kk H locs lsA hr hl hlo)
  · cases h
theorem pm_g_dup (C : pm_Ctx w M p s m args meth c) (hd : decode M.2.1 pc = .ok (.dup, 1)) (h : pm_dup pc ls st hp = some q) (kk : pm_Go p l e R s m args below meth c Q w n0 u0 q) : pm_Go p l e R s m args below meth c Q w n0 u0 (pc, ls, st, hp) := by
  unfold pm_dup at h
  split at h
  · split at h
    · rename_i hz
      cases h
      intro H locs lsA hr hl hlo
      exact lv_dup C.1 C.2.1 hd hz (kk H locs lsA hr hl hlo)
    · cases h
  · cases h
theorem pm_g_pop (C : pm_Ctx w M p s m args meth c) (hd : decode M.2.1 pc = .ok (.pop, 1)) (h : pm_pop pc ls st hp = some q) (kk : pm_Go p l e R s m args below meth c Q w n0 u0 q) : pm_Go p l e R s m args below meth c Q w n0 u0 (pc, ls, st, hp) := by
  unfold pm_pop at h
  split at h
  · split at h
    · rename_i hz
      cases h
      intro H locs lsA hr hl hlo
      exact lv_pop C.1 C.2.1 hd hz (kk H locs lsA hr hl hlo)
    · cases h
  · cases h
theorem pm_g_dup2 (C : pm_Ctx w M p s m args meth c) (hd : decode M.2.1 pc = .ok (.dup2, 1)) (h : pm_dup2 pc ls st hp = some q) (kk : pm_Go p l e R s m args below meth c Q w n0 u0 q) : pm_Go p l e R s m args below meth c Q w n0 u0 (pc, ls, st, hp) := by
  unfold pm_dup2 at h
  split at h
  · split at h
    · rename_i hz
      cases h
      intro H locs lsA hr hl hlo
      exact lv_dup2_11 C.1 C.2.1 hd hz.1 hz.2 (kk H locs lsA hr hl hlo)
    · cases h
  · cases h
theorem pm_go_ok {off : Int} (h : pm_go off pc ls st hp = some q) : ∃ tgt : Nat, (pc : Int) + off = (tgt : Int) ∧ q = (tgt, ls, st, hp) := by
  unfold pm_go at h
  split at h
  · rename_i hz
    cases h
    exact ⟨_, (Int.toNat_of_nonneg hz).symm, rfl⟩
  · cases h
theorem pm_g_goto (C : pm_Ctx w M p s m args meth c) {off : Int} (hd : decode M.2.1 pc = .ok (.goto off, 3)) (h : pm_go off pc ls st hp = some q) (kk : pm_Go p l e R s m args below meth c Q w n0 u0 q) : pm_Go p l e R s m args below meth c Q w n0 u0 (pc, ls, st, hp) := by
  obtain ⟨tgt, ht, rfl⟩ := pm_go_ok h
  intro H locs lsA hr hl hlo
  exact lv_goto C.1 C.2.1 hd ht (kk H locs lsA hr hl hlo)
theorem pm_g_ifCond (C : pm_Ctx w M p s m args meth c) {cd : Jvm.ClassFile.Cond} {off : Int} (hd : decode M.2.1 pc = .ok (.ifCond cd off, 3)) (h : pm_if1 cd off pc ls st hp = some q) (kk : pm_Go p l e R s m args below meth c Q w n0 u0 q) : pm_Go p l e R s m args below meth c Q w n0 u0 (pc, ls, st, hp) := by
  unfold pm_if1 at h
  split at h
  · split at h
    · rename_i q1 hq1
      obtain ⟨tgt, ht, rfl⟩ := pm_go_ok hq1
      split at h
      · rename_i hz
        cases h
        intro H locs lsA hr hl hlo
        cases cd
        · exact lv_if_eq C.1 C.2.1 hd ht (fun _ => kk H locs lsA hr hl hlo) (fun hn => absurd (of_decide_eq_true hz) (by first | exact hn | exact fun z => z hn))
        · exact lv_if_ne C.1 C.2.1 hd ht (fun _ => kk H locs lsA hr hl hlo) (fun hn => absurd (of_decide_eq_true hz) (by first | exact hn | exact fun z => z hn))
        · exact lv_if_lt C.1 C.2.1 hd ht (fun _ => kk H locs lsA hr hl hlo) (fun hn => absurd (of_decide_eq_true hz) (by first | exact hn | exact fun z => z hn))
        · exact lv_if_ge C.1 C.2.1 hd ht (fun _ => kk H locs lsA hr hl hlo) (fun hn => absurd (of_decide_eq_true hz) (by first | exact hn | exact fun z => z hn))
        · exact lv_if_gt C.1 C.2.1 hd ht (fun _ => kk H locs lsA hr hl hlo) (fun hn => absurd (of_decide_eq_true hz) (by first | exact hn | exact fun z => z hn))
        · exact lv_if_le C.1 C.2.1 hd ht (fun _ => kk H locs lsA hr hl hlo) (fun hn => absurd (of_decide_eq_true hz) (by first | exact hn | exact fun z => z hn))
      · rename_i hz
        cases h
        intro H locs lsA hr hl hlo
        cases cd
        · exact lv_if_eq C.1 C.2.1 hd ht (fun hc => absurd (decide_eq_true hc) hz) (fun _ => kk H locs lsA hr hl hlo)
        · exact lv_if_ne C.1 C.2.1 hd ht (fun hc => absurd (decide_eq_true hc) hz) (fun _ => kk H locs lsA hr hl hlo)
        · exact lv_if_lt C.1 C.2.1 hd ht (fun hc => absurd (decide_eq_true hc) hz) (fun _ => kk H locs lsA hr hl hlo)
        · exact lv_if_ge C.1 C.2.1 hd ht (fun hc => absurd (decide_eq_true hc) hz) (fun _ => kk H locs lsA hr hl hlo)
        · exact lv_if_gt C.1 C.2.1 hd ht (fun hc => absurd (decide_eq_true hc) hz) (fun _ => kk H locs lsA hr hl hlo)
        · exact lv_if_le C.1 C.2.1 hd ht (fun hc => absurd (decide_eq_true hc) hz) (fun _ => kk H locs lsA hr hl hlo)
    · cases h
  · cases h
theorem pm_g_if_icmp (C : pm_Ctx w M p s m args meth c) {cd : Jvm.ClassFile.Cond} {off : Int} (hd : decode M.2.1 pc = .ok (.if_icmp cd off, 3)) (h : pm_if2 cd off pc ls st hp = some q) (kk : pm_Go p l e R s m args below meth c Q w n0 u0 q) : pm_Go p l e R s m args below meth c Q w n0 u0 (pc, ls, st, hp) := by
  unfold pm_if2 at h
  split at h
  · split at h
    · rename_i q1 hq1
      obtain ⟨tgt, ht, rfl⟩ := pm_go_ok hq1
      split at h
      · rename_i hz
        cases h
        intro H locs lsA hr hl hlo
        cases cd
        · exact lv_icmp_eq C.1 C.2.1 hd ht (fun _ => kk H locs lsA hr hl hlo) (fun hn => absurd (of_decide_eq_true hz) (by first | exact hn | exact fun z => z hn))
        · exact lv_icmp_ne C.1 C.2.1 hd ht (fun _ => kk H locs lsA hr hl hlo) (fun hn => absurd (of_decide_eq_true hz) (by first | exact hn | exact fun z => z hn))
        · exact lv_icmp_lt C.1 C.2.1 hd ht (fun _ => kk H locs lsA hr hl hlo) (fun hn => absurd (of_decide_eq_true hz) (by first | exact hn | exact fun z => z hn))
        · exact lv_icmp_ge C.1 C.2.1 hd ht (fun _ => kk H locs lsA hr hl hlo) (fun hn => absurd (of_decide_eq_true hz) (by first | exact hn | exact fun z => z hn))
        · exact lv_icmp_gt C.1 C.2.1 hd ht (fun _ => kk H locs lsA hr hl hlo) (fun hn => absurd (of_decide_eq_true hz) (by first | exact hn | exact fun z => z hn))
        · exact lv_icmp_le C.1 C.2.1 hd ht (fun _ => kk H locs lsA hr hl hlo) (fun hn => absurd (of_decide_eq_true hz) (by first | exact hn | exact fun z => z hn))
      · rename_i hz
        cases h
        intro H locs lsA hr hl hlo
        cases cd
        · exact lv_icmp_eq C.1 C.2.1 hd ht (fun hc => absurd (decide_eq_true hc) hz) (fun _ => kk H locs lsA hr hl hlo)
        · exact lv_icmp_ne C.1 C.2.1 hd ht (fun hc => absurd (decide_eq_true hc) hz) (fun _ => kk H locs lsA hr hl hlo)
        · exact lv_icmp_lt C.1 C.2.1 hd ht (fun hc => absurd (decide_eq_true hc) hz) (fun _ => kk H locs lsA hr hl hlo)
        · exact lv_icmp_ge C.1 C.2.1 hd ht (fun hc => absurd (decide_eq_true hc) hz) (fun _ => kk H locs lsA hr hl hlo)
        · exact lv_icmp_gt C.1 C.2.1 hd ht (fun hc => absurd (decide_eq_true hc) hz) (fun _ => kk H locs lsA hr hl hlo)
        · exact lv_icmp_le C.1 C.2.1 hd ht (fun hc => absurd (decide_eq_true hc) hz) (fun _ => kk H locs lsA hr hl hlo)
    · cases h
  · cases h
theorem pm_g_ifnull (C : pm_Ctx w M p s m args meth c) {off : Int} (hd : decode M.2.1 pc = .ok (.ifnull off, 3)) (h : pm_ifn true off pc ls st hp = some q) (kk : pm_Go p l e R s m args below meth c Q w n0 u0 q) : pm_Go p l e R s m args below meth c Q w n0 u0 (pc, ls, st, hp) := by
  unfold pm_ifn at h
  split at h
  · rw [if_pos rfl] at h
    obtain ⟨tgt, ht, rfl⟩ := pm_go_ok h
    intro H locs lsA hr hl hlo
    exact lv_ifnullN C.1 C.2.1 hd ht (kk H locs lsA hr hl hlo)
  · rw [if_pos rfl] at h
    cases h
    intro H locs lsA hr hl hlo
    exact lv_ifnull C.1 C.2.1 hd (kk H locs lsA hr hl hlo)
  · cases h
theorem pm_g_ifnonnull (C : pm_Ctx w M p s m args meth c) {off : Int} (hd : decode M.2.1 pc = .ok (.ifnonnull off, 3)) (h : pm_ifn false off pc ls st hp = some q) (kk : pm_Go p l e R s m args below meth c Q w n0 u0 q) : pm_Go p l e R s m args below meth c Q w n0 u0 (pc, ls, st, hp) := by
  unfold pm_ifn at h
  split at h
  · rw [if_neg (by decide)] at h
    cases h
    intro H locs lsA hr hl hlo
    exact lv_ifnonnullN C.1 C.2.1 hd (kk H locs lsA hr hl hlo)
  · rw [if_neg (by decide)] at h
    obtain ⟨tgt, ht, rfl⟩ := pm_go_ok h
    intro H locs lsA hr hl hlo
    exact lv_ifnonnull C.1 C.2.1 hd ht (kk H locs lsA hr hl hlo)
  · cases h
theorem pm_g_tsw (C : pm_Ctx w M p s m args meth c) {dflt lo hi : Int} {offs : Array Int} {len : Nat} (hd : decode M.2.1 pc = .ok (.tableswitch dflt lo hi offs, len)) (h : pm_tsw dflt lo hi offs pc ls st hp = some q) (kk : pm_Go p l e R s m args below meth c Q w n0 u0 q) : pm_Go p l e R s m args below meth c Q w n0 u0 (pc, ls, st, hp) := by
  unfold pm_tsw at h
  split at h
  · split at h
    · rename_i hz
      obtain ⟨tgt, ht, rfl⟩ := pm_go_ok h
      intro H locs lsA hr hl hlo
      exact lv_tableOut C.1 C.2.1 hd hz ht (kk H locs lsA hr hl hlo)
    · rename_i hz
      split at h
      · rename_i off ho
        obtain ⟨tgt, ht, rfl⟩ := pm_go_ok h
        intro H locs lsA hr hl hlo
        exact lv_tableIn C.1 C.2.1 hd (fun z => hz (Or.inl z)) (fun z => hz (Or.inr z)) ho ht (kk H locs lsA hr hl hlo)
      · cases h
  · cases h
theorem pm_g_lsw (C : pm_Ctx w M p s m args meth c) {dflt : Int} {ps : Array (Int × Int)} {len : Nat} (hd : decode M.2.1 pc = .ok (.lookupswitch dflt ps, len)) (h : pm_lsw dflt ps pc ls st hp = some q) (kk : pm_Go p l e R s m args below meth c Q w n0 u0 q) : pm_Go p l e R s m args below meth c Q w n0 u0 (pc, ls, st, hp) := by
  unfold pm_lsw at h
  split at h
  · split at h
    · rename_i hz
      obtain ⟨tgt, ht, rfl⟩ := pm_go_ok h
      intro H locs lsA hr hl hlo
      exact lv_lookup C.1 C.2.1 hd hz rfl ht (kk H locs lsA hr hl hlo)
    · cases h
  · cases h
theorem pm_g_oinit (C : pm_Ctx w M p s m args meth c) (hR1 : R.frames = k) (hR2 : 37 * k ≤ R.locals) {idx : Nat} (hd : decode M.2.1 pc = .ok (.invokespecial idx, 3)) (h : pm_oinit k M.2.2.2.2.1 idx pc ls st hp = some q) (kk : pm_Go p l e R s m args below meth c Q w n0 u0 q) : pm_Go p l e R s m args below meth c Q w n0 u0 (pc, ls, st, hp) := by
  unfold pm_oinit at h
  split at h
  · split at h
    · rename_i hz
      obtain ⟨h1, h2, h3⟩ := hz
      cases h
      intro H locs lsA hr hl hlo
      obtain ⟨lv, g1, g2, g3⟩ := id hl
      have hi : Cond.instanceMethod Lib.objectInit ∈ pm_tb := pm_in1 (i := 22) (by decide +kernel) rfl
      have hc : Cond.code Lib.objectInit ⟨#[0xb1]⟩ 1 none ∈ pm_tb := pm_in1 (i := 23) (by decide +kernel) rfl
      refine W.objInit C.1 C.2.1 C.2.2.1 (C.2.2.2.1 _ (pm_oi_ok h1)) (C.2.2.2.1 _ hi) (C.2.2.2.1 _ hc) rfl g1.1 rfl hd (by rw [hR1]; exact h2) ?_ (kk H locs lsA hr hl hlo)
      show 2 * 0 + pm_cat _ + 12 ≤ R.locals
      omega
    · cases h
  · cases h
theorem pm_g_mm (C : pm_Ctx w M p s m args meth c) (hR1 : R.frames = k) (hR2 : 37 * k ≤ R.locals) (hc1 : hp.1 - n0 ≤ R.cells) (hc2 : hp.2.1 - u0 ≤ R.slots) {idx : Nat} (hd : decode M.2.1 pc = .ok (.invokestatic idx, 3)) (h : pm_mm k M.2.2.2.2.1 idx pc ls st hp = some q) (kk : pm_Go p l e R s m args below meth c Q w n0 u0 q) : pm_Go p l e R s m args below meth c Q w n0 u0 (pc, ls, st, hp) := by
  unfold pm_mm at h
  have hst1 : Cond.static Lib.Math.max.name ∈ pm_tb := pm_in1 (i := 31) (by decide +kernel) rfl
  have hst2 : Cond.static Lib.Math.min.name ∈ pm_tb := pm_in1 (i := 532) (by decide +kernel) rfl
  have hin : Cond.initialized "java/lang/Math" ∈ pm_tb := pm_in1 (i := 3) (by decide +kernel) rfl
  have hcd1 : Cond.code Lib.Math.max.name Lib.Math.max.code 2 (some .int) ∈ pm_tb := pm_in1 (i := 32) (by decide +kernel) rfl
  have hcd2 : Cond.code Lib.Math.min.name Lib.Math.min.code 2 (some .int) ∈ pm_tb := pm_in1 (i := 533) (by decide +kernel) rfl
  split at h
  · split at h
    · rename_i hz
      split at h
      · rename_i hm
        cases h
        intro H locs lsA hr hl hlo
        obtain ⟨lv, g1, g2, g3⟩ := id hl
        have hlk := pm_mx_ok hm
        rw [if_pos rfl] at hlk
        refine va_mmax C.1 C.2.1 g1.1.symm C.2.2.1 (C.2.2.2.1 _ hlk) (C.2.2.2.1 _ hst1) (C.2.2.2.1 _ hin) (C.2.2.2.1 _ hcd1) (by rw [hR1]; exact hz.1) ?_ hc1 hc2 hd (kk H locs lsA hr hl hlo)
        show pm_cat _ + 13 ≤ R.locals
        omega
      · rename_i hm
        cases h
        intro H locs lsA hr hl hlo
        obtain ⟨lv, g1, g2, g3⟩ := id hl
        have hlk := pm_mx_ok hm
        rw [if_neg (by decide)] at hlk
        refine va_mmin C.1 C.2.1 g1.1.symm C.2.2.1 (C.2.2.2.1 _ hlk) (C.2.2.2.1 _ hst2) (C.2.2.2.1 _ hin) (C.2.2.2.1 _ hcd2) (by rw [hR1]; exact hz.1) ?_ hc1 hc2 hd (kk H locs lsA hr hl hlo)
        show pm_cat _ + 13 ≤ R.locals
        omega
      · cases h
    · cases h
  · cases h
end PMG
