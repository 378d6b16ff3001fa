/-! ===== the instructions, goal first, as equivalences ===== -/
section OPS
variable {k : Nat} {M : pm_M} {pc : Nat} {ls st : List Value} {hp : pm_H} {Q : Option Value → pm_H → Prop}
theorem rw_go {i : Instr} {len pc' : Nat} {ls' st' : List Value} {hp' : pm_H} (hd : decode M.2.1 pc = .ok (i, len)) (hs : pm_st k M i len pc ls st hp = some (pc', ls', st', hp')) : rw_ k M pc ls st hp Q ↔ rw_ k M pc' ls' st' hp' Q := rw_cont hd hs
theorem o_iload_n {i : Fin 4} {x : Int32} (hd : decode M.2.1 pc = .ok (.iload_n i, 1)) (hl : ls[i.val]? = some (.int x)) : rw_ k M pc ls st hp Q ↔ rw_ k M (pc + 1) ls (.int x :: st) hp Q := by
  refine rw_go hd ?_
  simp [pm_st, pm_iload, hl]
theorem o_iload {i : Nat} {x : Int32} (hd : decode M.2.1 pc = .ok (.iload i, 2)) (hl : ls[i]? = some (.int x)) : rw_ k M pc ls st hp Q ↔ rw_ k M (pc + 2) ls (.int x :: st) hp Q := by
  refine rw_go hd ?_
  simp [pm_st, pm_iload, hl]
theorem o_aload_n {i : Fin 4} {x : Nat} (hd : decode M.2.1 pc = .ok (.aload_n i, 1)) (hl : ls[i.val]? = some (.ref x)) : rw_ k M pc ls st hp Q ↔ rw_ k M (pc + 1) ls (.ref x :: st) hp Q := by
  refine rw_go hd ?_
  simp [pm_st, pm_aload, hl]
theorem o_aload {i : Nat} {x : Nat} (hd : decode M.2.1 pc = .ok (.aload i, 2)) (hl : ls[i]? = some (.ref x)) : rw_ k M pc ls st hp Q ↔ rw_ k M (pc + 2) ls (.ref x :: st) hp Q := by
  refine rw_go hd ?_
  simp [pm_st, pm_aload, hl]
theorem o_aload_nN {i : Fin 4} (hd : decode M.2.1 pc = .ok (.aload_n i, 1)) (hl : ls[i.val]? = some .null) : rw_ k M pc ls st hp Q ↔ rw_ k M (pc + 1) ls (.null :: st) hp Q := by
  refine rw_go hd ?_
  simp [pm_st, pm_aload, hl]
theorem o_aloadN {i : Nat} (hd : decode M.2.1 pc = .ok (.aload i, 2)) (hl : ls[i]? = some .null) : rw_ k M pc ls st hp Q ↔ rw_ k M (pc + 2) ls (.null :: st) hp Q := by
  refine rw_go hd ?_
  simp [pm_st, pm_aload, hl]
theorem o_istore_n {i : Fin 4} {x : Int32} (hd : decode M.2.1 pc = .ok (.istore_n i, 1)) (hl : i.val < ls.length) : rw_ k M pc ls (.int x :: st) hp Q ↔ rw_ k M (pc + 1) (ls.set i.val (.int x)) st hp Q := by
  refine rw_go hd ?_
  simp [pm_st, pm_istore, hl]
theorem o_istore {i : Nat} {x : Int32} (hd : decode M.2.1 pc = .ok (.istore i, 2)) (hl : i < ls.length) : rw_ k M pc ls (.int x :: st) hp Q ↔ rw_ k M (pc + 2) (ls.set i (.int x)) st hp Q := by
  refine rw_go hd ?_
  simp [pm_st, pm_istore, hl]
theorem o_astore_n {i : Fin 4} {x : Nat} (hd : decode M.2.1 pc = .ok (.astore_n i, 1)) (hl : i.val < ls.length) : rw_ k M pc ls (.ref x :: st) hp Q ↔ rw_ k M (pc + 1) (ls.set i.val (.ref x)) st hp Q := by
  refine rw_go hd ?_
  simp [pm_st, pm_astore, hl]
theorem o_astore {i : Nat} {x : Nat} (hd : decode M.2.1 pc = .ok (.astore i, 2)) (hl : i < ls.length) : rw_ k M pc ls (.ref x :: st) hp Q ↔ rw_ k M (pc + 2) (ls.set i (.ref x)) st hp Q := by
  refine rw_go hd ?_
  simp [pm_st, pm_astore, hl]
theorem o_astore_nN {i : Fin 4} (hd : decode M.2.1 pc = .ok (.astore_n i, 1)) (hl : i.val < ls.length) : rw_ k M pc ls (.null :: st) hp Q ↔ rw_ k M (pc + 1) (ls.set i.val .null) st hp Q := by
  refine rw_go hd ?_
  simp [pm_st, pm_astore, hl]
theorem o_astoreN {i : Nat} (hd : decode M.2.1 pc = .ok (.astore i, 2)) (hl : i < ls.length) : rw_ k M pc ls (.null :: st) hp Q ↔ rw_ k M (pc + 2) (ls.set i .null) st hp Q := by
  refine rw_go hd ?_
  simp [pm_st, pm_astore, hl]
theorem o_iinc {i : Nat} {n : Int} {x v : Int32} (hd : decode M.2.1 pc = .ok (.iinc i n, 3)) (hl : ls[i]? = some (.int x)) (hv : Int32.ofInt n = v) : rw_ k M pc ls st hp Q ↔ rw_ k M (pc + 3) (ls.set i (.int (x + v))) st hp Q := by
  subst hv
  refine rw_go hd ?_
  simp [pm_st, pm_iinc, hl]
theorem o_iconst {n : Int} {v : Int32} (hd : decode M.2.1 pc = .ok (.iconst n, 1)) (hv : Int32.ofInt n = v) : rw_ k M pc ls st hp Q ↔ rw_ k M (pc + 1) ls (.int v :: st) hp Q := by
  subst hv
  exact rw_go hd rfl
theorem o_bipush {n : Int} {v : Int32} (hd : decode M.2.1 pc = .ok (.bipush n, 2)) (hv : (Int8.ofInt n).toInt32 = v) : rw_ k M pc ls st hp Q ↔ rw_ k M (pc + 2) ls (.int v :: st) hp Q := by
  subst hv
  exact rw_go hd rfl
theorem o_sipush {n : Int} {v : Int32} (hd : decode M.2.1 pc = .ok (.sipush n, 3)) (hv : (Int16.ofInt n).toInt32 = v) : rw_ k M pc ls st hp Q ↔ rw_ k M (pc + 3) ls (.int v :: st) hp Q := by
  subst hv
  exact rw_go hd rfl
theorem o_ldc {idx : Nat} {v : Int32} (hd : decode M.2.1 pc = .ok (.ldc idx, 2)) (hv : pm_ld M.2.2.2.2.1 idx = some v) : rw_ k M pc ls st hp Q ↔ rw_ k M (pc + 2) ls (.int v :: st) hp Q := by
  refine rw_go hd ?_
  simp [pm_st, hv, pm_push]
theorem o_null (hd : decode M.2.1 pc = .ok (.aconst_null, 1)) : rw_ k M pc ls st hp Q ↔ rw_ k M (pc + 1) ls (.null :: st) hp Q := rw_go hd rfl
theorem o_iadd {x y : Int32} (hd : decode M.2.1 pc = .ok (.iadd, 1)) : rw_ k M pc ls (.int y :: .int x :: st) hp Q ↔ rw_ k M (pc + 1) ls (.int (x + y) :: st) hp Q := rw_go hd rfl
theorem o_isub {x y : Int32} (hd : decode M.2.1 pc = .ok (.isub, 1)) : rw_ k M pc ls (.int y :: .int x :: st) hp Q ↔ rw_ k M (pc + 1) ls (.int (x - y) :: st) hp Q := rw_go hd rfl
theorem o_imul {x y : Int32} (hd : decode M.2.1 pc = .ok (.imul, 1)) : rw_ k M pc ls (.int y :: .int x :: st) hp Q ↔ rw_ k M (pc + 1) ls (.int (x * y) :: st) hp Q := rw_go hd rfl
theorem o_iand {x y : Int32} (hd : decode M.2.1 pc = .ok (.iand, 1)) : rw_ k M pc ls (.int y :: .int x :: st) hp Q ↔ rw_ k M (pc + 1) ls (.int (x &&& y) :: st) hp Q := rw_go hd rfl
theorem o_ior {x y : Int32} (hd : decode M.2.1 pc = .ok (.ior, 1)) : rw_ k M pc ls (.int y :: .int x :: st) hp Q ↔ rw_ k M (pc + 1) ls (.int (x ||| y) :: st) hp Q := rw_go hd rfl
theorem o_ishl {x y : Int32} (hd : decode M.2.1 pc = .ok (.ishl, 1)) : rw_ k M pc ls (.int y :: .int x :: st) hp Q ↔ rw_ k M (pc + 1) ls (.int (x <<< (y &&& 31)) :: st) hp Q := rw_go hd rfl
theorem o_ishr {x y : Int32} (hd : decode M.2.1 pc = .ok (.ishr, 1)) : rw_ k M pc ls (.int y :: .int x :: st) hp Q ↔ rw_ k M (pc + 1) ls (.int (x >>> (y &&& 31)) :: st) hp Q := rw_go hd rfl
theorem o_iushr {x y : Int32} (hd : decode M.2.1 pc = .ok (.iushr, 1)) : rw_ k M pc ls (.int y :: .int x :: st) hp Q ↔ rw_ k M (pc + 1) ls (.int (x.toUInt32 >>> (y.toUInt32 &&& Int32.toUInt32 31)).toInt32 :: st) hp Q := rw_go hd rfl
theorem o_idiv {x y : Int32} (hd : decode M.2.1 pc = .ok (.idiv, 1)) (h : ¬ y = 0) : rw_ k M pc ls (.int y :: .int x :: st) hp Q ↔ rw_ k M (pc + 1) ls (.int (x / y) :: st) hp Q := by
  refine rw_go hd ?_
  simp [pm_st, pm_div, h]
theorem o_irem {x y : Int32} (hd : decode M.2.1 pc = .ok (.irem, 1)) (h : ¬ y = 0) : rw_ k M pc ls (.int y :: .int x :: st) hp Q ↔ rw_ k M (pc + 1) ls (.int (x - x / y * y) :: st) hp Q := by
  refine rw_go hd ?_
  simp [pm_st, pm_div, h]
theorem o_dup {v : Value} (hd : decode M.2.1 pc = .ok (.dup, 1)) (hv : v.category = 1) : rw_ k M pc ls (v :: st) hp Q ↔ rw_ k M (pc + 1) ls (v :: v :: st) hp Q := by
  refine rw_go hd ?_
  simp [pm_st, pm_dup, hv]
theorem o_pop {v : Value} (hd : decode M.2.1 pc = .ok (.pop, 1)) (hv : v.category = 1) : rw_ k M pc ls (v :: st) hp Q ↔ rw_ k M (pc + 1) ls st hp Q := by
  refine rw_go hd ?_
  simp [pm_st, pm_pop, hv]
theorem o_dup2 {v w : Value} (hd : decode M.2.1 pc = .ok (.dup2, 1)) (hv : v.category = 1) (hw : w.category = 1) : rw_ k M pc ls (v :: w :: st) hp Q ↔ rw_ k M (pc + 1) ls (v :: w :: v :: w :: st) hp Q := by
  refine rw_go hd ?_
  simp [pm_st, pm_dup2, hv, hw]
theorem pm_go_eq {off : Int} {tgt : Nat} (ht : (pc : Int) + off = (tgt : Int)) : pm_go off pc ls st hp = some (tgt, ls, st, hp) := by
  unfold pm_go
  rw [ht, if_pos (Int.natCast_nonneg tgt), Int.toNat_natCast]
theorem o_goto {off : Int} {tgt : Nat} (hd : decode M.2.1 pc = .ok (.goto off, 3)) (ht : (pc : Int) + off = (tgt : Int)) : rw_ k M pc ls st hp Q ↔ rw_ k M tgt ls st hp Q := by
  refine rw_go hd ?_
  simp [pm_st, pm_go_eq ht]
theorem o_if2 {c : Jvm.ClassFile.Cond} {off : Int} {tgt : Nat} {x y : Int32} (hd : decode M.2.1 pc = .ok (.if_icmp c off, 3)) (ht : (pc : Int) + off = (tgt : Int)) : rw_ k M pc ls (.int y :: .int x :: st) hp Q ↔ if pm_cmp c x y = true then rw_ k M tgt ls st hp Q else rw_ k M (pc + 3) ls st hp Q := by
  split
  · rename_i h
    (refine rw_go hd ?_; simp [pm_st, pm_if2, pm_go_eq ht, h])
  · rename_i h
    (refine rw_go hd ?_; simp [pm_st, pm_if2, pm_go_eq ht, h])
theorem o_if1 {c : Jvm.ClassFile.Cond} {off : Int} {tgt : Nat} {x : Int32} (hd : decode M.2.1 pc = .ok (.ifCond c off, 3)) (ht : (pc : Int) + off = (tgt : Int)) : rw_ k M pc ls (.int x :: st) hp Q ↔ if pm_cmp c x 0 = true then rw_ k M tgt ls st hp Q else rw_ k M (pc + 3) ls st hp Q := by
  split
  · rename_i h
    (refine rw_go hd ?_; simp [pm_st, pm_if1, pm_go_eq ht, h])
  · rename_i h
    (refine rw_go hd ?_; simp [pm_st, pm_if1, pm_go_eq ht, h])
theorem o_ite {p : Bool} {q : Prop} {d : Decidable q} {a b : Prop} (h : p = decide q) : (if p = true then a else b) ↔ (if q then a else b) := by
  subst h
  by_cases hq : q <;> simp [hq]
theorem o_icmp_eq {off : Int} {tgt : Nat} {x y : Int32} (hd : decode M.2.1 pc = .ok (.if_icmp .eq off, 3)) (ht : (pc : Int) + off = (tgt : Int)) : rw_ k M pc ls (.int y :: .int x :: st) hp Q ↔ if x = y then rw_ k M tgt ls st hp Q else rw_ k M (pc + 3) ls st hp Q := (o_if2 hd ht).trans (o_ite rfl)
theorem o_icmp_ne {off : Int} {tgt : Nat} {x y : Int32} (hd : decode M.2.1 pc = .ok (.if_icmp .ne off, 3)) (ht : (pc : Int) + off = (tgt : Int)) : rw_ k M pc ls (.int y :: .int x :: st) hp Q ↔ if x = y then rw_ k M (pc + 3) ls st hp Q else rw_ k M tgt ls st hp Q := (o_if2 hd ht).trans ((o_ite (q := ¬ x = y) rfl).trans (by by_cases h : x = y <;> simp [h]))
theorem o_icmp_lt {off : Int} {tgt : Nat} {x y : Int32} (hd : decode M.2.1 pc = .ok (.if_icmp .lt off, 3)) (ht : (pc : Int) + off = (tgt : Int)) : rw_ k M pc ls (.int y :: .int x :: st) hp Q ↔ if x < y then rw_ k M tgt ls st hp Q else rw_ k M (pc + 3) ls st hp Q := (o_if2 hd ht).trans (o_ite rfl)
theorem o_icmp_ge {off : Int} {tgt : Nat} {x y : Int32} (hd : decode M.2.1 pc = .ok (.if_icmp .ge off, 3)) (ht : (pc : Int) + off = (tgt : Int)) : rw_ k M pc ls (.int y :: .int x :: st) hp Q ↔ if y ≤ x then rw_ k M tgt ls st hp Q else rw_ k M (pc + 3) ls st hp Q := (o_if2 hd ht).trans (o_ite rfl)
theorem o_icmp_gt {off : Int} {tgt : Nat} {x y : Int32} (hd : decode M.2.1 pc = .ok (.if_icmp .gt off, 3)) (ht : (pc : Int) + off = (tgt : Int)) : rw_ k M pc ls (.int y :: .int x :: st) hp Q ↔ if y < x then rw_ k M tgt ls st hp Q else rw_ k M (pc + 3) ls st hp Q := (o_if2 hd ht).trans (o_ite rfl)
theorem o_icmp_le {off : Int} {tgt : Nat} {x y : Int32} (hd : decode M.2.1 pc = .ok (.if_icmp .le off, 3)) (ht : (pc : Int) + off = (tgt : Int)) : rw_ k M pc ls (.int y :: .int x :: st) hp Q ↔ if x ≤ y then rw_ k M tgt ls st hp Q else rw_ k M (pc + 3) ls st hp Q := (o_if2 hd ht).trans (o_ite rfl)
theorem o_if_eq {off : Int} {tgt : Nat} {x : Int32} (hd : decode M.2.1 pc = .ok (.ifCond .eq off, 3)) (ht : (pc : Int) + off = (tgt : Int)) : rw_ k M pc ls (.int x :: st) hp Q ↔ if x = nI 0 then rw_ k M tgt ls st hp Q else rw_ k M (pc + 3) ls st hp Q := (o_if1 hd ht).trans (o_ite rfl)
theorem o_if_ne {off : Int} {tgt : Nat} {x : Int32} (hd : decode M.2.1 pc = .ok (.ifCond .ne off, 3)) (ht : (pc : Int) + off = (tgt : Int)) : rw_ k M pc ls (.int x :: st) hp Q ↔ if x = nI 0 then rw_ k M (pc + 3) ls st hp Q else rw_ k M tgt ls st hp Q := (o_if1 hd ht).trans ((o_ite (q := ¬ x = nI 0) rfl).trans (by by_cases h : x = nI 0 <;> simp [h]))
theorem o_if_lt {off : Int} {tgt : Nat} {x : Int32} (hd : decode M.2.1 pc = .ok (.ifCond .lt off, 3)) (ht : (pc : Int) + off = (tgt : Int)) : rw_ k M pc ls (.int x :: st) hp Q ↔ if x < nI 0 then rw_ k M tgt ls st hp Q else rw_ k M (pc + 3) ls st hp Q := (o_if1 hd ht).trans (o_ite rfl)
theorem o_if_ge {off : Int} {tgt : Nat} {x : Int32} (hd : decode M.2.1 pc = .ok (.ifCond .ge off, 3)) (ht : (pc : Int) + off = (tgt : Int)) : rw_ k M pc ls (.int x :: st) hp Q ↔ if nI 0 ≤ x then rw_ k M tgt ls st hp Q else rw_ k M (pc + 3) ls st hp Q := (o_if1 hd ht).trans (o_ite rfl)
theorem o_if_gt {off : Int} {tgt : Nat} {x : Int32} (hd : decode M.2.1 pc = .ok (.ifCond .gt off, 3)) (ht : (pc : Int) + off = (tgt : Int)) : rw_ k M pc ls (.int x :: st) hp Q ↔ if nI 0 < x then rw_ k M tgt ls st hp Q else rw_ k M (pc + 3) ls st hp Q := (o_if1 hd ht).trans (o_ite rfl)
theorem o_if_le {off : Int} {tgt : Nat} {x : Int32} (hd : decode M.2.1 pc = .ok (.ifCond .le off, 3)) (ht : (pc : Int) + off = (tgt : Int)) : rw_ k M pc ls (.int x :: st) hp Q ↔ if x ≤ nI 0 then rw_ k M tgt ls st hp Q else rw_ k M (pc + 3) ls st hp Q := (o_if1 hd ht).trans (o_ite rfl)
theorem o_ifnull {off : Int} {a : Nat} (hd : decode M.2.1 pc = .ok (.ifnull off, 3)) : rw_ k M pc ls (.ref a :: st) hp Q ↔ rw_ k M (pc + 3) ls st hp Q := rw_go hd rfl
theorem o_ifnullN {off : Int} {tgt : Nat} (hd : decode M.2.1 pc = .ok (.ifnull off, 3)) (ht : (pc : Int) + off = (tgt : Int)) : rw_ k M pc ls (.null :: st) hp Q ↔ rw_ k M tgt ls st hp Q := by
  refine rw_go hd ?_
  simp [pm_st, pm_ifn, pm_go_eq ht]
theorem o_ifnonnull {off : Int} {tgt a : Nat} (hd : decode M.2.1 pc = .ok (.ifnonnull off, 3)) (ht : (pc : Int) + off = (tgt : Int)) : rw_ k M pc ls (.ref a :: st) hp Q ↔ rw_ k M tgt ls st hp Q := by
  refine rw_go hd ?_
  simp [pm_st, pm_ifn, pm_go_eq ht]
theorem o_ifnonnullN {off : Int} (hd : decode M.2.1 pc = .ok (.ifnonnull off, 3)) : rw_ k M pc ls (.null :: st) hp Q ↔ rw_ k M (pc + 3) ls st hp Q := rw_go hd rfl
theorem o_ireturn {x : Int32} (hd : decode M.2.1 pc = .ok (.ireturn, 1)) (hr : M.2.2.2.1 = some .int) : rw_ k M pc ls [.int x] hp Q ↔ Q (some (.int x)) hp := rw_ret hd rfl (by simp [pm_ret, hr])
theorem o_zreturn {x : Int32} (hd : decode M.2.1 pc = .ok (.ireturn, 1)) (hr : M.2.2.2.1 = some .boolean) (hx : x = nI 0 ∨ x = nI 1) : rw_ k M pc ls [.int x] hp Q ↔ Q (some (.int x)) hp := rw_ret hd rfl (by rcases hx with rfl | rfl <;> simp [pm_ret, hr] <;> decide)
theorem o_areturn {a : Nat} {C : String} (hd : decode M.2.1 pc = .ok (.areturn, 1)) (hr : M.2.2.2.1 = some (.object C)) : rw_ k M pc ls [.ref a] hp Q ↔ Q (some (.ref a)) hp := rw_ret hd rfl (by simp [pm_ret, hr])
theorem o_areturnN {C : String} (hd : decode M.2.1 pc = .ok (.areturn, 1)) (hr : M.2.2.2.1 = some (.object C)) : rw_ k M pc ls [.null] hp Q ↔ Q (some .null) hp := rw_ret hd rfl (by simp [pm_ret, hr])
theorem o_return (hd : decode M.2.1 pc = .ok (.return_, 1)) (hr : M.2.2.2.1 = none) : rw_ k M pc ls [] hp Q ↔ Q none hp := rw_ret hd rfl (by simp [pm_ret, hr])
theorem o_oinit {idx a : Nat} (hd : decode M.2.1 pc = .ok (.invokespecial idx, 3)) (ho : pm_oi M.2.2.2.2.1 idx = true) (hc : pm_cat st ≤ 8) : rw_ (k + 1) M pc ls (.ref a :: st) hp Q ↔ rw_ (k + 1) M (pc + 3) ls st hp Q := by
  refine rw_go hd ?_
  simp [pm_st, pm_oinit, ho, hc]
theorem o_max {idx : Nat} {x y : Int32} (hd : decode M.2.1 pc = .ok (.invokestatic idx, 3)) (ho : pm_mx M.2.2.2.2.1 idx = some true) (hc : pm_cat st ≤ 8) : rw_ (k + 1) M pc ls (.int y :: .int x :: st) hp Q ↔ rw_ (k + 1) M (pc + 3) ls (.int (if x < y then y else x) :: st) hp Q := by
  refine rw_go hd ?_
  simp [pm_st, pm_mm, ho, hc]
theorem o_min {idx : Nat} {x y : Int32} (hd : decode M.2.1 pc = .ok (.invokestatic idx, 3)) (ho : pm_mx M.2.2.2.2.1 idx = some false) (hc : pm_cat st ≤ 8) : rw_ (k + 1) M pc ls (.int y :: .int x :: st) hp Q ↔ rw_ (k + 1) M (pc + 3) ls (.int (if y < x then y else x) :: st) hp Q := by
  refine rw_go hd ?_
  simp [pm_st, pm_mm, ho, hc]
theorem o_tswIn {dflt lo hi off : Int} {offs : Array Int} {len tgt : Nat} {x : Int32} (hd : decode M.2.1 pc = .ok (.tableswitch dflt lo hi offs, len)) (h1 : ¬ x.toInt < lo) (h2 : ¬ hi < x.toInt) (ho : offs[(x.toInt - lo).toNat]? = some off) (ht : (pc : Int) + off = (tgt : Int)) : rw_ k M pc ls (.int x :: st) hp Q ↔ rw_ k M tgt ls st hp Q := by
  refine rw_go hd ?_
  simp [pm_st, pm_tsw, h1, h2, ho, pm_go_eq ht]
theorem o_tswOut {dflt lo hi : Int} {offs : Array Int} {len tgt : Nat} {x : Int32} (hd : decode M.2.1 pc = .ok (.tableswitch dflt lo hi offs, len)) (h : x.toInt < lo ∨ hi < x.toInt) (ht : (pc : Int) + dflt = (tgt : Int)) : rw_ k M pc ls (.int x :: st) hp Q ↔ rw_ k M tgt ls st hp Q := by
  refine rw_go hd ?_
  simp [pm_st, pm_tsw, h, pm_go_eq ht]
theorem o_lsw {dflt off : Int} {ps : Array (Int × Int)} {len tgt : Nat} {x : Int32} (hd : decode M.2.1 pc = .ok (.lookupswitch dflt ps, len)) (hp0 : (ps.toList.zip (ps.toList.drop 1)).all (fun (a, next) => a.1 < next.1) = true) (ho : Op.lookupswitch.offset ps.toList dflt x.toInt = off) (ht : (pc : Int) + off = (tgt : Int)) : rw_ k M pc ls (.int x :: st) hp Q ↔ rw_ k M tgt ls st hp Q := by
  refine rw_go hd ?_
  show pm_lsw dflt ps pc ls (.int x :: st) hp = _
  unfold pm_lsw
  dsimp only
  rw [if_pos hp0, ho, pm_go_eq ht]
/-- calls -/
theorem o_callV {idx nest b : Nat} {M' : pm_M} {As rest : List Value} (hd : decode M.2.1 pc = .ok (.invokevirtual idx, 3)) (hm : pm_ml M.2.2.2.2.1 idx = some (M', 0, nest)) (ha : pm_args M'.2.2.2.2.2 st = some (.ref b :: As, rest)) (hr : pm_rcv M'.2.2.2.2.1 (.ref b :: As) hp = true) : rw_ (k + 1) M pc ls st hp Q ↔ rc_ k M' (.ref b :: As) hp (fun r hp' => rw_ (k + 1) M (pc + 3) ls (r.toList ++ rest) hp' Q) := rw_call hd rfl rfl (by simp [pm_inv, hm, ha, hr])
theorem o_callS {idx nest : Nat} {M' : pm_M} {As rest : List Value} (hd : decode M.2.1 pc = .ok (.invokestatic idx, 3)) (hn : pm_mx M.2.2.2.2.1 idx = none) (hm : pm_ml M.2.2.2.2.1 idx = some (M', 1, nest)) (ha : pm_args M'.2.2.2.2.2 st = some (As, rest)) : rw_ (k + 1) M pc ls st hp Q ↔ rc_ k M' As hp (fun r hp' => rw_ (k + 1) M (pc + 3) ls (r.toList ++ rest) hp' Q) := by
  refine rw_call hd ?_ rfl (by simp [pm_inv, hm, ha])
  show pm_mm (k + 1) M.2.2.2.2.1 idx pc ls st hp = none
  unfold pm_mm
  split
  · simp [hn]
  · rfl
theorem o_callI {idx nest b : Nat} {M' : pm_M} {As rest : List Value} (hd : decode M.2.1 pc = .ok (.invokespecial idx, 3)) (hn : pm_oi M.2.2.2.2.1 idx = false) (hm : pm_ml M.2.2.2.2.1 idx = some (M', 2, nest)) (ha : pm_args M'.2.2.2.2.2 st = some (.ref b :: As, rest)) : rw_ (k + 1) M pc ls st hp Q ↔ rc_ k M' (.ref b :: As) hp (fun r hp' => rw_ (k + 1) M (pc + 3) ls (r.toList ++ rest) hp' Q) := by
  refine rw_call hd ?_ rfl (by simp [pm_inv, hm, ha, pm_isr])
  show pm_oinit (k + 1) M.2.2.2.2.1 idx pc ls st hp = none
  unfold pm_oinit
  split
  · simp [hn]
  · rfl
/-- the heap -/
theorem pm_rcv_o {n u : Nat} {sh : hs_} {F : hF_} {R : hR_} {A : hF_} {B : hR_} {b ci : Nat} {As : List Value} (h : sh b = some (0, ci, 0)) : pm_rcv ci (.ref b :: As) (mkh n u sh F R A B) = true := by simp [pm_rcv, mkh_o h]
variable {n u : Nat} {sh : hs_} {F : hF_} {R : hR_} {A : hF_} {B : hR_} {a : Nat}
theorem o_getI {idx ci kf nest key : Nat} (hd : decode M.2.1 pc = .ok (.getfield idx, 3)) (hf : pm_fl M.2.2.2.2.1 idx = some (ci, kf, nest)) (hk : kf < pm_N ci) (hI : pm_isI (pm_ty ci kf) = true) (hkey : 100 * ci + kf = key) (h : sh a = some (0, ci, 0)) : rw_ k M pc ls (.ref a :: st) (mkh n u sh F R A B) Q ↔ rw_ k M (pc + 3) ls (.int (F key a) :: st) (mkh n u sh F R A B) Q := by
  subst hkey
  (refine rw_go hd ?_; simp [pm_st, pm_getf, hf, mkh_o h, pm_fs_get hk, pm_fv, hI])
theorem o_getR {idx ci kf nest key : Nat} (hd : decode M.2.1 pc = .ok (.getfield idx, 3)) (hf : pm_fl M.2.2.2.2.1 idx = some (ci, kf, nest)) (hk : kf < pm_N ci) (hI : pm_isI (pm_ty ci kf) = false) (hkey : 100 * ci + kf = key) (h : sh a = some (0, ci, 0)) : rw_ k M pc ls (.ref a :: st) (mkh n u sh F R A B) Q ↔ rw_ k M (pc + 3) ls (va_rf (R key a) :: st) (mkh n u sh F R A B) Q := by
  subst hkey
  (refine rw_go hd ?_; simp [pm_st, pm_getf, hf, mkh_o h, pm_fs_get hk, pm_fv, hI])
theorem o_putX {idx ci kf nest : Nat} {v : Value} (hd : decode M.2.1 pc = .ok (.putfield idx, 3)) (hf : pm_fl M.2.2.2.2.1 idx = some (ci, kf, nest)) (hk : kf < pm_N ci) (hv : pm_fit (pm_ty ci kf) v = true) (hw : (pm_T ci kf).2.2.2 = false ∨ (nest = 0 ∧ M.2.2.2.2.1 = ci ∧ M.1.name = "<init>")) (h : sh a = some (0, ci, 0)) : rw_ k M pc ls (v :: .ref a :: st) (mkh n u sh F R A B) Q ↔ rw_ k M (pc + 3) ls st (n, u, pm_up (mkh n u sh F R A B).2.2 a (.inr (.inr (ci, (pm_fs ci a F R).set kf v)))) Q := by
  refine rw_go hd ?_
  show pm_putf M idx pc ls (v :: .ref a :: st) (mkh n u sh F R A B) = _
  unfold pm_putf
  dsimp only
  rw [hf, mkh_o h]
  dsimp only
  rw [if_pos ⟨rfl, by rw [pm_fs_len]; exact hk, hv, hw⟩]
  rfl
theorem o_putI {idx ci kf nest key : Nat} {x : Int32} (hd : decode M.2.1 pc = .ok (.putfield idx, 3)) (hf : pm_fl M.2.2.2.2.1 idx = some (ci, kf, nest)) (hk : kf < pm_N ci) (hI : pm_ty ci kf = .int) (hw : (pm_T ci kf).2.2.2 = false ∨ (nest = 0 ∧ M.2.2.2.2.1 = ci ∧ M.1.name = "<init>")) (hkey : 100 * ci + kf = key) (h : sh a = some (0, ci, 0)) : rw_ k M pc ls (.int x :: .ref a :: st) (mkh n u sh F R A B) Q ↔ rw_ k M (pc + 3) ls st (mkh n u sh (up2 F key a x) R A B) Q := by
  subst hkey
  rw [o_putX hd hf hk (by rw [hI]; simp [pm_fit, narrow, fits]) hw h, mkh_setF h hk (by rw [hI]; rfl)]
theorem o_putZ {idx ci kf nest key : Nat} {x : Int32} (hd : decode M.2.1 pc = .ok (.putfield idx, 3)) (hf : pm_fl M.2.2.2.2.1 idx = some (ci, kf, nest)) (hk : kf < pm_N ci) (hI : pm_ty ci kf = .boolean) (hw : (pm_T ci kf).2.2.2 = false ∨ (nest = 0 ∧ M.2.2.2.2.1 = ci ∧ M.1.name = "<init>")) (hkey : 100 * ci + kf = key) (h : sh a = some (0, ci, 0)) (hx : x = nI 0 ∨ x = nI 1) : rw_ k M pc ls (.int x :: .ref a :: st) (mkh n u sh F R A B) Q ↔ rw_ k M (pc + 3) ls st (mkh n u sh (up2 F key a x) R A B) Q := by
  subst hkey
  rw [o_putX hd hf hk (by rw [hI]; rcases hx with rfl | rfl <;> decide) hw h, mkh_setF h hk (by rw [hI]; rfl)]
theorem o_putR {idx ci kf nest key b : Nat} (hd : decode M.2.1 pc = .ok (.putfield idx, 3)) (hf : pm_fl M.2.2.2.2.1 idx = some (ci, kf, nest)) (hk : kf < pm_N ci) (hI : pm_isI (pm_ty ci kf) = false) (hv : ∀ b, pm_fit (pm_ty ci kf) (.ref b) = true) (hw : (pm_T ci kf).2.2.2 = false ∨ (nest = 0 ∧ M.2.2.2.2.1 = ci ∧ M.1.name = "<init>")) (hkey : 100 * ci + kf = key) (h : sh a = some (0, ci, 0)) : rw_ k M pc ls (.ref b :: .ref a :: st) (mkh n u sh F R A B) Q ↔ rw_ k M (pc + 3) ls st (mkh n u sh F (up2 R key a (some b)) A B) Q := by
  subst hkey
  rw [o_putX hd hf hk (hv b) hw h]
  have := mkh_setR (n := n) (u := u) (F := F) (R := R) (A := A) (B := B) (x := some b) h hk hI
  rw [show va_rf (some b) = .ref b from rfl] at this
  rw [this]
theorem o_iald {t z j : Nat} (hd : decode M.2.1 pc = .ok (.iaload, 1)) (h : sh a = some (1, t, z)) (ht : ¬ t = 1) (hj : j < z) (hz : z < 2 ^ 31) : rw_ k M pc ls (.int (nI j) :: .ref a :: st) (mkh n u sh F R A B) Q ↔ rw_ k M (pc + 1) ls (.int (A a j) :: st) (mkh n u sh F R A B) Q := by
  refine rw_go hd ?_
  show pm_iald false pc ls (.int (nI j) :: .ref a :: st) (mkh n u sh F R A B) = _
  unfold pm_iald
  dsimp only
  rw [mkh_i h]
  dsimp only
  rw [if_pos ⟨by simp [ht], vp_in_nI hj hz⟩, nI_clamp (by omega)]
theorem o_bald {z j : Nat} (hd : decode M.2.1 pc = .ok (.baload, 1)) (h : sh a = some (1, 1, z)) (hj : j < z) (hz : z < 2 ^ 31) : rw_ k M pc ls (.int (nI j) :: .ref a :: st) (mkh n u sh F R A B) Q ↔ rw_ k M (pc + 1) ls (.int (A a j) :: st) (mkh n u sh F R A B) Q := by
  refine rw_go hd ?_
  show pm_iald true pc ls (.int (nI j) :: .ref a :: st) (mkh n u sh F R A B) = _
  unfold pm_iald
  dsimp only
  rw [mkh_i h]
  dsimp only
  rw [if_pos ⟨by simp, vp_in_nI hj hz⟩, nI_clamp (by omega)]
theorem o_iast {z j : Nat} {x : Int32} (hd : decode M.2.1 pc = .ok (.iastore, 1)) (h : sh a = some (1, 0, z)) (hj : j < z) (hz : z < 2 ^ 31) : rw_ k M pc ls (.int x :: .int (nI j) :: .ref a :: st) (mkh n u sh F R A B) Q ↔ rw_ k M (pc + 1) ls st (mkh n u sh F R (up2 A a j x) B) Q := by
  refine rw_go hd ?_
  show pm_iast false pc ls (.int x :: .int (nI j) :: .ref a :: st) (mkh n u sh F R A B) = _
  unfold pm_iast
  dsimp only
  rw [mkh_i h]
  dsimp only
  rw [if_pos ⟨by simp, vp_in_nI hj hz⟩, nI_clamp (by omega), if_neg (by decide), ← mkh_setA h]
  rfl
theorem o_bast {z j : Nat} {x : Int32} (hd : decode M.2.1 pc = .ok (.bastore, 1)) (h : sh a = some (1, 1, z)) (hj : j < z) (hz : z < 2 ^ 31) (hx : x = nI 0 ∨ x = nI 1) : rw_ k M pc ls (.int x :: .int (nI j) :: .ref a :: st) (mkh n u sh F R A B) Q ↔ rw_ k M (pc + 1) ls st (mkh n u sh F R (up2 A a j x) B) Q := by
  have hn : vp_nar .boolean x = x := by rcases hx with rfl | rfl <;> decide
  refine rw_go hd ?_
  show pm_iast true pc ls (.int x :: .int (nI j) :: .ref a :: st) (mkh n u sh F R A B) = _
  unfold pm_iast
  dsimp only
  rw [mkh_i h]
  dsimp only
  rw [if_pos ⟨by simp, vp_in_nI hj hz⟩, nI_clamp (by omega), if_pos rfl, hn, ← mkh_setA h]
  rfl
theorem o_aald {ci z j : Nat} (hd : decode M.2.1 pc = .ok (.aaload, 1)) (h : sh a = some (2, ci, z)) (hj : j < z) (hz : z < 2 ^ 31) : rw_ k M pc ls (.int (nI j) :: .ref a :: st) (mkh n u sh F R A B) Q ↔ rw_ k M (pc + 1) ls (va_rf (B a j) :: st) (mkh n u sh F R A B) Q := by
  refine rw_go hd ?_
  show pm_aald pc ls (.int (nI j) :: .ref a :: st) (mkh n u sh F R A B) = _
  unfold pm_aald
  dsimp only
  rw [mkh_r h]
  dsimp only
  rw [if_pos (show ¬ (nI j < 0 ∨ z ≤ (nI j).toNatClampNeg) from vp_in_nI hj hz), nI_clamp (by omega)]
theorem o_aast {ci z j v : Nat} (hd : decode M.2.1 pc = .ok (.aastore, 1)) (h : sh a = some (2, ci, z)) (hv : sh v = some (0, ci, 0)) (hj : j < z) (hz : z < 2 ^ 31) : rw_ k M pc ls (.ref v :: .int (nI j) :: .ref a :: st) (mkh n u sh F R A B) Q ↔ rw_ k M (pc + 1) ls st (mkh n u sh F R A (up2 B a j (some v))) Q := by
  refine rw_go hd ?_
  show pm_aast pc ls (.ref v :: .int (nI j) :: .ref a :: st) (mkh n u sh F R A B) = _
  unfold pm_aast
  dsimp only
  rw [mkh_r h, mkh_o hv]
  dsimp only
  rw [if_pos ⟨rfl, vp_in_nI hj hz⟩, nI_clamp (by omega), ← mkh_setB h]
  rfl
theorem o_alenI {t z : Nat} (hd : decode M.2.1 pc = .ok (.arraylength, 1)) (h : sh a = some (1, t, z)) : rw_ k M pc ls (.ref a :: st) (mkh n u sh F R A B) Q ↔ rw_ k M (pc + 1) ls (.int (nI z) :: st) (mkh n u sh F R A B) Q := by
  refine rw_go hd ?_
  show pm_alen pc ls (.ref a :: st) (mkh n u sh F R A B) = _
  unfold pm_alen
  dsimp only
  rw [mkh_i h]
  rfl
/-- new cells -/
def up1 {α : Type} (f : Nat → α) (a : Nat) (v : α) : Nat → α := fun q => if q = a then v else f q
theorem up1_eq {α : Type} {f : Nat → α} {a : Nat} {v : α} : up1 f a v a = v := by simp [up1]
theorem up1_ne {α : Type} {f : Nat → α} {a q : Nat} {v : α} (h : q ≠ a) : up1 f a v q = f q := by simp [up1, h]
/-- all keys of an address anew -/
def zap {α : Type} (F : Nat → Nat → α) (a : Nat) (v : α) : Nat → Nat → α := fun k q => if q = a then v else F k q
theorem zap_eq {α : Type} {F : Nat → Nat → α} {k a : Nat} {v : α} : zap F a v k a = v := by simp [zap]
theorem zap_ne {α : Type} {F : Nat → Nat → α} {k a q : Nat} {v : α} (h : q ≠ a) : zap F a v k q = F k q := by simp [zap, h]
theorem pm_df_fs {ci : Nat} (h : ci < 13) : pm_df ci = pm_fs ci a (zap F a 0) (zap R a none) := by
  unfold pm_fs
  simp only [zap_eq]
  match ci, h with
  | 0, _ => rfl
  | 1, _ => rfl
  | 2, _ => rfl
  | 3, _ => rfl
  | 4, _ => rfl
  | 5, _ => rfl
  | 6, _ => rfl
  | 7, _ => rfl
  | 8, _ => rfl
  | 9, _ => rfl
  | 10, _ => rfl
  | 11, _ => rfl
  | 12, _ => rfl
  | n + 13, h => exact absurd h (by omega)
theorem pm_fs_zap {ci b : Nat} (h : b ≠ a) : pm_fs ci b (zap F a 0) (zap R a none) = pm_fs ci b F R := by
  unfold pm_fs
  congr 1
  funext j
  rw [zap_ne h, zap_ne h]
theorem o_new {idx ci : Nat} (hd : decode M.2.1 pc = .ok (.new idx, 3)) (hc : pm_cl M.2.2.2.2.1 idx = some ci) : rw_ k M pc ls st (mkh n u sh F R A B) Q ↔ rw_ k M (pc + 3) ls (.ref n :: st) (mkh (n + 1) (u + pm_N ci) (up1 sh n (some (0, ci, 0))) (zap F n 0) (zap R n none) A B) Q := by
  refine rw_go hd ?_
  show pm_new M.2.2.2.2.1 idx pc ls st (mkh n u sh F R A B) = _
  unfold pm_new
  rw [hc]
  dsimp only
  congr 5
  unfold mkh
  dsimp only
  congr 2
  funext b
  unfold pm_up
  by_cases e : b = n
  · subst e
    rw [if_pos rfl, up1_eq]
    unfold pm_ce
    dsimp only
    rw [pm_df_fs (F := F) (R := R) (a := b) (pm_cl_ok hc).1]
    rfl
  · rw [if_neg e, up1_ne e]
    dsimp only
    split
    · rename_i s hs
      unfold pm_ce
      split
      · rw [pm_fs_zap e]
      · rfl
      · rfl
    · rfl
theorem o_newa {j t : Nat} {ty : ArrayType} (hd : decode M.2.1 pc = .ok (.newarray ty, 2)) (hty : (t = 0 ∧ ty = .int) ∨ (t = 1 ∧ ty = .boolean)) (hj : j ≤ 134217728) : rw_ k M pc ls (.int (nI j) :: st) (mkh n u sh F R A B) Q ↔ rw_ k M (pc + 2) ls (.ref n :: st) (mkh (n + 1) (u + j) (up1 sh n (some (1, t, j))) F R (up1 A n (fun _ => 0)) B) Q := by
  refine rw_go hd ?_
  have h1 : pm_st k M (.newarray ty) 2 pc ls (.int (nI j) :: st) (mkh n u sh F R A B) = pm_newa t pc ls (.int (nI j) :: st) (mkh n u sh F R A B) := by rcases hty with ⟨rfl, rfl⟩ | ⟨rfl, rfl⟩ <;> rfl
  rw [h1]
  unfold pm_newa
  dsimp only
  rw [nI_clamp (by omega), if_pos ⟨nI_pos (by omega), by omega⟩]
  congr 5
  unfold mkh
  dsimp only
  congr 2
  funext b
  unfold pm_up
  by_cases e : b = n
  · subst e
    rw [if_pos rfl, up1_eq]
    unfold pm_ce
    dsimp only
    rw [up1_eq]
    rfl
  · rw [if_neg e, up1_ne e]
    dsimp only
    split
    · rename_i s hs
      unfold pm_ce
      split
      · rfl
      · rw [up1_ne e]
      · rfl
    · rfl
theorem o_anew {j idx ci : Nat} (hd : decode M.2.1 pc = .ok (.anewarray idx, 3)) (hc : pm_cl M.2.2.2.2.1 idx = some ci) (hci : ci < 4) (hj : j ≤ 134217728) : rw_ k M pc ls (.int (nI j) :: st) (mkh n u sh F R A B) Q ↔ rw_ k M (pc + 3) ls (.ref n :: st) (mkh (n + 1) (u + j) (up1 sh n (some (2, ci, j))) F R A (up1 B n (fun _ => none))) Q := by
  refine rw_go hd ?_
  show pm_anew M.2.2.2.2.1 idx pc ls (.int (nI j) :: st) (mkh n u sh F R A B) = _
  unfold pm_anew
  rw [hc]
  dsimp only
  rw [nI_clamp (by omega), if_pos ⟨hci, nI_pos (by omega), by omega⟩]
  congr 5
  unfold mkh
  dsimp only
  congr 2
  funext b
  unfold pm_up
  by_cases e : b = n
  · subst e
    rw [if_pos rfl, up1_eq]
    unfold pm_ce
    dsimp only
    rw [up1_eq]
    rfl
  · rw [if_neg e, up1_ne e]
    dsimp only
    split
    · rename_i s hs
      unfold pm_ce
      split
      · rfl
      · rfl
      · rw [up1_ne e]
    · rfl
end OPS
