/-! ===== a run of the pure machine is a run of the machine ===== -/
section PMS
variable {p : Program} {l : Launch} {e : Env} {R : Room} {s : State} {m : MethodId} {args : Array Value} {below : List Frame} {meth : Method} {c : Code} {Q : State → Prop} {w : pm_W} {M : pm_M} {k pc n0 u0 : Nat} {ls st : List Value} {hp : pm_H} {q : pm_S}
theorem pm_if_ok {α : Type} {b : Prop} {d : Decidable b} {x : Option α} {y : α} (h : (@ite _ b d x none) = some y) : b ∧ x = some y := by
  split at h
  · rename_i hb
    exact ⟨hb, h⟩
  · cases h
theorem pm_go_mono {off : Int} (h : pm_go off pc ls st hp = some q) : q.2.2.2 = hp := by
  obtain ⟨t, -, rfl⟩ := pm_go_ok h
  rfl
theorem pm_step (C : pm_Ctx w M p s m args meth c) (hR1 : R.frames = k) (hR2 : 37 * k ≤ R.locals) {i : Instr} {len : Nat} (hd : decode M.2.1 pc = .ok (i, len)) (h : pm_st k M i len pc ls st hp = some q) (hn0 : n0 ≤ hp.1) (hu0 : u0 ≤ hp.2.1) (hc0 : hp.1 - n0 ≤ R.cells) (hs0 : hp.2.1 - u0 ≤ R.slots) (hc : q.2.2.2.1 - n0 ≤ R.cells) (hs : q.2.2.2.2.1 - u0 ≤ R.slots) (kk : pm_Go p l e R s m args below meth c Q w n0 u0 q) : pm_Go p l e R s m args below meth c Q w n0 u0 (pc, ls, st, hp) := by
  unfold pm_st at h
  split at h
  · obtain ⟨rfl, h⟩ := pm_if_ok h
    exact pm_g_aload_n C hd h kk
  · obtain ⟨rfl, h⟩ := pm_if_ok h
    exact pm_g_aload C hd h kk
  · obtain ⟨rfl, h⟩ := pm_if_ok h
    exact pm_g_iload_n C hd h kk
  · obtain ⟨rfl, h⟩ := pm_if_ok h
    exact pm_g_iload C hd h kk
  · obtain ⟨rfl, h⟩ := pm_if_ok h
    exact pm_g_istore_n C hd h kk
  · obtain ⟨rfl, h⟩ := pm_if_ok h
    exact pm_g_istore C hd h kk
  · obtain ⟨rfl, h⟩ := pm_if_ok h
    exact pm_g_astore_n C hd h kk
  · obtain ⟨rfl, h⟩ := pm_if_ok h
    exact pm_g_astore C hd h kk
  · obtain ⟨rfl, h⟩ := pm_if_ok h
    exact pm_g_iconst C hd h kk
  · obtain ⟨rfl, h⟩ := pm_if_ok h
    exact pm_g_bipush C hd h kk
  · obtain ⟨rfl, h⟩ := pm_if_ok h
    exact pm_g_sipush C hd h kk
  · obtain ⟨rfl, h2⟩ := pm_if_ok h
    split at h2
    · rename_i v hv
      exact pm_g_ldc C hv hd h2 kk
    · cases h2
  · obtain ⟨rfl, h⟩ := pm_if_ok h
    exact pm_g_null C hd h kk
  · obtain ⟨rfl, h⟩ := pm_if_ok h
    exact pm_g_iadd C hd h kk
  · obtain ⟨rfl, h⟩ := pm_if_ok h
    exact pm_g_isub C hd h kk
  · obtain ⟨rfl, h⟩ := pm_if_ok h
    exact pm_g_imul C hd h kk
  · obtain ⟨rfl, h⟩ := pm_if_ok h
    exact pm_g_iand C hd h kk
  · obtain ⟨rfl, h⟩ := pm_if_ok h
    exact pm_g_ior C hd h kk
  · obtain ⟨rfl, h⟩ := pm_if_ok h
    exact pm_g_ishl C hd h kk
  · obtain ⟨rfl, h⟩ := pm_if_ok h
    exact pm_g_ishr C hd h kk
  · obtain ⟨rfl, h⟩ := pm_if_ok h
    exact pm_g_iushr C hd h kk
  · obtain ⟨rfl, h⟩ := pm_if_ok h
    exact pm_g_idiv C hd h kk
  · obtain ⟨rfl, h⟩ := pm_if_ok h
    exact pm_g_irem C hd h kk
  · obtain ⟨rfl, h⟩ := pm_if_ok h
    exact pm_g_iinc C hd h kk
  · obtain ⟨rfl, h⟩ := pm_if_ok h
    exact pm_g_dup C hd h kk
  · obtain ⟨rfl, h⟩ := pm_if_ok h
    exact pm_g_dup2 C hd h kk
  · obtain ⟨rfl, h⟩ := pm_if_ok h
    exact pm_g_pop C hd h kk
  · obtain ⟨rfl, h⟩ := pm_if_ok h
    exact pm_g_goto C hd h kk
  · obtain ⟨rfl, h⟩ := pm_if_ok h
    exact pm_g_if_icmp C hd h kk
  · obtain ⟨rfl, h⟩ := pm_if_ok h
    exact pm_g_ifCond C hd h kk
  · obtain ⟨rfl, h⟩ := pm_if_ok h
    exact pm_g_ifnull C hd h kk
  · obtain ⟨rfl, h⟩ := pm_if_ok h
    exact pm_g_ifnonnull C hd h kk
  · obtain ⟨rfl, h⟩ := pm_if_ok h
    exact pm_g_getf C hd h kk
  · obtain ⟨rfl, h⟩ := pm_if_ok h
    exact pm_g_putf C hd h kk
  · obtain ⟨rfl, h⟩ := pm_if_ok h
    exact pm_g_iald C hd h kk
  · obtain ⟨rfl, h⟩ := pm_if_ok h
    exact pm_g_bald C hd h kk
  · obtain ⟨rfl, h⟩ := pm_if_ok h
    exact pm_g_iast C hd h kk
  · obtain ⟨rfl, h⟩ := pm_if_ok h
    exact pm_g_bast C hd h kk
  · obtain ⟨rfl, h⟩ := pm_if_ok h
    exact pm_g_aald C hd h kk
  · obtain ⟨rfl, h⟩ := pm_if_ok h
    exact pm_g_aast C hd h kk
  · obtain ⟨rfl, h⟩ := pm_if_ok h
    exact pm_g_alen C hd h kk
  · obtain ⟨rfl, h2⟩ := pm_if_ok h
    split at h2
    · exact pm_g_newa C 0 .int (Or.inl ⟨rfl, rfl⟩) hd h2 hn0 hu0 hc hs kk
    · exact pm_g_newa C 1 .boolean (Or.inr ⟨rfl, rfl⟩) hd h2 hn0 hu0 hc hs kk
    · cases h2
  · obtain ⟨rfl, h⟩ := pm_if_ok h
    exact pm_g_anew C hd h hn0 hu0 hc hs kk
  · obtain ⟨rfl, h⟩ := pm_if_ok h
    exact pm_g_new C hd h hn0 hu0 hc hs kk
  · obtain ⟨rfl, h⟩ := pm_if_ok h
    exact pm_g_oinit C hR1 hR2 hd h kk
  · obtain ⟨rfl, h⟩ := pm_if_ok h
    exact pm_g_mm C hR1 hR2 hc0 hs0 hd h kk
  · exact pm_g_tsw C hd h kk
  · exact pm_g_lsw C hd h kk
  · cases h
theorem pm_st_mono {i : Instr} {len : Nat} (h : pm_st k M i len pc ls st hp = some q) : hp.1 ≤ q.2.2.2.1 ∧ hp.2.1 ≤ q.2.2.2.2.1 := by
  have same : ∀ {x : pm_S}, x.2.2.2 = hp → hp.1 ≤ x.2.2.2.1 ∧ hp.2.1 ≤ x.2.2.2.2.1 := fun hx => by rw [hx]; exact ⟨Nat.le_refl _, Nat.le_refl _⟩
  unfold pm_st at h
  split at h
  · obtain ⟨-, h⟩ := pm_if_ok h
    unfold pm_aload at h
    (repeat' split at h) <;> first | (cases h; exact ⟨Nat.le_refl _, Nat.le_refl _⟩) | cases h
  · obtain ⟨-, h⟩ := pm_if_ok h
    unfold pm_aload at h
    (repeat' split at h) <;> first | (cases h; exact ⟨Nat.le_refl _, Nat.le_refl _⟩) | cases h
  · obtain ⟨-, h⟩ := pm_if_ok h
    unfold pm_iload at h
    (repeat' split at h) <;> first | (cases h; exact ⟨Nat.le_refl _, Nat.le_refl _⟩) | cases h
  · obtain ⟨-, h⟩ := pm_if_ok h
    unfold pm_iload at h
    (repeat' split at h) <;> first | (cases h; exact ⟨Nat.le_refl _, Nat.le_refl _⟩) | cases h
  · obtain ⟨-, h⟩ := pm_if_ok h
    unfold pm_istore at h
    (repeat' split at h) <;> first | (cases h; exact ⟨Nat.le_refl _, Nat.le_refl _⟩) | cases h
  · obtain ⟨-, h⟩ := pm_if_ok h
    unfold pm_istore at h
    (repeat' split at h) <;> first | (cases h; exact ⟨Nat.le_refl _, Nat.le_refl _⟩) | cases h
  · obtain ⟨-, h⟩ := pm_if_ok h
    unfold pm_astore at h
    (repeat' split at h) <;> first | (cases h; exact ⟨Nat.le_refl _, Nat.le_refl _⟩) | cases h
  · obtain ⟨-, h⟩ := pm_if_ok h
    unfold pm_astore at h
    (repeat' split at h) <;> first | (cases h; exact ⟨Nat.le_refl _, Nat.le_refl _⟩) | cases h
  · obtain ⟨-, h⟩ := pm_if_ok h
    cases h
    exact ⟨Nat.le_refl _, Nat.le_refl _⟩
  · obtain ⟨-, h⟩ := pm_if_ok h
    cases h
    exact ⟨Nat.le_refl _, Nat.le_refl _⟩
  · obtain ⟨-, h⟩ := pm_if_ok h
    cases h
    exact ⟨Nat.le_refl _, Nat.le_refl _⟩
  · obtain ⟨-, h⟩ := pm_if_ok h
    split at h
    · cases h
      exact ⟨Nat.le_refl _, Nat.le_refl _⟩
    · cases h
  · obtain ⟨-, h⟩ := pm_if_ok h
    cases h
    exact ⟨Nat.le_refl _, Nat.le_refl _⟩
  · obtain ⟨-, h⟩ := pm_if_ok h
    unfold pm_bin at h
    (repeat' split at h) <;> first | (cases h; exact ⟨Nat.le_refl _, Nat.le_refl _⟩) | cases h
  · obtain ⟨-, h⟩ := pm_if_ok h
    unfold pm_bin at h
    (repeat' split at h) <;> first | (cases h; exact ⟨Nat.le_refl _, Nat.le_refl _⟩) | cases h
  · obtain ⟨-, h⟩ := pm_if_ok h
    unfold pm_bin at h
    (repeat' split at h) <;> first | (cases h; exact ⟨Nat.le_refl _, Nat.le_refl _⟩) | cases h
  · obtain ⟨-, h⟩ := pm_if_ok h
    unfold pm_bin at h
    (repeat' split at h) <;> first | (cases h; exact ⟨Nat.le_refl _, Nat.le_refl _⟩) | cases h
  · obtain ⟨-, h⟩ := pm_if_ok h
    unfold pm_bin at h
    (repeat' split at h) <;> first | (cases h; exact ⟨Nat.le_refl _, Nat.le_refl _⟩) | cases h
  · obtain ⟨-, h⟩ := pm_if_ok h
    unfold pm_bin at h
    (repeat' split at h) <;> first | (cases h; exact ⟨Nat.le_refl _, Nat.le_refl _⟩) | cases h
  · obtain ⟨-, h⟩ := pm_if_ok h
    unfold pm_bin at h
    (repeat' split at h) <;> first | (cases h; exact ⟨Nat.le_refl _, Nat.le_refl _⟩) | cases h
  · obtain ⟨-, h⟩ := pm_if_ok h
    unfold pm_bin at h
    (repeat' split at h) <;> first | (cases h; exact ⟨Nat.le_refl _, Nat.le_refl _⟩) | cases h
  · obtain ⟨-, h⟩ := pm_if_ok h
    unfold pm_div at h
    (repeat' split at h) <;> first | (cases h; exact ⟨Nat.le_refl _, Nat.le_refl _⟩) | cases h
  · obtain ⟨-, h⟩ := pm_if_ok h
    unfold pm_div at h
    (repeat' split at h) <;> first | (cases h; exact ⟨Nat.le_refl _, Nat.le_refl _⟩) | cases h
  · obtain ⟨-, h⟩ := pm_if_ok h
    unfold pm_iinc at h
    (repeat' split at h) <;> first | (cases h; exact ⟨Nat.le_refl _, Nat.le_refl _⟩) | cases h
  · obtain ⟨-, h⟩ := pm_if_ok h
    unfold pm_dup at h
    (repeat' split at h) <;> first | (cases h; exact ⟨Nat.le_refl _, Nat.le_refl _⟩) | cases h
  · obtain ⟨-, h⟩ := pm_if_ok h
    unfold pm_dup2 at h
    (repeat' split at h) <;> first | (cases h; exact ⟨Nat.le_refl _, Nat.le_refl _⟩) | cases h
  · obtain ⟨-, h⟩ := pm_if_ok h
    unfold pm_pop at h
    (repeat' split at h) <;> first | (cases h; exact ⟨Nat.le_refl _, Nat.le_refl _⟩) | cases h
  · obtain ⟨-, h⟩ := pm_if_ok h
    exact same (pm_go_mono h)
  · obtain ⟨-, h⟩ := pm_if_ok h
    unfold pm_if2 at h
    split at h
    · split at h
      · rename_i q1 hq1
        split at h
        · cases h
          exact same (pm_go_mono hq1)
        · cases h
          exact ⟨Nat.le_refl _, Nat.le_refl _⟩
      · cases h
    · cases h
  · obtain ⟨-, h⟩ := pm_if_ok h
    unfold pm_if1 at h
    split at h
    · split at h
      · rename_i q1 hq1
        split at h
        · cases h
          exact same (pm_go_mono hq1)
        · cases h
          exact ⟨Nat.le_refl _, Nat.le_refl _⟩
      · cases h
    · cases h
  · obtain ⟨-, h⟩ := pm_if_ok h
    unfold pm_ifn at h
    split at h
    · rw [if_pos rfl] at h
      exact same (pm_go_mono h)
    · rw [if_pos rfl] at h
      cases h
      exact ⟨Nat.le_refl _, Nat.le_refl _⟩
    · cases h
  · obtain ⟨-, h⟩ := pm_if_ok h
    unfold pm_ifn at h
    split at h
    · rw [if_neg (by decide)] at h
      cases h
      exact ⟨Nat.le_refl _, Nat.le_refl _⟩
    · rw [if_neg (by decide)] at h
      exact same (pm_go_mono h)
    · cases h
  · obtain ⟨-, h⟩ := pm_if_ok h
    obtain ⟨_, _, _, _, _, _, _, _, _, _, _, rfl⟩ := pm_getf_ok h
    exact ⟨Nat.le_refl _, Nat.le_refl _⟩
  · obtain ⟨-, h⟩ := pm_if_ok h
    obtain ⟨_, _, _, _, _, _, _, _, _, _, _, _, _, rfl⟩ := pm_putf_ok h
    exact ⟨Nat.le_refl _, Nat.le_refl _⟩
  · obtain ⟨-, h⟩ := pm_if_ok h
    obtain ⟨_, _, _, _, _, _, _, _, _, _, rfl⟩ := pm_iald_ok h
    exact ⟨Nat.le_refl _, Nat.le_refl _⟩
  · obtain ⟨-, h⟩ := pm_if_ok h
    obtain ⟨_, _, _, _, _, _, _, _, _, _, rfl⟩ := pm_iald_ok h
    exact ⟨Nat.le_refl _, Nat.le_refl _⟩
  · obtain ⟨-, h⟩ := pm_if_ok h
    obtain ⟨_, _, _, _, _, _, _, _, _, _, _, rfl⟩ := pm_iast_ok h
    exact ⟨Nat.le_refl _, Nat.le_refl _⟩
  · obtain ⟨-, h⟩ := pm_if_ok h
    obtain ⟨_, _, _, _, _, _, _, _, _, _, _, rfl⟩ := pm_iast_ok h
    exact ⟨Nat.le_refl _, Nat.le_refl _⟩
  · obtain ⟨-, h⟩ := pm_if_ok h
    obtain ⟨_, _, _, _, _, _, _, _, _, rfl⟩ := pm_aald_ok h
    exact ⟨Nat.le_refl _, Nat.le_refl _⟩
  · obtain ⟨-, h⟩ := pm_if_ok h
    obtain ⟨_, _, _, _, _, _, _, _, _, _, _, _, rfl⟩ := pm_aast_ok h
    exact ⟨Nat.le_refl _, Nat.le_refl _⟩
  · obtain ⟨-, h⟩ := pm_if_ok h
    unfold pm_alen at h
    (repeat' split at h) <;> first | (cases h; exact ⟨Nat.le_refl _, Nat.le_refl _⟩) | cases h
  · obtain ⟨-, h⟩ := pm_if_ok h
    split at h
    · obtain ⟨_, _, _, _, _, rfl⟩ := pm_newa_ok h
      exact ⟨Nat.le_succ _, Nat.le_add_right _ _⟩
    · obtain ⟨_, _, _, _, _, rfl⟩ := pm_newa_ok h
      exact ⟨Nat.le_succ _, Nat.le_add_right _ _⟩
    · cases h
  · obtain ⟨-, h⟩ := pm_if_ok h
    obtain ⟨_, _, _, _, _, _, _, _, rfl⟩ := pm_anew_ok h
    exact ⟨Nat.le_succ _, Nat.le_add_right _ _⟩
  · obtain ⟨-, h⟩ := pm_if_ok h
    unfold pm_new at h
    split at h
    · cases h
      exact ⟨Nat.le_succ _, Nat.le_add_right _ _⟩
    · cases h
  · obtain ⟨-, h⟩ := pm_if_ok h
    unfold pm_oinit at h
    (repeat' split at h) <;> first | (cases h; exact ⟨Nat.le_refl _, Nat.le_refl _⟩) | cases h
  · obtain ⟨-, h⟩ := pm_if_ok h
    unfold pm_mm at h
    (repeat' split at h) <;> first | (cases h; exact ⟨Nat.le_refl _, Nat.le_refl _⟩) | cases h
  · unfold pm_tsw at h
    split at h
    · split at h
      · exact same (pm_go_mono h)
      · split at h
        · exact same (pm_go_mono h)
        · cases h
    · cases h
  · unfold pm_lsw at h
    split at h
    · split at h
      · exact same (pm_go_mono h)
      · cases h
    · cases h
  · cases h
end PMS
theorem pm_run_mono : ∀ (f k : Nat) (M : pm_M) (pc : Nat) (ls st : List Value) (hp : pm_H) (r : Option Value) (hp' : pm_H), pm_run f k M pc ls st hp = some (r, hp') → hp.1 ≤ hp'.1 ∧ hp.2.1 ≤ hp'.2.1 := by
  intro f
  induction f with
  | zero => intro k M pc ls st hp r hp' h; cases h
  | succ f ih =>
    intro k M pc ls st hp r hp' h
    unfold pm_run at h
    split at h
    · cases h
    · rename_i i len hd
      split at h
      · rename_i q hq
        have h1 := pm_st_mono hq
        have h2 := ih _ _ _ _ _ _ _ _ h
        exact ⟨Nat.le_trans h1.1 h2.1, Nat.le_trans h1.2 h2.2⟩
      · split at h
        · cases h
          exact ⟨Nat.le_refl _, Nat.le_refl _⟩
        · split at h
          · cases h
          · split at h
            · cases h
            · split at h
              · cases h
              · rename_i hq
                have h1 := ih _ _ _ _ _ _ _ _ hq
                have h2 := ih _ _ _ _ _ _ _ _ h
                exact ⟨Nat.le_trans h1.1 h2.1, Nat.le_trans h1.2 h2.2⟩
def pm_P (w : pm_W) (av : List Value) (hp : pm_H) : Array Value → State → Prop := fun v U => v = av.toArray ∧ pm_rep w U hp U.heap ∧ pm_K w U
def pm_Q (w : pm_W) (r : Option Value) (hp' : pm_H) : Array Value → State → Outcome → State → Prop := fun _ _ o t => o = .returned r ∧ pm_rep w t hp' t.heap
def pm_R (k mc ms : Nat) : Room := { frames := k, cells := mc, slots := ms, locals := 37 * k }
def pm_ws (M : pm_M) : List Cond := Cond.code M.1 M.2.1 M.2.2.1 M.2.2.2.1 :: pm_tb
/-- the run theorem at a fuel -/
def pm_SND (l : Launch) (w : pm_W) (f : Nat) : Prop := ∀ (k : Nat) (M : pm_M) (pc : Nat) (ls st : List Value) (hp : pm_H) (r : Option Value) (hp' : pm_H), pm_run f k M pc ls st hp = some (r, hp') →
  ∀ (p : Program) (e : Env) (R : Room) (s : State) (m : MethodId) (args : Array Value) (below : List Frame) (meth : Method) (c : Code) (Q : State → Prop) (n0 u0 : Nat), pm_Ctx w M p s m args meth c → c.maxLocals = M.2.2.1 → R.frames = k → 37 * k ≤ R.locals → hp'.1 - n0 ≤ R.cells → hp'.2.1 - u0 ≤ R.slots → n0 ≤ hp.1 → u0 ≤ hp.2.1 →
  (∀ (H : Heap) (locs : List Loc) (lsA : Array Slot) (pc' : Nat) (i : Instr) (st' : List Value), pm_rep w s hp' H → (∀ x ∈ locs, w.2.2.2 ≤ x.base) → decode M.2.1 pc' = .ok (i, 1) → pm_ret M i 1 st' = some r → W p l e R s m args below meth c H locs (hp'.1 - n0) (hp'.2.1 - u0) Q (F0 m pc' lsA st')) →
  pm_Go p l e R s m args below meth c Q w n0 u0 (pc, ls, st, hp)
theorem pm_ret_len {M : pm_M} {i : Instr} {len : Nat} {st : List Value} {r : Option Value} (h : pm_ret M i len st = some r) : len = 1 := by
  unfold pm_ret at h
  split at h
  · split at h
    · exact (pm_if_ok h).1.1
    · cases h
  · split at h
    · exact (pm_if_ok h).1
    · exact (pm_if_ok h).1
    · cases h
  · split at h
    · exact (pm_if_ok h).1.1
    · cases h
  · cases h
/-- a method's return under its contract -/
theorem pm_back {l : Launch} {w : pm_W} {M : pm_M} {r : Option Value} {hp' : pm_H} {p : Program} {e : Env} {R : Room} {s : State} {m : MethodId} {args : Array Value} {below : List Frame} {meth : Method} {c : Code} {mc ms : Nat} (C : pm_Ctx w M p s m args meth c)
    {H : Heap} {locs : List Loc} {lsA : Array Slot} {pc' : Nat} {i : Instr} {st' : List Value} (hr : pm_rep w s hp' H) (hlo : ∀ x ∈ locs, w.2.2.2 ≤ x.base) (hd : decode M.2.1 pc' = .ok (i, 1)) (h : pm_ret M i 1 st' = some r) :
    W p l e R s m args below meth c H locs mc ms (MQ below (pm_Q w r hp') args s mc ms (fun q => w.2.2.2 ≤ q)) (F0 m pc' lsA st') := by
  obtain ⟨hx, hb, hown, hts, hr0, hlk, hnm, hK⟩ := C
  have hq : ∀ t : State, t.heap = H → s.WarmedH t.vm → pm_Q w r hp' args s (.returned r) t := fun t ht hW => ⟨rfl, by rw [ht]; exact hr.moved hW.alike⟩
  unfold pm_ret at h
  split at h
  · split at h
    · obtain ⟨⟨-, h2⟩, h3⟩ := pm_if_ok h
      cases h3
      rcases h2 with h2 | ⟨h2, h4⟩
      · exact W.iret hx hb (hr0.trans h2) hq hlo hd hlk
      · exact W.zret hx hb (hr0.trans h2) h4 hq hlo hd hlk
    · cases h
  · split at h
    · obtain ⟨-, h3⟩ := pm_if_ok h
      split at h3
      · rename_i cn h2
        cases h3
        exact W.aret hx hb (hr0.trans h2) (Or.inl ⟨_, rfl⟩) (Or.inr ⟨_, rfl⟩) hq hlo hd hlk
      · cases h3
    · obtain ⟨-, h3⟩ := pm_if_ok h
      split at h3
      · rename_i cn h2
        cases h3
        exact W.aret hx hb (hr0.trans h2) (Or.inl ⟨_, rfl⟩) (Or.inl rfl) hq hlo hd hlk
      · cases h3
    · cases h
  · split at h
    · obtain ⟨⟨-, h2⟩, h3⟩ := pm_if_ok h
      cases h3
      exact W.vret hx hb (hr0.trans h2) hq hlo hd hlk
    · cases h
  · cases h
theorem pm_met {l : Launch} {w : pm_W} {f k kind : Nat} (ih : pm_SND l w f) {M : pm_M} {as : List Value} {hp hp' : pm_H} {r : Option Value} (hk : pm_okM M kind) (ha : as.all pm_v1 = true) (hn : as.length = M.2.2.2.2.2) (h : pm_run f k M 0 (pm_ent M as) [] hp = some (r, hp')) :
    Met l M.1 (pm_ws M) (pm_R k (hp'.1 - hp.1) (hp'.2.1 - hp.2.1)) (pm_P w as hp) (pm_Q w r hp') (hp'.1 - hp.1) (hp'.2.1 - hp.2.1) (fun q => w.2.2.2 ≤ q) := by
  obtain ⟨k1, k2, k3, k4, k5, k6, k7, k8, k9, k10, k11, k12, k13, k14, k15⟩ := hk
  refine Met.ofW (cc := M.2.1) (maxL := M.2.2.1) (ret := M.2.2.2.1) k7 rfl ?_
  intro p e s m args below meth c s₁ B hml hv
  obtain ⟨rfl, hrep, hK⟩ := hv
  have hts := atoms_spec (ws := pm_ws M) B.pre
  have hown : s.vm.findClass M.1.cls = some m.cls := findClass_of_methodNamed B.named
  have hnm : meth.name = M.1.name := (name_of_methodNamed B.named B.method).1
  have C : pm_Ctx w M p s m as.toArray meth c := ⟨B.exec, B.bytes, by rw [← k6]; exact hown, fun x hx => hts x (List.mem_cons_of_mem _ hx), B.returns, B.notSynchronized, fun z => hnm.trans z, hK⟩
  rw [lg_entry_eq]
  have hl := pm_entry (M := M) ha (by rw [hn]; exact k13)
  have hg := ih k M 0 (pm_ent M as) [] hp r hp' h p e (headSpec (pm_ws M) (pm_R k (hp'.1 - hp.1) (hp'.2.1 - hp.2.1))).room s m as.toArray below meth c (MQ below (pm_Q w r hp') as.toArray s (hp'.1 - hp.1) (hp'.2.1 - hp.2.1) (fun q => w.2.2.2 ≤ q)) hp.1 hp.2.1 C hml rfl (Nat.le_refl _) (Nat.le_refl _) (Nat.le_refl _) (Nat.le_refl _) (Nat.le_refl _) (fun H locs lsA pc' i st' hr hlo hd hret => pm_back C hr hlo hd hret)
  have hg2 := hg s.heap [] _ hrep (by rw [hml]; exact hl) (fun x hx => by cases hx)
  dsimp only at hg2
  rw [Nat.sub_self, Nat.sub_self] at hg2
  exact hg2
theorem pm_blind {w : pm_W} {av : List Value} {hp : pm_H} : FrameBlind (pm_P w av hp) := by
  intro a U g mk hq
  obtain ⟨h1, h2, h3⟩ := hq
  exact ⟨h1, h2.moved (u := U) (U := U.calling g mk a) (Vm.Alike.refl U.vm), h3.same (u := U) (U := U.calling g mk a) rfl⟩
theorem pm_preS {w : pm_W} {av : List Value} {hp : pm_H} {s : State} {H : Heap} (hK : pm_K w s) (hr : pm_rep w s hp H) : PreS s H (pm_P w av hp) av :=
  ⟨pm_blind, fun U hU hW => ⟨rfl, by rw [hU]; exact hr.moved hW.alike, hK.moved hW⟩⟩
theorem pm_callB {w : pm_W} {M M' : pm_M} {p : Program} {s : State} {m : MethodId} {args : Array Value} {meth : Method} {c : Code} {R : Room} {k kind idx mc ms n : Nat} (C : pm_Ctx w M p s m args meth c) (hk : pm_okM M' kind) (hl : Cond.methodLink (pm_cn M.2.2.2.2.1) idx M'.1 ∈ pm_tb) (hn : (if kind = 1 then M'.2.2.2.2.2 else M'.2.2.2.2.2 - 1) = n) (hR1 : R.frames = k + 1) (hR2 : 37 * (k + 1) ≤ R.locals) :
    CallB R s args (pm_cn M.2.2.2.2.1) idx M'.1 M'.2.1 M'.2.2.1 M'.2.2.2.1 (pm_ws M') (pm_R k mc ms) mc ms n := by
  obtain ⟨k1, k2, k3, k4, k5, k6, k7, k8, k9, k10, k11, k12, k13, k14, k15⟩ := hk
  refine callB_of n C.2.2.2.1 (fun x hx => ?_) rfl rfl rfl (C.2.2.2.1 _ k5) (C.2.2.2.1 _ hl) ⟨k8, k9, by rw [k10, hn]⟩ ⟨by rw [hR1]; exact Nat.le_refl _, ?_⟩
  · rcases List.mem_cons.mp hx with rfl | hx
    · exact pm_good _ k1
    · exact pm_good _ hx
  · refine Nat.le_trans ?_ hR2
    show 8 + (M'.2.2.1 + 11) + 37 * k ≤ 37 * (k + 1)
    omega
theorem pm_callN {w : pm_W} {M M' : pm_M} {p : Program} {s : State} {m : MethodId} {args : Array Value} {meth : Method} {c : Code} {R : Room} {k kind idx mc ms n : Nat} (C : pm_Ctx w M p s m args meth c) (hk : pm_okM M' kind) (hl : Cond.methodLinkNest (pm_cn M.2.2.2.2.1) idx M'.1 "ShortPost" ∈ tables_1) (hn : (if kind = 1 then M'.2.2.2.2.2 else M'.2.2.2.2.2 - 1) = n) (hR1 : R.frames = k + 1) (hR2 : 37 * (k + 1) ≤ R.locals) :
    va_CN R s args (pm_cn M.2.2.2.2.1) idx M'.1 "ShortPost" M'.2.1 M'.2.2.1 M'.2.2.2.1 (pm_ws M') (pm_R k mc ms) mc ms n := by
  obtain ⟨k1, k2, k3, k4, k5, k6, k7, k8, k9, k10, k11, k12, k13, k14, k15⟩ := hk
  refine va_cnB n C.2.2.2.1 (fun x hx => ?_) rfl rfl rfl (C.2.2.2.2.2.2.2.2.1 _ hl rfl) (C.2.2.2.1 _ k5) ⟨k8, k9, by rw [k10, hn]⟩ ⟨by rw [hR1]; exact Nat.le_refl _, ?_⟩
  · rcases List.mem_cons.mp hx with rfl | hx
    · exact pm_good _ k1
    · exact pm_good _ hx
  · refine Nat.le_trans ?_ hR2
    show 8 + (M'.2.2.1 + 11) + 37 * k ≤ 37 * (k + 1)
    omega
/-- behind a call -/
theorem pm_after {p : Program} {l : Launch} {e : Env} {R : Room} {s : State} {m : MethodId} {args : Array Value} {below : List Frame} {meth : Method} {c : Code} {Q : State → Prop} {w : pm_W} {n0 u0 pc : Nat} {ls rest st : List Value} {hp hp1 : pm_H} {r : Option Value} {a : Array Value} {H : Heap} {locs : List Loc} {lsA : Array Slot}
    (hrun : va_Run p l e R s m args below meth c H locs (hp.1 - n0) (hp.2.1 - u0) (hp1.1 - hp.1) (hp1.2.1 - hp.2.1) (F0 m pc lsA st) rest (pm_Q w r hp1 a) (fun q => w.2.2.2 ≤ q)) (hn0 : n0 ≤ hp.1) (hu0 : u0 ≤ hp.2.1) (hm : hp.1 ≤ hp1.1 ∧ hp.2.1 ≤ hp1.2.1) (hl : pm_lv c.maxLocals lsA ls) (hlo : ∀ x ∈ locs, w.2.2.2 ≤ x.base)
    (kk : pm_Go p l e R s m args below meth c Q w n0 u0 (pc + 3, ls, r.toList ++ rest, hp1)) : W p l e R s m args below meth c H locs (hp.1 - n0) (hp.2.1 - u0) Q (F0 m pc lsA st) := by
  intro T hT X
  obtain ⟨v, st₀, t, T', L, h0, X', hL, e1, e2, hq, hst⟩ := hrun T hT X
  obtain ⟨hv, hrep1⟩ := hq
  cases hv
  have hal : t.vm.Alike s.vm := by rw [← e2]; exact X'.warmed.alike.symm
  have hrep2 : pm_rep w s hp1 T'.heap := by rw [e1]; exact hrep1.moved hal
  have hz1 : (hp.1 - n0) + (hp1.1 - hp.1) = hp1.1 - n0 := by omega
  have hz2 : (hp.2.1 - u0) + (hp1.2.1 - hp.2.1) = hp1.2.1 - u0 := by omega
  rw [hz1, hz2] at X'
  obtain ⟨t2, a1, b1⟩ := kk T'.heap (locs ++ L) lsA hrep2 hl (fun x hx => by
    rcases List.mem_append.mp hx with h | h
    · exact hlo x h
    · exact hL x h) T' rfl X'
  exact ⟨t2, hst t2 a1, b1⟩
theorem pm_args_ok {n : Nat} {st as rest : List Value} (h : pm_args n st = some (as, rest)) : st = as.reverse ++ rest ∧ as.all pm_v1 = true ∧ as.length = n ∧ pm_cat rest ≤ 8 := by
  unfold pm_args at h
  obtain ⟨⟨h1, h2, h3⟩, h4⟩ := pm_if_ok h
  cases h4
  refine ⟨by rw [List.reverse_reverse]; exact (List.take_append_drop n st).symm, by rw [List.all_reverse]; exact h2, by rw [List.length_reverse, List.length_take]; omega, h3⟩
theorem pm_sound (l : Launch) (w : pm_W) : ∀ f, pm_SND l w f := by
  intro f
  induction f with
  | zero => intro k M pc ls st hp r hp' h; cases h
  | succ f ih =>
    intro k M pc ls st hp r hp' h p e R s m args below meth c Q n0 u0 C hml hR1 hR2 hRc hRs hn0 hu0 hret
    unfold pm_run at h
    split at h
    · cases h
    · rename_i i len hd
      split at h
      · rename_i q hq
        have h1 := pm_st_mono hq
        have h2 := pm_run_mono _ _ _ _ _ _ _ _ _ h
        exact pm_step C hR1 hR2 hd hq hn0 hu0 (by omega) (by omega) (by omega) (by omega) (ih _ _ _ _ _ _ _ _ h p e R s m args below meth c Q n0 u0 C hml hR1 hR2 hRc hRs (by omega) (by omega) hret)
      · split at h
        · rename_i r' hr'
          cases h
          have hlen := pm_ret_len hr'
          subst hlen
          intro H locs lsA hr hl hlo
          exact hret H locs lsA pc i st hr hlo hd hr'
        · split at h
          · cases h
          · rename_i M' as rest hi
            split at h
            · cases h
            · rename_i k'
              split at h
              · cases h
              · rename_i r1 hp1 hrun1
                have m1 := pm_run_mono _ _ _ _ _ _ _ _ _ hrun1
                have m2 := pm_run_mono _ _ _ _ _ _ _ _ _ h
                have kk := ih _ _ _ _ _ _ _ _ h p e R s m args below meth c Q n0 u0 C hml hR1 hR2 hRc hRs (by omega) (by omega) hret
                intro H locs lsA hr hl hlo
                obtain ⟨lv, g1, g2, g3⟩ := id hl
                have hK := C.2.2.2.2.2.2.2
                dsimp only at hr
                unfold pm_inv at hi
                split at hi
                · split at hi
                  · rename_i idx M2 kind nest hml2
                    split at hi
                    · rename_i as2 rest2 ha2
                      obtain ⟨⟨rfl, rfl, hrc⟩, hz⟩ := pm_if_ok hi
                      cases hz
                      obtain ⟨a1, a2, a3, a4⟩ := pm_args_ok ha2
                      obtain ⟨hok, hlk⟩ := pm_ml_ok hml2
                      have hM := pm_met ih hok a2 a3 hrun1
                      unfold pm_rcv at hrc
                      split at hrc
                      · rename_i b As
                        split at hrc
                        · rename_i cj fs hcell
                          have hcj := beq_iff_eq.mp hrc
                          subst hcj
                          obtain ⟨b1, b2, cell, c1, c2, c3, -⟩ := hr.2.2 b _ hcell
                          have hcls := (hK.1.1 _ _ (pm_vw _ b1)).2.1
                          have hrcv : ∃ cellB : Cell, H[b]? = some cellB ∧ cellB.vm.isStatics = false ∧ s.vm.findClass (pm_cn M'.2.2.2.2.1) = some cellB.cls := ⟨cell, c1, by rw [c3]; rfl, by rw [c2]; exact hcls⟩
                          have hpv : PreV s H (pm_cn M'.2.2.2.2.1) b (pm_P w (.ref b :: As) hp) As := ⟨pm_blind, hrcv, (pm_preS hK hr).2⟩
                          have hst : st = As.reverse ++ .ref b :: rest := by rw [a1, List.reverse_cons, List.append_assoc]; rfl
                          have hlen : As.length = M'.2.2.2.2.2 - 1 := by rw [← a3, List.length_cons]; rfl
                          have hroom : 2 * (F0 m pc lsA st).monitorRoom + (rest.map fun v => v.category).sum ≤ 8 := by show 2 * 0 + pm_cat rest ≤ 8; omega
                          have hfit : (hp.1 - n0) + (hp1.1 - hp.1) ≤ R.cells ∧ (hp.2.1 - u0) + (hp1.2.1 - hp.2.1) ≤ R.slots := ⟨by omega, by omega⟩
                          rcases hlk with ⟨-, hlk⟩ | ⟨-, hlk⟩
                          · exact pm_after (va_runV ⟨C.1, C.2.1, rfl, C.2.2.1, C.2.2.2.1⟩ hM ⟨pm_callB C hok hlk rfl hR1 hR2, C.2.2.2.1 _ (hok.2.2.1 (by decide)), C.2.2.2.1 _ (hok.2.2.2.1 rfl)⟩ hpv rfl hlen g1.1 hst hroom hd hfit) hn0 hu0 m1 hl hlo kk
                          · exact pm_after (va_runVN ⟨C.1, C.2.1, rfl, C.2.2.1, C.2.2.2.1⟩ hM ⟨pm_callN C hok hlk rfl hR1 hR2, C.2.2.2.1 _ (hok.2.2.1 (by decide)), C.2.2.2.1 _ (hok.2.2.2.1 rfl)⟩ hpv rfl hlen g1.1 hst hroom hd hfit) hn0 hu0 m1 hl hlo kk
                        · cases hrc
                      · cases hrc
                    · cases hi
                  · cases hi
                · split at hi
                  · rename_i idx M2 kind nest hml2
                    split at hi
                    · rename_i as2 rest2 ha2
                      obtain ⟨⟨rfl, rfl⟩, hz⟩ := pm_if_ok hi
                      cases hz
                      obtain ⟨a1, a2, a3, a4⟩ := pm_args_ok ha2
                      obtain ⟨hok, hlk⟩ := pm_ml_ok hml2
                      have hM := pm_met ih hok a2 a3 hrun1
                      have hroom : 2 * (F0 m pc lsA st).monitorRoom + (rest.map fun v => v.category).sum ≤ 8 := by show 2 * 0 + pm_cat rest ≤ 8; omega
                      have hfit : (hp.1 - n0) + (hp1.1 - hp.1) ≤ R.cells ∧ (hp.2.1 - u0) + (hp1.2.1 - hp.2.1) ≤ R.slots := ⟨by omega, by omega⟩
                      rcases hlk with ⟨-, hlk⟩ | ⟨-, hlk⟩
                      · exact pm_after (va_runS ⟨C.1, C.2.1, rfl, C.2.2.1, C.2.2.2.1⟩ hM ⟨pm_callB C hok hlk rfl hR1 hR2, C.2.2.2.1 _ (hok.2.1 rfl)⟩ (pm_preS hK hr) rfl a3 g1.1 a1 hroom hd hfit) hn0 hu0 m1 hl hlo kk
                      · exact pm_after (va_runSN ⟨C.1, C.2.1, rfl, C.2.2.1, C.2.2.2.1⟩ hM ⟨pm_callN C hok hlk rfl hR1 hR2, C.2.2.2.1 _ (hok.2.1 rfl), trivial⟩ (pm_preS hK hr) rfl a3 g1.1 a1 hroom hd hfit) hn0 hu0 m1 hl hlo kk
                    · cases hi
                  · cases hi
                · split at hi
                  · rename_i idx M2 kind nest hml2
                    split at hi
                    · rename_i as2 rest2 ha2
                      obtain ⟨⟨rfl, rfl, hrc⟩, hz⟩ := pm_if_ok hi
                      cases hz
                      obtain ⟨a1, a2, a3, a4⟩ := pm_args_ok ha2
                      obtain ⟨hok, hlk⟩ := pm_ml_ok hml2
                      have hM := pm_met ih hok a2 a3 hrun1
                      unfold pm_isr at hrc
                      split at hrc
                      · rename_i b As
                        have hst : st = As.reverse ++ .ref b :: rest := by rw [a1, List.reverse_cons, List.append_assoc]; rfl
                        have hlen : As.length = M'.2.2.2.2.2 - 1 := by rw [← a3, List.length_cons]; rfl
                        have hroom : 2 * (F0 m pc lsA st).monitorRoom + (rest.map fun v => v.category).sum ≤ 8 := by show 2 * 0 + pm_cat rest ≤ 8; omega
                        have hfit : (hp.1 - n0) + (hp1.1 - hp.1) ≤ R.cells ∧ (hp.2.1 - u0) + (hp1.2.1 - hp.2.1) ≤ R.slots := ⟨by omega, by omega⟩
                        have hin := hok.2.2.2.2.2.2.2.2.2.2.1 rfl
                        rcases hlk with ⟨-, hlk⟩ | ⟨-, hlk⟩
                        · have hcb := pm_callB (mc := hp1.1 - hp.1) (ms := hp1.2.1 - hp.2.1) C hok hlk rfl hR1 hR2
                          rw [hin.2] at hcb
                          exact pm_after (va_runI ⟨C.1, C.2.1, rfl, C.2.2.1, C.2.2.2.1⟩ hM ⟨hcb, hin.1, C.2.2.2.1 _ (hok.2.2.1 (by decide))⟩ (pm_preS hK hr) rfl hlen g1.1 hst hroom hd hfit) hn0 hu0 m1 hl hlo kk
                        · have hcb := pm_callN (mc := hp1.1 - hp.1) (ms := hp1.2.1 - hp.2.1) C hok hlk rfl hR1 hR2
                          rw [hin.2] at hcb
                          exact pm_after (va_runIN ⟨C.1, C.2.1, rfl, C.2.2.1, C.2.2.2.1⟩ hM ⟨hcb, hin.1, C.2.2.2.1 _ (hok.2.2.1 (by decide))⟩ (pm_preS hK hr) rfl hlen g1.1 hst hroom hd hfit) hn0 hu0 m1 hl hlo kk
                      · cases hrc
                    · cases hi
                  · cases hi
                · cases hi
