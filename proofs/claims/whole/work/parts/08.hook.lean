/-! THE CLAIM OUT OF ONE WALK OF THE LAW'S BODY. Your part is whole_start (and what it stands on); all else here is the same for every law, but numbers. -/
def R_law : String := "ShortPostLaw"
def lw_P (b : Addr) (xs : List Int32) (args : Array Value) (s : State) : Prop := args = #[.ref b] ∧ s.IntsAt b xs ∧ xs.length ≤ 3072 ∧ (Jvm.Cond.and given_1 narrow_1).before args s = true
/-- the room of TURN differs a little from machine to machine -/
theorem lw_slots : 7000000 ≤ room_1.slots := by decide
def lw_Q (_ : Array Value) (s : State) (o : Outcome) (t : State) : Prop := o = .returned (some (.int 1)) ∧ Framed s o t [] 600000 room_1.slots
def lw_Z (below : List Frame) (a : Array Value) (s : State) : State → Prop := fun t => ∃ o, t.status = .running ∧ Ended t below o ∧ lw_Q a s o t
/-- the law's own end, with 1 on the stack, nothing written that was there before, its room as the claim has it -/
theorem lw_ret {p : Program} {l : Launch} {e : Env} {s : State} {m : MethodId} {below : List Frame} {meth : Method} {c : Code} {b : Nat} (hx : p.tables.exec = Jvm.exec) (hb : c.code = code) (hr : meth.sig.returnType = ret) (hlocks : meth.locks = false) {pc : Nat} {H : Heap} {ls : Array Slot} (hdg : decode code pc = .ok (.ireturn, 1)) : W p l e room_1 s m #[Value.ref b] below meth c H [] 600000 room_1.slots (lw_Z below #[Value.ref b] s) (F0 m pc ls [.int 1]) := by
  intro T hT X
  obtain ⟨fs, hret, hrun, hended, hW, hframe⟩ := X.leave (v := some (.int 1)) (hlocks := hlocks) (fun h => by rw [hr] at h; cases h)
  have hmeth' : T.vm.method? m = some meth := X.method'
  refine ⟨T.setFrames fs, ?_, .returned (some (.int 1)), hrun, hended, rfl, ⟨_, rfl⟩, hW, hframe⟩
  jvm_step X.here [X.here.top, hx, hb, hdg, hmeth', hr, ret, narrow_b1]
  (try refine ⟨rfl, ?_⟩); (try refine ⟨rfl, ?_⟩)
  first | (intro acts; rw [hret _ acts rfl rfl rfl]) | rw [hret _ _ rfl rfl rfl]
  exact Steps.refl _
/-- what holds at the law's entry: the machine, the code, the tables' words (any of lw_tbl by 'hts w (by decide +kernel)'), the script of L ints xs at the cell b, what the Statement gives of the start (any of its parts by flat_of_before) -/
def lw_At (p : Program) (s : State) (m : MethodId) (meth : Method) (c : Code) (b L : Nat) (xs : Nat → Int32) : Prop :=
  p.tables.exec = Jvm.exec ∧ c.code = code ∧ meth.sig.returnType = ret ∧ c.maxLocals = 4 ∧ s.vm.findClass R_law = some m.cls ∧ (∀ w ∈ lw_tbl, w.before #[Value.ref b] s = true) ∧ va_X b L xs s s.heap ∧ b < s.heap.size ∧ meth.locks = false ∧ (Jvm.Cond.and given_1 narrow_1).before #[Value.ref b] s = true
/-- what is owed of the pure machine: on every script of at most 3072 ints the law's run ends with 1, within the room -/
def pm_hp0 (base b L : Nat) (xs : Nat → Int32) : pm_H := (base, 0, fun a => if a = b then some (.inl (2, L, xs)) else none)
def pm_Goal : Prop := ∀ (base b L : Nat) (xs : Nat → Int32), b < base → L ≤ 3072 → ∃ f hp', pm_run f 9 mL_law 0 (pm_ent mL_law [.ref b]) [] (pm_hp0 base b L xs) = some (some (.int 1), hp') ∧ hp'.1 ≤ base + 600000 ∧ hp'.2.1 ≤ 7000000
theorem pm_world {s : State} {args : Array Value} (hts : ∀ x ∈ lw_tbl, x.before args s = true) : ∃ (dC : Nat → ClassId) (dI : Nat → Nat → Nat) (cA : Nat → ClassId), ∀ base : Nat, pm_K (dC, dI, cA, base) s := by
  have htb : ∀ x ∈ pm_tb, x.before args s = true := fun x hx => hts x (List.mem_filter.mp hx).1
  have h13 : ∀ ci, ∃ (cC : ClassId) (iS : Nat → Nat), ci < 13 → u_Kn s (pm_cn ci) (pm_T ci) (pm_N ci) cC iS := by
    intro ci
    by_cases hci : ci < 13
    · have hin : ∃ i : Nat, tables_1[i]? = some (Cond.instantiable (pm_cn ci) (pm_N ci)) := by
        match ci, hci with
        | 0, _ => exact ⟨83, by decide +kernel⟩
        | 1, _ => exact ⟨25, by decide +kernel⟩
        | 2, _ => exact ⟨255, by decide +kernel⟩
        | 3, _ => exact ⟨846, by decide +kernel⟩
        | 4, _ => exact ⟨143, by decide +kernel⟩
        | 5, _ => exact ⟨49, by decide +kernel⟩
        | 6, _ => exact ⟨208, by decide +kernel⟩
        | 7, _ => exact ⟨76, by decide +kernel⟩
        | 8, _ => exact ⟨243, by decide +kernel⟩
        | 9, _ => exact ⟨315, by decide +kernel⟩
        | 10, _ => exact ⟨194, by decide +kernel⟩
        | 11, _ => exact ⟨17, by decide +kernel⟩
        | 12, _ => exact ⟨978, by decide +kernel⟩
        | n + 13, h => exact absurd h (by omega)
      obtain ⟨i, hi⟩ := hin
      obtain ⟨cC, iS, h⟩ := u_known (n := pm_N ci) htb (pm_okC_all ci hci).1 (htb _ (pm_in1 hi rfl))
      exact ⟨cC, iS, fun _ => h⟩
    · exact ⟨0, fun _ => 0, fun h => absurd h hci⟩
  have hao : ∀ ci, ci < 4 → (Cond.arrayOver (.object (pm_cn ci))).before args s = true := by
    intro ci hci
    have hin : ∃ i : Nat, tables_1[i]? = some (Cond.arrayOver (.object (pm_cn ci))) := by
      match ci, hci with
      | 0, _ => exact ⟨82, by decide +kernel⟩
      | 1, _ => exact ⟨249, by decide +kernel⟩
      | 2, _ => exact ⟨251, by decide +kernel⟩
      | 3, _ => exact ⟨321, by decide +kernel⟩
      | n + 4, h => exact absurd h (by omega)
    obtain ⟨i, hi⟩ := hin
    exact hts _ (List.mem_append_right _ (List.mem_of_getElem? hi))
  obtain ⟨cI, kI, compI, i1, i2, i3⟩ := Cond.arrayClass_spec (htb (.arrayClass .int) (pm_in1 (i := 47) (by decide +kernel) rfl))
  obtain ⟨cZ, kZ, compZ, z1, z2, z3⟩ := Cond.arrayClass_spec (htb (.arrayClass .boolean) (pm_in1 (i := 1177) (by decide +kernel) rfl))
  have h4 : ∀ ci, ∃ c0 : ClassId, ci < 4 → ∃ (kA : Class) (comp : ClassId), s.vm.classes[c0]? = some kA ∧ kA.kind = .array comp (.object (pm_cn ci)) ∧ s.vm.findClass (pm_cn ci) = some comp ∧ s.vm.findClass ("[" ++ (FieldType.object (pm_cn ci)).toString) = some c0 := by
    intro ci
    by_cases hci : ci < 4
    · obtain ⟨comp, c0, k, a1, a2, a3, a4, a5⟩ := Cond.arrayOver_spec (hao ci hci)
      exact ⟨c0, fun _ => ⟨k, comp, a3, a4, a1, a5⟩⟩
    · exact ⟨0, fun h => absurd h hci⟩
  refine ⟨fun ci => Classical.choose (h13 ci), fun ci => Classical.choose (Classical.choose_spec (h13 ci)), fun t => match t with
    | 0 => cI
    | 1 => cZ
    | n + 2 => Classical.choose (h4 n), fun base => ⟨⟨fun ci q hq => ?_, fun k q hk => ?_⟩, fun x hx hn => ?_, fun ci hci => va_AO.of (hao ci hci)⟩⟩
  · have hlt : ci < 13 := (List.getElem?_eq_some_iff.mp hq).1
    have hq2 := (pm_vw ci hlt).symm.trans hq
    cases hq2
    exact Classical.choose_spec (Classical.choose_spec (h13 ci)) hlt
  · have hq4 : ∀ ci, ci < 4 → ArrOfT s (Classical.choose (h4 ci)) (.object (pm_cn ci)) ∧ va_RA s (Classical.choose (h4 ci)) (.object (pm_cn ci)) := by
      intro ci hci
      obtain ⟨kA, comp, b1, b2, b3, b4⟩ := Classical.choose_spec (h4 ci) hci
      exact ⟨fun n z => ⟨fun k h => (by cases h), kA, b1, comp, b2⟩, kA, comp, b1, b2, b3, b4⟩
    match k, hk with
    | 0, hk => cases hk; exact ⟨fun n z => ⟨fun k h => (by cases h), kI, i2, compI, i3⟩, i1⟩
    | 1, hk => cases hk; exact ⟨fun n z => ⟨fun k h => (by cases h), kZ, z2, compZ, z3⟩, z1⟩
    | 2, hk => cases hk; exact hq4 0 (by decide)
    | 3, hk => cases hk; exact hq4 1 (by decide)
    | 4, hk => cases hk; exact hq4 2 (by decide)
    | 5, hk => cases hk; exact hq4 3 (by decide)
    | n + 6, hk => simp [pm_tys] at hk
  · have hz := hts x (List.mem_append_right _ hx)
    unfold pm_isN at hn
    split at hn
    · exact va_Nw.of rfl hz
    · exact va_Nw.of rfl hz
    · cases hn
theorem whole_start (hG : pm_Goal) {p : Program} {e : Env} {s : State} {m : MethodId} {below : List Frame} {meth : Method} {c : Code} (l : Launch) {b L : Nat} {xs : Nat → Int32} (hL : L ≤ 3072) (C0 : lw_At p s m meth c b L xs) : W p l e room_1 s m #[Value.ref b] below meth c s.heap [] 0 0 (lw_Z below #[Value.ref b] s) (entryFrame m ([Value.ref b] : List Value).toArray 4) := by
  obtain ⟨hx, hb, hr, hml, hown, hts, hX, hbl, hlocks, hgv⟩ := C0
  obtain ⟨dC, dI, cA, hKb⟩ := pm_world hts
  have hK := hKb s.heap.size
  obtain ⟨f, hp', hrun, hc1, hc2⟩ := hG s.heap.size b L xs hbl hL
  have C : pm_Ctx (dC, dI, cA, s.heap.size) mL_law p s m #[Value.ref b] meth c := ⟨hx, hb, hown, fun x hx => hts x (List.mem_filter.mp hx).1, hr, hlocks, fun h => by simp [mL_law, yL_law] at h, hK⟩
  have hm := pm_run_mono _ _ _ _ _ _ _ _ _ hrun
  have hg := pm_sound l (dC, dI, cA, s.heap.size) f 9 mL_law 0 _ [] _ _ hp' hrun p e room_1 s m #[Value.ref b] below meth c (lw_Z below #[Value.ref b] s) s.heap.size 0 C hml rfl (by decide) (by show _ ≤ 600000; omega) (Nat.le_trans hc2 lw_slots) (Nat.le_refl _) (Nat.zero_le _) (fun H locs lsA pc' i st' hr' hlo hd hret => by
    unfold pm_ret at hret
    split at hret
    · split at hret
      · obtain ⟨-, h3⟩ := pm_if_ok hret
        cases h3
        refine va_forget (fun q hq => hlo q hq) ?_
        refine W.widen (k := 600000) (n := room_1.slots) (by omega) (Nat.le_trans hc2 lw_slots) ?_
        exact lw_ret hx hb hr hlocks hd
      · cases hret
    · split at hret
      · obtain ⟨-, h3⟩ := pm_if_ok hret
        split at h3 <;> cases h3
      · obtain ⟨-, h3⟩ := pm_if_ok hret
        split at h3 <;> cases h3
      · cases hret
    · split at hret
      · obtain ⟨-, h3⟩ := pm_if_ok hret
        cases h3
      · cases hret
    · cases hret)
  rw [lg_entry_eq]
  have hl := pm_entry (M := mL_law) (as := [.ref b]) rfl (Nat.le_of_ble_eq_true rfl)
  have hrep : pm_rep (dC, dI, cA, s.heap.size) s (pm_hp0 s.heap.size b L xs) s.heap := by
    refine ⟨rfl, Nat.le_refl _, fun a cc hcc => ?_⟩
    unfold pm_hp0 at hcc
    dsimp only at hcc
    split at hcc
    · rename_i ea
      cases hcc
      subst ea
      exact Or.inl ⟨rfl, hbl, hX⟩
    · cases hcc
  have hg2 := hg s.heap [] _ hrep (by rw [hml]; exact hl) (fun x hx => by cases hx)
  have e1 : (pm_hp0 s.heap.size b L xs).1 - s.heap.size = 0 := Nat.sub_self _
  have e2 : (pm_hp0 s.heap.size b L xs).2.1 - 0 = 0 := rfl
  dsimp only at hg2
  rw [e1, e2] at hg2
  exact hg2
set_option maxHeartbeats 4000000 in
theorem lw_walk (hG : pm_Goal) (l : Launch) (b : Addr) (xs : List Int32) : MetFree l x (headSpec (Jvm.Cond.code x code maxLocals ret :: tables_1) room_1) (lw_P b xs) (fun _ _ _ _ _ => True) lw_Q := by
  refine MetFree.of_bodyS (code := code) (maxLocals := maxLocals) (ret := ret) (by decide) ?_ ?_
  · intro args s m h hn
    obtain ⟨meth, c, h1, h2, h3, h4, h5, h6, -, -⟩ := Cond.code_spec hn (atoms_spec (ws := Jvm.Cond.code x code maxLocals ret :: tables_1) h _ List.mem_cons_self)
    exact ⟨meth, c, h1, h2, h3, h4, h5, h6⟩
  · intro p e s m args below meth c s₁ B hml0 hP _
    obtain ⟨rfl, hx, hbd, hgv⟩ := hP
    obtain ⟨scr, harrAt, hlist, hof, hsmall⟩ := hx
    obtain ⟨hcb, hkn, -, -⟩ := State.arrayAt?_spec harrAt
    have hown : s.vm.findClass R_law = some m.cls := findClass_of_methodNamed B.named
    have hts0 : ∀ c ∈ (Jvm.Cond.code x code maxLocals ret :: tables_1), c.before #[Value.ref b] s = true := atoms_spec (ws := Jvm.Cond.code x code maxLocals ret :: tables_1) B.pre
    have hts : ∀ w ∈ lw_tbl, w.before #[Value.ref b] s = true := k2_hts_sels lw_privs (fun w hw => hts0 w (List.mem_cons_of_mem _ hw)) lw_privs_ok
    have hml : c.maxLocals = 4 := B.maxLocals_eq (hts0 _ List.mem_cons_self)
    have X₀ : Stand p l e room_1 s m #[Value.ref b] below meth c s₁ [] 0 0 := Stand.of_body B
    have hh0 : s₁.heap = s.heap := by rw [B.state]; rfl
    have hsz : scr.slots.size = xs.length := by rw [← Array.length_toList, hlist, List.length_map]
    have hval : ∀ j : Nat, j < xs.length → scr.slots[j]? = some (.int (xs.getD j 0)) := fun j hj => by
      rw [← Array.getElem?_toList, hlist]
      simp [hj]
    have hbl : b < s.heap.size := (Array.getElem?_eq_some_iff.mp hcb).1
    have hX : va_X b xs.length (fun j => xs.getD j 0) s s.heap := ⟨scr, hcb, hof, hkn, hsz, hval⟩
    have K : W p l e room_1 s m #[Value.ref b] below meth c s₁.heap [] 0 0 (lw_Z below #[Value.ref b] s) (entryFrame m ([Value.ref b] : List Value).toArray 4) := by
      rw [hh0]
      exact whole_start hG l hbd ⟨B.exec, B.bytes, B.returns, hml, hown, hts, hX, hbl, B.notSynchronized, hgv⟩
    obtain ⟨t, a1, o, b1, b2, b3⟩ := K s₁ rfl X₀
    exact ⟨t, o, a1, b1, b2, b3⟩
theorem lw_pre_spec {args : Array Value} {s : State} (h : (Jvm.Cond.and given_1 narrow_1).before args s = true) (hr : rest_1_c.before args s = true) : ∃ (b : Addr) (xs : List Int32), lw_P b xs args s := by
  have hs := flat_of_before _ h
  have hq := flat_of_before _ hr
  have hc : (Cond.count 1).before args s = true := hs _ (by decide +kernel)
  have harr : (Cond.arrayOf (.arg 0) .int).before args s = true := hs _ (by decide +kernel)
  have hle : (Cond.le (.length (.arg 0)) (.int 3072)).before args s = true := hs _ (by decide +kernel)
  have hlen : (Cond.isInt (.length (.arg 0))).before args s = true := hq _ (by decide +kernel)
  have hall : (Cond.all (.arg 0) (.isInt (.elem (.arg 0) (.index 0)))).before args s = true := hq _ (by decide +kernel)
  obtain ⟨b, xs, hb, hx⟩ := State.ints_of_pre rfl harr hlen hall
  have hsm : xs.length < 2 ^ 31 := hx.choose_spec.2.2.2
  have hev : (Term.length (.arg 0)).eval args s none [] s = some (.int xs.length.toInt32) := hx.length_eval hb
  have hv := Cond.le_ints hev (show (Term.int 3072).eval args s none [] s = some (.int 3072) from rfl)
  have hd : xs.length.toInt32 ≤ 3072 := by
    simpa [Cond.before, Cond.holds, hv] using hle
  have hN : xs.length ≤ 3072 := (Int32.ofNat_le_ofNat hsm (by decide)).mp (show Int32.ofNat xs.length ≤ Int32.ofNat 3072 from hd)
  exact ⟨b, xs, Cond.one_arg hc (show args[0]? = some (.ref b) from hb), hx, hN, h⟩
theorem lw_comes (hG : pm_Goal) (l : Launch) : Comes l x (Jvm.Cond.code x code maxLocals ret :: tables_1) room_1 (fun tb e args s => Calls_1 tb e args s ∧ rest_1 tb e args s ∧ Pre_1 tb e args s)
    (fun _ _ args s o t => lw_Q args s o t) := by
  intro p e ha hc hk s m args below hf hfit hheap happ hpre
  obtain ⟨b, xs, hP⟩ := lw_pre_spec hpre.2.2 hpre.2.1
  obtain ⟨k, o, h1, h2, h3, hQ⟩ := lw_walk hG l b xs p e ha hc hk s m args below hf ((Spec.applies_iff_loose hf).mp happ).1 hP trivial
  exact ⟨k, o, h1, h2, h3, hQ⟩
theorem lw_frame {s t : State} {o : Outcome} {args : Array Value} (h : Framed s o t [] 600000 room_1.slots) :
    Framed s o t (fieldLocs frame_1_writes args s ++ arrayLocs frame_1_arrays args s ++ staticLocs frame_1_statics s) 600000 room_1.slots := h
theorem lw_limb (hG : pm_Goal) (L : Cond) (hL : ∀ (args : Array Value) (s t : State), L.after args s (.returned (some (.int 1))) t = true) :
    ArmFor flags0 classFile x code maxLocals ret World_1 tables_1 room_1 Calls_1 rest_1 Pre_1
      (fun tb e a s o t => postC L tb e a s o t ∧ Framed s o t (fieldLocs frame_1_writes a s ++ arrayLocs frame_1_arrays a s ++ staticLocs frame_1_statics s) 600000 room_1.slots) := by
  intro l _ _ _ p e ha hc hk s m args below hf hfit hheap happ hpre
  obtain ⟨k, o, h1, h2, h3, rfl, hF⟩ := lw_comes hG l p e ha hc hk s m args below hf hfit hheap happ hpre
  exact ⟨k, _, h1, h2, h3, hL args s _, lw_frame hF⟩
theorem pm_end (hG : pm_Goal) : Claimed_1_1 ∧ Claimed_1_2 := ⟨lw_limb hG limb_1_1 (fun args s t => by simp [limb_1_1, Cond.after, Cond.holds, Cond.value]), lw_limb hG limb_1_2 (fun args s t => Cond.after_iff.mpr (by
  first | (rw [show limb_1_2 = Cond.eq .result (.int 1) from rfl, Cond.eq_ints (x := 1) (y := 1) rfl rfl]; simp; done) | (simp [limb_1_2, Cond.value, Term.eval]; done)))⟩
