/-! ===== Bytes ===== -/
/-- a Bytes at o: its row at v of z places, s of them used -/
def isB (sh : hs_) (F : hF_) (R : hR_) (o v z s : Nat) : Prop := sh o = some (0, 1, 0) ∧ R 100 o = some v ∧ sh v = some (1, 0, z) ∧ z < 2 ^ 30 ∧ F 101 o = nI s ∧ s ≤ z
def bat (A : hF_) (v s : Nat) (i : Int32) : Int32 := if i < nI 0 then -1 else if nI s ≤ i then -1 else A v i.toNatClampNeg
theorem bat_in {A : hF_} {v s j : Nat} (h : j < s) (hs : s < 2 ^ 31) : bat A v s (nI j) = A v j := by
  unfold bat
  rw [if_neg (nI_nlt (Nat.zero_le j) (by omega)), if_neg (nI_ge h hs), nI_clamp (by omega)]
theorem k_Bytes_at {k n u : Nat} {sh : hs_} {F : hF_} {R : hR_} {A : hF_} {B : hR_} {o v z s : Nat} {i : Int32} {Q : Option Value → pm_H → Prop} (hb : isB sh F R o v z s) :
    rc_ k mX1_at [.ref o, .int i] (mkh n u sh F R A B) Q ↔ Q (some (.int (bat A v s i))) (mkh n u sh F R A B) := by
  obtain ⟨ho, hv, ha, hz, hs, hsz⟩ := hb
  rw [eX1_at]
  unfold bat
  by_cases h0 : i < nI 0
  · simp only [rX1_at_0, rX1_at_1, rX1_at_4, rX1_at_5, rX1_at_6, rX1_at_9, rX1_at_12, rX1_at_13, rX1_at_16, rX1_at_17, rX1_at_18, rX1_at_21, rX1_at_22, h0, up2_eq, va_rf, eq_self, or_true, true_or, Option.toList_some, Option.toList_none, List.cons_append, List.nil_append, if_true, if_false]
  · simp only [rX1_at_0, rX1_at_1, rX1_at_4, rX1_at_5, rX1_at_6, rX1_at_9, h0, ho, hs, up2_eq, va_rf, eq_self, or_true, true_or, Option.toList_some, Option.toList_none, List.cons_append, List.nil_append, if_true, if_false]
    by_cases h1 : nI s ≤ i
    · simp only [rX1_at_0, rX1_at_1, rX1_at_4, rX1_at_5, rX1_at_6, rX1_at_9, rX1_at_12, rX1_at_13, rX1_at_16, rX1_at_17, rX1_at_18, rX1_at_21, rX1_at_22, h1, up2_eq, va_rf, eq_self, or_true, true_or, Option.toList_some, Option.toList_none, List.cons_append, List.nil_append, if_true, if_false]
    · obtain ⟨j, hj, rfl⟩ := nI_of h0
      have hlt : j < s := Nat.not_le.mp fun q => h1 (nI_le q hj)
      simp only [rX1_at_12, rX1_at_13, rX1_at_16, h1, ho, hv, up2_eq, va_rf, eq_self, or_true, true_or, Option.toList_some, Option.toList_none, List.cons_append, List.nil_append, if_true, if_false]
      rw [rX1_at_17 ha (by decide) (by omega) (by omega), nI_clamp hj]
      simp only [rX1_at_18, rX1_at_21, rX1_at_22]
theorem k_Bytes_clear {k n u : Nat} {sh : hs_} {F : hF_} {R : hR_} {A : hF_} {B : hR_} {o : Nat} {Q : Option Value → pm_H → Prop} (ho : sh o = some (0, 1, 0)) :
    rc_ k mX1_clear [.ref o] (mkh n u sh F R A B) Q ↔ Q none (mkh n u sh (up2 F 101 o (nI 0)) R A B) := by
  rw [eX1_clear]
  simp only [rX1_clear_0, rX1_clear_1, rX1_clear_2, rX1_clear_5, ho]
theorem k_Bytes_shorten {k n u : Nat} {sh : hs_} {F : hF_} {R : hR_} {A : hF_} {B : hR_} {o v z s j : Nat} {Q : Option Value → pm_H → Prop} (hb : isB sh F R o v z s) (hj : j ≤ s) :
    rc_ k mX1_shorten [.ref o, .int (nI j)] (mkh n u sh F R A B) Q ↔ Q none (mkh n u sh (up2 F 101 o (nI j)) R A B) := by
  obtain ⟨ho, hv, ha, hz, hs, hsz⟩ := hb
  have h0 : ¬ nI j < nI 0 := nI_nlt (Nat.zero_le j) (by omega)
  rw [eX1_shorten]
  simp only [rX1_shorten_0, rX1_shorten_1, rX1_shorten_4, rX1_shorten_5, rX1_shorten_6, rX1_shorten_9, h0, ho, hs, up2_eq, va_rf, eq_self, or_true, true_or, Option.toList_some, Option.toList_none, List.cons_append, List.nil_append, if_true, if_false]
  by_cases h1 : j = s
  · subst h1
    have h2 : nI j ≤ nI j := nI_le (Nat.le_refl j) (by omega)
    simp only [rX1_shorten_0, rX1_shorten_1, rX1_shorten_4, rX1_shorten_5, rX1_shorten_6, rX1_shorten_9, rX1_shorten_12, rX1_shorten_13, rX1_shorten_14, rX1_shorten_17, h2, up2_eq, va_rf, eq_self, or_true, true_or, Option.toList_some, Option.toList_none, List.cons_append, List.nil_append, if_true, if_false]
    rw [← hs, up2_id]
  · have h2 : ¬ nI s ≤ nI j := nI_ge (by omega) (by omega)
    simp only [rX1_shorten_0, rX1_shorten_1, rX1_shorten_4, rX1_shorten_5, rX1_shorten_6, rX1_shorten_9, rX1_shorten_12, rX1_shorten_13, rX1_shorten_14, rX1_shorten_17, h2, ho, up2_eq, va_rf, eq_self, or_true, true_or, Option.toList_some, Option.toList_none, List.cons_append, List.nil_append, if_true, if_false]
theorem k_Bytes_add {k n u : Nat} {sh : hs_} {F : hF_} {R : hR_} {A : hF_} {B : hR_} {o v z s : Nat} {x : Int32} {Q : Option Value → pm_H → Prop} (hb : isB sh F R o v z s) (hlt : s < z) :
    rc_ k mX1_add [.ref o, .int x] (mkh n u sh F R A B) Q ↔ Q none (mkh n u sh (up2 F 101 o (nI (s + 1))) R (up2 A v s (x &&& nI 255)) B) := by
  obtain ⟨ho, hv, ha, hz, hs, hsz⟩ := hb
  rw [eX1_add]
  have h1 : ¬ nI z ≤ nI s := nI_ge hlt (by omega)
  simp only [rX1_add_0, rX1_add_1, rX1_add_4, rX1_add_5, ho, hv, hs, up2_eq, va_rf, eq_self, or_true, true_or, Option.toList_some, Option.toList_none, List.cons_append, List.nil_append, if_true, if_false]
  rw [rX1_add_8 ha]
  simp only [rX1_add_9, rX1_add_12, rX1_add_13, rX1_add_16, rX1_add_17, rX1_add_20, rX1_add_21, rX1_add_24, ho, hv, hs, h1, up2_eq, va_rf, eq_self, or_true, true_or, Option.toList_some, Option.toList_none, List.cons_append, List.nil_append, if_true, if_false]
  rw [rX1_add_25 ha (by omega) (by omega)]
  simp only [rX1_add_26, rX1_add_27, rX1_add_28, rX1_add_31, rX1_add_32, rX1_add_33, rX1_add_36, ho, hs, nI_add, up2_eq, va_rf, eq_self, or_true, true_or, Option.toList_some, Option.toList_none, List.cons_append, List.nil_append, if_true, if_false]
theorem k_Bytes_raise {k n u : Nat} {sh : hs_} {F : hF_} {R : hR_} {A : hF_} {B : hR_} {o v z s j : Nat} {x : Int32} {Q : Option Value → pm_H → Prop} (hb : isB sh F R o v z s) (hj : j < s) :
    rc_ k mX1_raise [.ref o, .int (nI j), .int x] (mkh n u sh F R A B) Q ↔ Q none (mkh n u sh F R (up2 A v j (A v j ||| (x &&& nI 255))) B) := by
  obtain ⟨ho, hv, ha, hz, hs, hsz⟩ := hb
  rw [eX1_raise]
  have h0 : ¬ nI j < nI 0 := nI_nlt (Nat.zero_le j) (by omega)
  have h1 : ¬ nI s ≤ nI j := nI_ge hj (by omega)
  simp only [rX1_raise_0, rX1_raise_1, rX1_raise_4, rX1_raise_5, rX1_raise_6, rX1_raise_9, rX1_raise_12, rX1_raise_13, rX1_raise_16, rX1_raise_17, ho, hv, hs, h0, h1, up2_eq, va_rf, eq_self, or_true, true_or, Option.toList_some, Option.toList_none, List.cons_append, List.nil_append, if_true, if_false]
  rw [rX1_raise_18 ha (by decide) (by omega) (by omega)]
  simp only [rX1_raise_19, rX1_raise_20, rX1_raise_23, rX1_raise_24]
  rw [rX1_raise_25 ha (by omega) (by omega), rX1_raise_26]
/-- c elements of row v2 from st on, laid into row v from s on -/
def acp (A : hF_) (v s v2 st c : Nat) : hF_ := fun a j => if a = v ∧ s ≤ j ∧ j < s + c then A v2 (st + (j - s)) else A a j
theorem acp_0 {A : hF_} {v s v2 st : Nat} : acp A v s v2 st 0 = A := by
  funext a j
  unfold acp
  rw [if_neg (by omega)]
theorem acp_s {A : hF_} {v s v2 st c : Nat} : up2 (acp A v s v2 st c) v (s + c) (A v2 (st + c)) = acp A v s v2 st (c + 1) := by
  funext a j
  unfold acp up2
  dsimp only
  by_cases ha : a = v
  · subst ha
    by_cases hj : j = s + c
    · subst hj
      rw [if_pos rfl, if_pos rfl, if_pos ⟨rfl, by omega, by omega⟩, show s + c - s = c by omega]
    · rw [if_pos rfl, if_neg hj]
      by_cases h : s ≤ j ∧ j < s + c
      · rw [if_pos ⟨rfl, h.1, h.2⟩, if_pos ⟨rfl, by omega, by omega⟩]
      · rw [if_neg (by omega), if_neg (by omega)]
  · rw [if_neg ha, if_neg (fun h => ha h.1), if_neg (fun h => ha h.1)]
theorem acp_out {A : hF_} {v s v2 st c a j : Nat} (h : a ≠ v ∨ j < s ∨ s + c ≤ j) : acp A v s v2 st c a j = A a j := by
  unfold acp
  rw [if_neg (by omega)]
theorem acp_in {A : hF_} {v s v2 st c j : Nat} (h1 : s ≤ j) (h2 : j < s + c) : acp A v s v2 st c v j = A v2 (st + (j - s)) := by
  unfold acp
  rw [if_pos ⟨rfl, h1, h2⟩]
theorem isB.size {sh : hs_} {F : hF_} {R : hR_} {o v z s s' : Nat} (hb : isB sh F R o v z s) (h : s' ≤ z) : isB sh (up2 F 101 o (nI s')) R o v z s' := ⟨hb.1, hb.2.1, hb.2.2.1, hb.2.2.2.1, up2_eq, h⟩
theorem isB.other {sh : hs_} {F : hF_} {R : hR_} {o v z s o' : Nat} {x : Int32} (hb : isB sh F R o v z s) (h : o ≠ o') : isB sh (up2 F 101 o' x) R o v z s := ⟨hb.1, hb.2.1, hb.2.2.1, hb.2.2.2.1, by rw [up2_a h]; exact hb.2.2.2.2.1, hb.2.2.2.2.2⟩
theorem isB.id {sh : hs_} {F : hF_} {R : hR_} {o v z s : Nat} (hb : isB sh F R o v z s) : up2 F 101 o (nI s) = F := by rw [← hb.2.2.2.2.1, up2_id]
theorem l_Bytes_append {k n u : Nat} {sh : hs_} {F : hF_} {R : hR_} {A : hF_} {B : hR_} {o v z s o2 v2 z2 s2 st c : Nat} {Q : Option Value → pm_H → Prop} (hb : isB sh F R o v z s) (hb2 : isB sh F R o2 v2 z2 s2) (hst : st + c ≤ s2) (hc : s + c ≤ z) (hal : v2 = v → st + c ≤ s) (hy : ∀ j, j < s2 → A v2 j &&& nI 255 = A v2 j) :
    ∀ d i, i + d = c → (rw_ (k + 1) mX1_append 3 [.ref o, .ref o2, .int (nI st), .int (nI c), .int (nI i)] [] (mkh n u sh (up2 F 101 o (nI (s + i))) R (acp A v s v2 st i) B) Q ↔ Q none (mkh n u sh (up2 F 101 o (nI (s + c))) R (acp A v s v2 st c) B)) := by
  have hz := hb.2.2.2.1
  have hz2 := hb2.2.2.2.1
  have hs2 := hb2.2.2.2.2.2
  intro d
  induction d with
  | zero =>
    intro i hi
    have e : i = c := by omega
    subst e
    have h1 : nI i ≤ nI i := nI_le (Nat.le_refl _) (by omega)
    simp only [rX1_append_0, rX1_append_1, rX1_append_3, rX1_append_5, rX1_append_6, rX1_append_9, rX1_append_10, rX1_append_10_n, rX1_append_11, rX1_append_12, rX1_append_14, rX1_append_15, rX1_append_18, rX1_append_21, rX1_append_24, rX1_append_27, h1, up2_eq, va_rf, eq_self, or_true, true_or, Option.toList_some, Option.toList_none, List.cons_append, List.nil_append, if_true, if_false]
  | succ d ih =>
    intro i hi
    have h1 : ¬ nI c ≤ nI i := nI_ge (by omega) (by omega)
    have hbi := hb.size (s' := s + i) (by omega)
    have hb2i : isB sh (up2 F 101 o (nI (s + i))) R o2 v2 z2 (if o2 = o then s + i else s2) := by
      by_cases e : o2 = o
      · subst e
        have hv : v2 = v := Option.some.inj (hb2.2.1.symm.trans hb.2.1)
        subst hv
        have hzz : z2 = z := by have := hb2.2.2.1.symm.trans hb.2.2.1; simp at this; exact this
        subst hzz
        rw [if_pos rfl]
        exact hbi
      · rw [if_neg e]
        exact hb2.other e
    have hlt : st + i < (if o2 = o then s + i else s2) := by
      by_cases e : o2 = o
      · rw [if_pos e]
        subst e
        have hv : v2 = v := Option.some.inj (hb2.2.1.symm.trans hb.2.1)
        have := hal hv
        omega
      · rw [if_neg e]; omega
    have hle : (if o2 = o then s + i else s2) < 2 ^ 31 := by split <;> omega
    have hval : acp A v s v2 st i v2 (st + i) = A v2 (st + i) := acp_out (by
      by_cases e : v2 = v
      · right; left
        have := hal e
        omega
      · exact Or.inl e)
    simp only [rX1_append_3, rX1_append_5, rX1_append_6, rX1_append_9, rX1_append_10, rX1_append_10_n, rX1_append_11, rX1_append_12, rX1_append_14, h1, nI_add, up2_eq, va_rf, eq_self, or_true, true_or, Option.toList_some, Option.toList_none, List.cons_append, List.nil_append, if_true, if_false]
    rw [rX1_append_15 hb2.1, k_Bytes_at hb2i, bat_in hlt hle, hval]
    simp only [up2_eq, va_rf, eq_self, or_true, true_or, Option.toList_some, Option.toList_none, List.cons_append, List.nil_append, if_true, if_false]
    rw [rX1_append_18 hb.1, k_Bytes_add hbi (by omega), hy _ (by omega), up2_up2, acp_s]
    simp only [rX1_append_21, rX1_append_24, nI_add, up2_eq, va_rf, eq_self, or_true, true_or, Option.toList_some, Option.toList_none, List.cons_append, List.nil_append, if_true, if_false]
    have := ih (i + 1) (by omega)
    rw [show s + i + 1 = s + (i + 1) by omega]
    exact this
theorem k_Bytes_append {k n u : Nat} {sh : hs_} {F : hF_} {R : hR_} {A : hF_} {B : hR_} {o v z s o2 v2 z2 s2 st c : Nat} {Q : Option Value → pm_H → Prop} (hb : isB sh F R o v z s) (hb2 : isB sh F R o2 v2 z2 s2) (hst : st + c ≤ s2) (hc : s + c ≤ z) (hal : v2 = v → st + c ≤ s) (hy : ∀ j, j < s2 → A v2 j &&& nI 255 = A v2 j) :
    rc_ (k + 1) mX1_append [.ref o, .ref o2, .int (nI st), .int (nI c)] (mkh n u sh F R A B) Q ↔ Q none (mkh n u sh (up2 F 101 o (nI (s + c))) R (acp A v s v2 st c) B) := by
  rw [eX1_append]
  simp only [rX1_append_0, rX1_append_1]
  have h := l_Bytes_append (k := k) (n := n) (u := u) (B := B) (Q := Q) hb hb2 hst hc hal hy c 0 (by omega)
  rw [acp_0, show s + 0 = s from rfl, hb.id] at h
  exact h
/-- nothing is appended -/
theorem k_Bytes_append0 {k n u : Nat} {sh : hs_} {F : hF_} {R : hR_} {A : hF_} {B : hR_} {o o2 st : Nat} {Q : Option Value → pm_H → Prop} :
    rc_ k mX1_append [.ref o, .ref o2, .int (nI st), .int (nI 0)] (mkh n u sh F R A B) Q ↔ Q none (mkh n u sh F R A B) := by
  rw [eX1_append]
  have h1 : nI 0 ≤ nI 0 := nI_le (Nat.le_refl _) (by omega)
  simp only [rX1_append_0, rX1_append_1, rX1_append_3, rX1_append_5, rX1_append_6, rX1_append_9, rX1_append_10, rX1_append_10_n, rX1_append_11, rX1_append_12, rX1_append_14, rX1_append_15, rX1_append_18, rX1_append_21, rX1_append_24, rX1_append_27, h1, up2_eq, va_rf, eq_self, or_true, true_or, Option.toList_some, Option.toList_none, List.cons_append, List.nil_append, if_true, if_false]
theorem k_Bytes_become {k n u : Nat} {sh : hs_} {F : hF_} {R : hR_} {A : hF_} {B : hR_} {o v z s o2 v2 z2 s2 : Nat} {Q : Option Value → pm_H → Prop} (hb : isB sh F R o v z s) (hb2 : isB sh F R o2 v2 z2 s2) (hne : o2 ≠ o) (hv : v2 ≠ v) (hc : s2 ≤ z) (hy : ∀ j, j < s2 → A v2 j &&& nI 255 = A v2 j) :
    rc_ (k + 2) mX1_become [.ref o, .ref o2] (mkh n u sh F R A B) Q ↔ Q none (mkh n u sh (up2 F 101 o (nI s2)) R (acp A v 0 v2 0 s2) B) := by
  rw [eX1_become]
  simp only [rX1_become_0]
  rw [rX1_become_1 hb.1, k_Bytes_clear hb.1]
  have h2 : up2 F 101 o (nI 0) 101 o2 = nI s2 := by rw [up2_a hne]; exact hb2.2.2.2.2.1
  simp only [rX1_become_4, rX1_become_5, rX1_become_5_n, rX1_become_6, rX1_become_7, rX1_become_7_n, rX1_become_8, hb2.1, h2, up2_eq, va_rf, eq_self, or_true, true_or, Option.toList_some, Option.toList_none, List.cons_append, List.nil_append, if_true, if_false]
  rw [rX1_become_11 hb.1, k_Bytes_append (hb.size (Nat.zero_le z)) (hb2.other hne) (by omega) (by omega) (fun e => absurd e hv) hy, Nat.zero_add, up2_up2]
  simp only [rX1_become_14, up2_eq, va_rf, eq_self, or_true, true_or, Option.toList_some, Option.toList_none, List.cons_append, List.nil_append, if_true, if_false]
theorem k_Bytes_init {k n u : Nat} {sh : hs_} {F : hF_} {R : hR_} {A : hF_} {B : hR_} {o z : Nat} {Q : Option Value → pm_H → Prop} (ho : sh o = some (0, 1, 0)) (hne : o ≠ n) (hz : z ≤ 134217728) :
    rc_ (k + 1) mX1_init [.ref o, .int (nI z)] (mkh n u sh F R A B) Q ↔ Q none (mkh (n + 1) (u + z) (up1 sh n (some (1, 0, z))) F (up2 R 100 o (some n)) (up1 A n (fun _ => 0)) B) := by
  rw [eX1_init]
  have hm : (if nI z < nI 0 then nI 0 else nI z) = nI z := if_neg (nI_nlt (Nat.zero_le z) (by omega))
  simp only [rX1_init_0, rX1_init_1, rX1_init_4, rX1_init_5, rX1_init_6, rX1_init_7, hm]
  rw [rX1_init_10 hz]
  have ho2 : (up1 sh n (some (1, 0, z))) o = some (0, 1, 0) := by rw [up1_ne hne]; exact ho
  simp only [rX1_init_12, rX1_init_15, ho2]
/-- how many elements from the first on are the same, m at the most -/
def cpl (f g : Nat → Int32) : Nat → Nat
  | 0 => 0
  | m + 1 => if cpl f g m = m ∧ f m = g m then m + 1 else cpl f g m
theorem cpl_le {f g : Nat → Int32} : ∀ m, cpl f g m ≤ m
  | 0 => Nat.le_refl 0
  | m + 1 => by
    unfold cpl
    have := cpl_le (f := f) (g := g) m
    split <;> omega
theorem cpl_eq {f g : Nat → Int32} : ∀ m j, j < cpl f g m → f j = g j
  | 0, j, h => by simp [cpl] at h
  | m + 1, j, h => by
    unfold cpl at h
    split at h
    · rename_i hc
      rcases Nat.lt_or_ge j m with h1 | h1
      · exact cpl_eq m j (by omega)
      · rw [show j = m by omega]; exact hc.2
    · exact cpl_eq m j h
theorem cpl_ne {f g : Nat → Int32} : ∀ m, cpl f g m < m → f (cpl f g m) ≠ g (cpl f g m)
  | 0, h => by simp [cpl] at h
  | m + 1, h => by
    unfold cpl at h ⊢
    split at h
    · omega
    · rename_i hc
      rw [if_neg hc]
      rcases Nat.lt_or_ge (cpl f g m) m with h1 | h1
      · exact cpl_ne m h1
      · have e : cpl f g m = m := Nat.le_antisymm (cpl_le m) h1
        rw [e]
        exact fun q => hc ⟨e, q⟩
theorem cpl_uniq {f g : Nat → Int32} {m c : Nat} (h1 : c ≤ m) (h2 : ∀ j, j < c → f j = g j) (h3 : c < m → f c ≠ g c) : cpl f g m = c := by
  have a1 := cpl_le (f := f) (g := g) m
  rcases Nat.lt_trichotomy (cpl f g m) c with h | h | h
  · exact absurd (h2 _ h) (cpl_ne m (by omega))
  · exact h
  · exact absurd (cpl_eq m c h) (h3 (by omega))
