/-! ===== LEAST: the class's rows are these numbers ===== -/
/-- the rows at byte i, and the prices and parts behind it -/
def reA (A : hF_) (pk i m : Nat) (P T : Nat → Nat) (o : o5) : Prop := (A (pk + 1) i = nI o.1 ∧ A (pk + 2) i = nI o.2.1 ∧ A (pk + 3) i = nI o.2.2.1 ∧ A (pk + 4) i = o.2.2.2.1 ∧ A (pk + 5) i = nI o.2.2.2.2) ∧ (o.1 < 2 ^ 21 ∧ o.2.1 < 2 ^ 21) ∧ ∀ j, i < j → j ≤ m → A (pk + 1) j = nI (P j) ∧ A (pk + 2) j = nI (T j)
/-- prices and parts are small -/
def smP (P T : Nat → Nat) (m : Nat) : Prop := ∀ j, j ≤ m → P j < 2 ^ 19 ∧ T j < 2 ^ 19
theorem offA_ne {A : hF_} {pk i n a j : Nat} {kd pl bits : Int32} (h : j ≠ i) : offA A pk i kd pl n bits a j = A a j := by
  unfold offA
  split
  · rw [up2_a h, up2_a h, up2_a h, up2_a h, up2_a h]
  · rfl
theorem ownA_ne {A : hF_} {pk i a j : Nat} (h : j ≠ i) : ∀ c, ownA A pk i c a j = A a j
  | 0 => rfl
  | c + 1 => by unfold ownA; rw [offA_ne h, ownA_ne h c]
theorem cinA_ne {A : hF_} {pk i a j n0 : Nat} {kd pl head : Int32} (h : j ≠ i) : ∀ d, cinA A pk i kd pl head n0 d a j = A a j
  | 0 => rfl
  | d + 1 => by unfold cinA; rw [offA_ne h, cinA_ne h d]
theorem copA_ne {A : hF_} {pk i kd a j : Nat} {head : Int32} {rr : Nat → Nat} (h : j ≠ i) : ∀ p, (copA A pk i kd head rr p).1 a j = A a j
  | 0 => rfl
  | p + 1 => by unfold copA; dsimp only; rw [cinA_ne h, copA_ne h p]
theorem whoA_ne {A : hF_} {pk i a j : Nat} {E rr : Nat → Nat} (h : j ≠ i) : ∀ c, whoA A pk i E rr c a j = A a j
  | 0 => rfl
  | c + 1 => by
    unfold whoA
    split
    · rw [offA_ne h, whoA_ne h c]
    · rw [whoA_ne h c]
theorem offA_at {A : hF_} {pk i n : Nat} {kd pl bits : Int32} (h : bits + A (pk + 1) (i + n) < A (pk + 1) i ∨ (bits + A (pk + 1) (i + n) = A (pk + 1) i ∧ nI 1 + A (pk + 2) (i + n) < A (pk + 2) i)) :
    offA A pk i kd pl n bits (pk + 1) i = bits + A (pk + 1) (i + n) ∧ offA A pk i kd pl n bits (pk + 2) i = nI 1 + A (pk + 2) (i + n) ∧ offA A pk i kd pl n bits (pk + 3) i = kd ∧ offA A pk i kd pl n bits (pk + 4) i = pl ∧ offA A pk i kd pl n bits (pk + 5) i = nI n := by
  unfold offA
  rw [if_pos h]
  refine ⟨?_, ?_, ?_, ?_, ?_⟩
  · rw [up2_k (by omega), up2_k (by omega), up2_k (by omega), up2_k (by omega), up2_eq]
  · rw [up2_k (by omega), up2_k (by omega), up2_k (by omega), up2_eq]
  · rw [up2_k (by omega), up2_k (by omega), up2_eq]
  · rw [up2_k (by omega), up2_eq]
  · rw [up2_eq]
section REA
variable {A : hF_} {pk i m : Nat} {P T : Nat → Nat} {o : o5}
theorem reA_off {kd n bits : Nat} {pl : Int32} (h : reA A pk i m P T o) (hP : smP P T m) (hn : 0 < n) (hi : i + n ≤ m) (hb : bits < 2 ^ 19) : reA (offA A pk i (nI kd) pl n (nI bits)) pk i m P T (ofr P T i o kd pl n bits) := by
  obtain ⟨⟨a1, a2, a3, a4, a5⟩, ⟨b1, b2⟩, hc⟩ := id h
  obtain ⟨c1, c2⟩ := hc (i + n) (by omega) hi
  obtain ⟨p1, p2⟩ := hP (i + n) hi
  have key : (nI bits + A (pk + 1) (i + n) < A (pk + 1) i ∨ (nI bits + A (pk + 1) (i + n) = A (pk + 1) i ∧ nI 1 + A (pk + 2) (i + n) < A (pk + 2) i)) ↔ (bits + P (i + n) < o.1 ∨ (bits + P (i + n) = o.1 ∧ 1 + T (i + n) < o.2.1)) := by
    rw [c1, c2, a1, a2, nI_add, nI_add, nI_ltI (by omega) (by omega), nI_ltI (by omega) (by omega), nI_eq (by omega) (by omega)]
  unfold ofr
  by_cases g : bits + P (i + n) < o.1 ∨ (bits + P (i + n) = o.1 ∧ 1 + T (i + n) < o.2.1)
  · obtain ⟨e1, e2, e3, e4, e5⟩ := offA_at (kd := nI kd) (pl := pl) (key.mpr g)
    rw [if_pos g]
    refine ⟨⟨?_, ?_, e3, e4, e5⟩, ⟨by dsimp only; omega, by dsimp only; omega⟩, fun j h1 h2 => ?_⟩
    · rw [e1, c1, nI_add]
    · rw [e2, c2, nI_add]
    · rw [offA_ne (by omega), offA_ne (by omega)]
      exact hc j h1 h2
  · have e : offA A pk i (nI kd) pl n (nI bits) = A := by unfold offA; exact if_neg (fun x => g (key.mp x))
    rw [if_neg g, e]
    exact h
theorem gm_120 {n : Nat} (h : n ≤ 120) : gm n ≤ 13 := by
  have := wd_le 7 n (by omega)
  unfold gm
  omega
theorem reA_own (hg : ∀ n, 1 ≤ n → n ≤ 120 → A (pk + 8) n = nI (gm n)) (h0 : A (pk + 1) i = nI 1000000) (hc : ∀ j, i < j → j ≤ m → A (pk + 1) j = nI (P j) ∧ A (pk + 2) j = nI (T j)) (hP : smP P T m) (hm : m ≤ 120) : ∀ d, i + d + 1 ≤ m → reA (ownA A pk i (d + 1)) pk i m P T (ownS P T i d)
  | 0, hd => by
    obtain ⟨c1, c2⟩ := hc (i + 1) (by omega) (by omega)
    obtain ⟨p1, p2⟩ := hP (i + 1) (by omega)
    have hb : nI 2 + A (pk + 8) 1 + nI 8 * nI 1 = nI 11 := by rw [hg 1 (by omega) (by omega)]; decide
    obtain ⟨e1, e2, e3, e4, e5⟩ := offA_at (A := A) (pk := pk) (i := i) (n := 1) (kd := nI 0) (pl := -1) (bits := nI 11) (Or.inl (by rw [c1, h0, nI_add]; exact nI_lt (by omega) (by omega)))
    have he : ownA A pk i (0 + 1) = offA A pk i (nI 0) (-1) 1 (nI 11) := by
      show offA (ownA A pk i 0) pk i (nI 0) (-1) (0 + 1) (nI 2 + A (pk + 8) (0 + 1) + nI 8 * nI (0 + 1)) = _
      rw [Nat.zero_add, hb]
      rfl
    rw [he]
    refine ⟨⟨?_, ?_, e3, e4, e5⟩, ⟨?_, ?_⟩, fun j h1 h2 => ?_⟩
    · rw [e1, c1, nI_add]; rfl
    · rw [e2, c2, nI_add]; rfl
    · show 11 + P (i + 1) < 2 ^ 21; omega
    · show 1 + T (i + 1) < 2 ^ 21; omega
    · rw [offA_ne (by omega), offA_ne (by omega)]
      exact hc j h1 h2
  | d + 1, hd => by
    have ih := reA_own hg h0 hc hP hm d (by omega)
    have hgm := gm_120 (n := d + 2) (by omega)
    show reA (offA (ownA A pk i (d + 1)) pk i (nI 0) (-1) (d + 2) (nI 2 + A (pk + 8) (d + 2) + nI 8 * nI (d + 2))) pk i m P T (ofr P T i (ownS P T i d) 0 (-1) (d + 2) (2 + gm (d + 2) + 8 * (d + 2)))
    rw [hg (d + 2) (by omega) (by omega), nI_add, pk_mul, nI_add]
    exact reA_off ih hP (by omega) (by omega) (by omega)
theorem reA_cin {kd head n0 : Nat} {pl : Int32} (hg : ∀ n, 1 ≤ n → n ≤ 120 → A (pk + 8) n = nI (gm n)) (h : reA A pk i m P T o) (hP : smP P T m) (hm : m ≤ 120) (hh : head ≤ 2 ^ 18) (hn0 : 3 ≤ n0) : ∀ d, i + n0 + d ≤ m + 1 → reA (cinA A pk i (nI kd) pl (nI head) n0 d) pk i m P T (cinS P T i kd pl head n0 o d)
  | 0, _ => h
  | d + 1, hd => by
    have ih := reA_cin (kd := kd) (pl := pl) hg h hP hm hh hn0 d (by omega)
    have hgm := gm_120 (n := n0 + d - 2) (by omega)
    unfold cinA cinS
    rw [hg (n0 + d - 2) (by omega) (by omega), nI_add]
    exact reA_off ih hP (by omega) (by omega) (by omega)
theorem copA_S {kd head : Nat} {rr mo : Nat → Nat} : ∀ p, (∀ j, j < p → mostF kd i rr j = mo j) → (copA A pk i kd (nI head) rr p).2 = (copS P T i kd head mo o p).2
  | 0, _ => rfl
  | p + 1, h => by
    unfold copA copS
    dsimp only
    rw [copA_S p (fun j hj => h j (by omega)), h p (by omega)]
theorem reA_cop {kd head : Nat} {rr mo : Nat → Nat} (hg : ∀ n, 1 ≤ n → n ≤ 120 → A (pk + 8) n = nI (gm n)) (h : reA A pk i m P T o) (hP : smP P T m) (hm : m ≤ 120) (hh : head ≤ 2 ^ 18) : ∀ p, (∀ j, j < p → mostF kd i rr j = mo j ∧ mo j ≤ m - i) → reA (copA A pk i kd (nI head) rr p).1 pk i m P T (copS P T i kd head mo o p).1
  | 0, _ => h
  | p + 1, hq => by
    have ih := reA_cop (kd := kd) (rr := rr) hg h hP hm hh p (fun j hj => hq j (by omega))
    have h2 := copA_S (A := A) (pk := pk) (i := i) (P := P) (T := T) (o := o) (kd := kd) (head := head) (rr := rr) (mo := mo) p (fun j hj => (hq j (by omega)).1)
    have h3 := (copSM (P := P) (T := T) (i := i) (kd := kd) (head := head) (mo := mo) (cur := o) p).2.1
    obtain ⟨q1, q2⟩ := hq p (by omega)
    have hg2 : ∀ n, 1 ≤ n → n ≤ 120 → (copA A pk i kd (nI head) rr p).1 (pk + 8) n = nI (gm n) := fun n a b => by rw [copA_out (by omega)]; exact hg n a b
    unfold copA copS
    dsimp only
    rw [h2, q1]
    by_cases c1 : mo p ≤ (copS P T i kd head mo o p).2
    · rw [show mo p - (copS P T i kd head mo o p).2 = 0 by omega]
      exact ih
    · exact reA_cin hg2 ih hP hm hh (by omega) _ (by omega)
theorem reA_who {c : Nat} {E rr : Nat → Nat} {wh : Nat → Bool} (hg : ∀ n, 1 ≤ n → n ≤ 120 → A (pk + 8) n = nI (gm n)) (h : reA A pk i m P T o) (hP : smP P T m) (hc : c ≤ 20) (hw : ∀ q, q < c → ((0 < E q - pst E q ∧ rr (pst E q) = E q - pst E q) ↔ wh q = true)) (hl : ∀ q, q < c → wh q = true → i + (E q - pst E q) ≤ m) : ∀ q, q ≤ c → reA (whoA A pk i E rr q) pk i m P T (whoS P T i E wh o q)
  | 0, _ => h
  | q + 1, hq => by
    have ih := reA_who hg h hP hc hw hl q (by omega)
    have hgm := gm_120 (n := q + 1) (by omega)
    unfold whoA whoS
    by_cases c1 : wh q = true
    · have c2 := (hw q (by omega)).mpr c1
      rw [if_pos c1, if_pos c2, hg (q + 1) (by omega) (by omega), nI_add]
      exact reA_off ih hP c2.1 (hl q (by omega) c1) (by omega)
    · rw [if_neg c1, if_neg (fun x => c1 ((hw q (by omega)).mp x))]
      exact ih
end REA
