/-! ===== LEAST, as numbers: offers, first over a row of offers, then the class's rows ===== -/
/-- price, parts, kind, place, size -/
abbrev o5 : Type := Nat × Nat × Nat × Int32 × Nat
def ofr (P T : Nat → Nat) (i : Nat) (cur : o5) (kd : Nat) (pl : Int32) (n bits : Nat) : o5 :=
  if bits + P (i + n) < cur.1 ∨ (bits + P (i + n) = cur.1 ∧ 1 + T (i + n) < cur.2.1) then (bits + P (i + n), 1 + T (i + n), kd, pl, n) else cur
/-- not worse than what an offer would give -/
def leo (P T : Nat → Nat) (i : Nat) (cur : o5) (n bits : Nat) : Prop := cur.1 < bits + P (i + n) ∨ (cur.1 = bits + P (i + n) ∧ cur.2.1 ≤ 1 + T (i + n))
theorem leo_no {P T : Nat → Nat} {i : Nat} {cur : o5} {kd : Nat} {pl : Int32} {n bits : Nat} (h : leo P T i cur n bits) : ofr P T i cur kd pl n bits = cur := by
  unfold ofr
  rcases h with h | h <;> rw [if_neg (by omega)]
theorem leo_self {P T : Nat → Nat} {i : Nat} {cur : o5} {kd : Nat} {pl : Int32} {n bits : Nat} : leo P T i (ofr P T i cur kd pl n bits) n bits := by
  unfold ofr leo
  split
  · right; exact ⟨rfl, Nat.le_refl _⟩
  · omega
theorem leo_mono {P T : Nat → Nat} {i : Nat} {cur : o5} {kd : Nat} {pl : Int32} {n bits n' bits' : Nat} (h : leo P T i cur n bits) : leo P T i (ofr P T i cur kd pl n' bits') n bits := by
  unfold ofr
  split
  · unfold leo at h ⊢
    dsimp only
    omega
  · exact h
def ownS (P T : Nat → Nat) (i : Nat) : Nat → o5
  | 0 => (11 + P (i + 1), 1 + T (i + 1), 0, -1, 1)
  | c + 1 => ofr P T i (ownS P T i c) 0 (-1) (c + 2) (2 + gm (c + 2) + 8 * (c + 2))
def cinS (P T : Nat → Nat) (i kd : Nat) (pl : Int32) (head n0 : Nat) (cur : o5) : Nat → o5
  | 0 => cur
  | d + 1 => ofr P T i (cinS P T i kd pl head n0 cur d) kd pl (n0 + d) (head + gm (n0 + d - 2))
def copS (P T : Nat → Nat) (i kd head : Nat) (mo : Nat → Nat) (cur : o5) : Nat → o5 × Nat
  | 0 => (cur, 2)
  | p + 1 => (cinS P T i kd (nI p) head ((copS P T i kd head mo cur p).2 + 1) (copS P T i kd head mo cur p).1 (mo p - (copS P T i kd head mo cur p).2), max (copS P T i kd head mo cur p).2 (mo p))
def copM (P T : Nat → Nat) (i kd head : Nat) (mo : Nat → Nat) (cur : o5) : Nat → o5
  | 0 => cur
  | p + 1 => cinS P T i kd (nI p) head 3 (copM P T i kd head mo cur p) (mo p - 2)
theorem cinS_leo {P T : Nat → Nat} {i kd head n0 n bits : Nat} {pl : Int32} {cur : o5} (h : leo P T i cur n bits) : ∀ d, leo P T i (cinS P T i kd pl head n0 cur d) n bits
  | 0 => h
  | d + 1 => leo_mono (cinS_leo h d)
theorem cinS_in {P T : Nat → Nat} {i kd head n0 : Nat} {pl : Int32} {cur : o5} : ∀ d j, j < d → leo P T i (cinS P T i kd pl head n0 cur d) (n0 + j) (head + gm (n0 + j - 2))
  | 0, j, h => by omega
  | d + 1, j, h => by
    by_cases e : j = d
    · subst e; exact leo_self
    · exact leo_mono (cinS_in d j (by omega))
theorem cinS_no {P T : Nat → Nat} {i kd head n0 : Nat} {pl : Int32} {cur : o5} : ∀ d, (∀ j, j < d → leo P T i cur (n0 + j) (head + gm (n0 + j - 2))) → cinS P T i kd pl head n0 cur d = cur
  | 0, _ => rfl
  | d + 1, h => by
    unfold cinS
    rw [cinS_no d (fun j hj => h j (by omega)), leo_no (h d (by omega))]
theorem cinS_app {P T : Nat → Nat} {i kd head n0 a : Nat} {pl : Int32} {cur : o5} : ∀ d, cinS P T i kd pl head n0 cur (a + d) = cinS P T i kd pl head (n0 + a) (cinS P T i kd pl head n0 cur a) d
  | 0 => rfl
  | d + 1 => by
    show ofr P T i (cinS P T i kd pl head n0 cur (a + d)) kd pl (n0 + (a + d)) (head + gm (n0 + (a + d) - 2)) = _
    rw [cinS_app d, show n0 + (a + d) = n0 + a + d by omega]
    rfl
/-- pruned offers change nothing -/
theorem copSM {P T : Nat → Nat} {i kd head : Nat} {mo : Nat → Nat} {cur : o5} : ∀ p, (copS P T i kd head mo cur p).1 = copM P T i kd head mo cur p ∧ 2 ≤ (copS P T i kd head mo cur p).2 ∧ ∀ n, 3 ≤ n → n ≤ (copS P T i kd head mo cur p).2 → leo P T i (copM P T i kd head mo cur p) n (head + gm (n - 2))
  | 0 => ⟨rfl, Nat.le_refl _, fun n h1 h2 => by unfold copS at h2; dsimp only at h2; omega⟩
  | p + 1 => by
    obtain ⟨h1, h2, h3⟩ := copSM (P := P) (T := T) (i := i) (kd := kd) (head := head) (mo := mo) (cur := cur) p
    unfold copS copM
    dsimp only
    rw [h1]
    generalize (copS P T i kd head mo cur p).2 = t at *
    generalize copM P T i kd head mo cur p = C at *
    have hs : cinS P T i kd (nI p) head 3 C (mo p - 2) = cinS P T i kd (nI p) head (t + 1) C (mo p - t) := by
      have e1 : cinS P T i kd (nI p) head 3 C (min t (mo p) - 2) = C := cinS_no _ (fun j hj => h3 (3 + j) (by omega) (by omega))
      by_cases c : mo p ≤ t
      · rw [show mo p - t = 0 by omega, show mo p - 2 = min t (mo p) - 2 by omega, e1]
        rfl
      · rw [show mo p - 2 = (min t (mo p) - 2) + (mo p - t) by omega, cinS_app, e1, show 3 + (min t (mo p) - 2) = t + 1 by omega]
    refine ⟨hs.symm, by omega, fun n g1 g2 => ?_⟩
    by_cases c : n ≤ t
    · exact cinS_leo (h3 n g1 c) _
    · have := cinS_in (P := P) (T := T) (i := i) (kd := kd) (head := head) (n0 := 3) (pl := nI p) (cur := C) (mo p - 2) (n - 3) (by omega)
      rw [show 3 + (n - 3) = n by omega] at this
      exact this
def whoS (P T : Nat → Nat) (i : Nat) (E : Nat → Nat) (wh : Nat → Bool) (cur : o5) : Nat → o5
  | 0 => cur
  | q + 1 => if wh q = true then ofr P T i (whoS P T i E wh cur q) 3 (nI q) (E q - pst E q) (2 + gm (q + 1)) else whoS P T i E wh cur q
/-- how far the letter from i on is the row from p on, within the piece -/
def tol (lf f : Nat → Int32) (m c : Nat) (E : Nat → Nat) (i p : Nat) : Nat := cpl (fun j => lf (i + j)) (fun j => f (p + j)) (min (m - i) (ear E p c 0 - p))
/-- ... and the letter from p on, up to i -/
def fal (lf : Nat → Int32) (m i p : Nat) : Nat := cpl (fun j => lf (i + j)) (fun j => lf (p + j)) (min (m - i) (i - p))
/-- piece q is at i, whole -/
def whl (lf f : Nat → Int32) (m : Nat) (E : Nat → Nat) (i q : Nat) : Bool := decide (i + (E q - pst E q) ≤ m) && decide (cpl (fun j => lf (i + j)) (fun j => f (pst E q + j)) (E q - pst E q) = E q - pst E q)
def stg (lf f : Nat → Int32) (m s c : Nat) (E : Nat → Nat) (rk : Bool) (P T : Nat → Nat) (i : Nat) : o5 :=
  if rk = true then whoS P T i E (whl lf f m E i) (copM P T i 2 (2 + wd i) (fal lf m i) (copM P T i 1 (2 + wd s) (tol lf f m c E i) (ownS P T i (m - i - 1)) s) i) c
  else copM P T i 2 (2 + wd i) (fal lf m i) (copM P T i 1 (2 + wd s) (tol lf f m c E i) (ownS P T i (m - i - 1)) s) i
/-- t bytes from the last on -/
def plN (lf f : Nat → Int32) (m s c : Nat) (E : Nat → Nat) (rk : Bool) : Nat → Nat → o5
  | 0, _ => (0, 0, 0, 0, 0)
  | t + 1, j => if j = m - (t + 1) then stg lf f m s c E rk (fun q => (plN lf f m s c E rk t q).1) (fun q => (plN lf f m s c E rk t q).2.1) j else plN lf f m s c E rk t j
