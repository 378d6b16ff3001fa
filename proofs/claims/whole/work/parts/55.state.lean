/-! ===== the state of a post, as numbers; the class's cells ===== -/
abbrev tN : Type := Nat → Nat → Nat
abbrev tJ : Type := Nat → Nat → Nat → Nat
/-- numbers, rows of bytes and of ends, ints -/
abbrev TT : Type := tN × tJ × hF_
def isB3 (N : tN) (b : Nat) : Prop := b < N 2 0 ∨ b = 25
def fI (f : Nat → Nat) : Nat → Int32 := fun j => nI (f j)
/-- LEAST of a letter L of m bytes with book b -/
def plT (N : tN) (J : tJ) (b m : Nat) (L : Nat → Nat) : Nat → o5 := plan (fI L) (fI (J 0 b)) m (N 5 b) (N 4 b) (J 3 b) (decide (N 3 b = 2))
/-- ... and its bits -/
def b5 (b : Nat) : Nat := if b = 25 then 0 else b + 1
def wrT (N : tN) (J : tJ) (b m : Nat) (L : Nat → Nat) : wst :=
  wrL (fun j => (plT N J b m L j).2.2.1) (fun j => (plT N J b m L j).2.2.2.1.toNatClampNeg) (fun j => (plT N J b m L j).2.2.2.2) L (N 5 b) m 120 0 (wS (wS ((fun _ => false), 0) (b5 b) 5) (m + 1) (gm (m + 1)))
def mbk (N : tN) (m : Nat) : Nat := if N 10 m = 0 then 25 else N 10 m - 1
def xRl : List (Nat × Nat × Nat) := [(1100, 0, 1), (100, 1, 2), (1101, 0, 3), (100, 3, 4), (1102, 0, 5), (500, 5, 6), (501, 5, 8), (100, 6, 7), (1103, 0, 9), (700, 9, 10), (702, 9, 11), (2, 11, 12), (500, 12, 13), (501, 12, 15), (100, 13, 14),
  (1104, 0, 16), (400, 16, 17), (401, 16, 18), (402, 16, 19), (403, 16, 20), (404, 16, 21), (405, 16, 22), (406, 16, 23), (407, 16, 24), (1105, 0, 25), (400, 25, 26), (401, 25, 27), (402, 25, 28), (403, 25, 29), (404, 25, 30), (405, 25, 31), (406, 25, 32), (407, 25, 33),
  (1106, 0, 34), (1107, 0, 35), (600, 35, 9), (601, 35, 36), (100, 36, 37), (1108, 0, 38), (800, 38, 25), (801, 38, 39), (803, 38, 40), (805, 38, 63), (806, 38, 41), (807, 38, 42), (500, 42, 43), (501, 42, 45), (100, 43, 44), (808, 38, 46),
  (100, 47, 48), (100, 49, 50), (100, 51, 52), (100, 53, 54), (100, 55, 56), (100, 57, 58), (100, 59, 60), (100, 61, 62), (1109, 0, 72), (900, 72, 9), (901, 72, 73), (902, 72, 74), (100, 74, 75), (1110, 0, 76), (100, 76, 77)]
def xSl : List (Nat × Nat × Nat × Nat) := [(0, 0, 11, 0), (1, 0, 1, 0), (2, 1, 0, 240), (3, 0, 1, 0), (4, 1, 0, 240), (5, 0, 5, 0), (6, 0, 1, 0), (7, 1, 0, 4000), (8, 1, 0, 20), (9, 0, 7, 0), (10, 2, 0, 24), (11, 0, 0, 0), (12, 0, 5, 0), (13, 0, 1, 0), (14, 1, 0, 0), (15, 1, 0, 0),
  (16, 0, 4, 0), (17, 1, 0, 121), (18, 1, 0, 121), (19, 1, 0, 121), (20, 1, 0, 121), (21, 1, 0, 121), (22, 1, 0, 321), (23, 1, 0, 121), (24, 1, 0, 121), (25, 0, 4, 0), (26, 1, 0, 121), (27, 1, 0, 121), (28, 1, 0, 121), (29, 1, 0, 121), (30, 1, 0, 121), (31, 1, 0, 321), (32, 1, 0, 121), (33, 1, 0, 121),
  (34, 0, 10, 0), (35, 0, 6, 0), (36, 0, 1, 0), (37, 1, 0, 120), (38, 0, 8, 0), (39, 2, 1, 8), (40, 2, 2, 8), (41, 1, 0, 8), (42, 0, 5, 0), (43, 0, 1, 0), (44, 1, 0, 72), (45, 1, 0, 6), (46, 1, 0, 6),
  (47, 0, 1, 0), (48, 1, 0, 40), (49, 0, 1, 0), (50, 1, 0, 40), (51, 0, 1, 0), (52, 1, 0, 40), (53, 0, 1, 0), (54, 1, 0, 40), (55, 0, 1, 0), (56, 1, 0, 40), (57, 0, 1, 0), (58, 1, 0, 40), (59, 0, 1, 0), (60, 1, 0, 40), (61, 0, 1, 0), (62, 1, 0, 40),
  (63, 0, 2, 0), (64, 0, 2, 0), (65, 0, 2, 0), (66, 0, 2, 0), (67, 0, 2, 0), (68, 0, 2, 0), (69, 0, 2, 0), (70, 0, 2, 0), (71, 0, 2, 0), (72, 0, 9, 0), (73, 2, 3, 200), (74, 0, 1, 0), (75, 1, 0, 0), (76, 0, 1, 0), (77, 1, 0, 125)]
/-- the cells that stay -/
def isX (sh : hs_) (R : hR_) (B : hR_) (x : Nat) : Prop := (∀ e, e ∈ xRl → R e.1 (x + e.2.1) = some (x + e.2.2)) ∧ (∀ e, e ∈ xSl → sh (x + e.1) = some e.2) ∧ (∀ i, i < 8 → B (x + 39) i = some (x + 47 + 2 * i)) ∧ (∀ i, i < 8 → B (x + 40) i = some (x + 64 + i))
theorem isX.r {sh : hs_} {R : hR_} {B : hR_} {x : Nat} (h : isX sh R B x) (q a b : Nat) (he : (q, a, b) ∈ xRl) : R q (x + a) = some (x + b) := h.1 (q, a, b) he
theorem isX.s {sh : hs_} {R : hR_} {B : hR_} {x : Nat} (h : isX sh R B x) (a b c d : Nat) (he : (a, b, c, d) ∈ xSl) : sh (x + a) = some (b, c, d) := h.2.1 (a, b, c, d) he
theorem isX_cong {sh sh' : hs_} {R R' : hR_} {B B' : hR_} {x : Nat} (h : isX sh R B x) (h1 : ∀ q a, a < x + 78 → q ≠ 200 → q ≠ 408 → q ≠ 409 → q ≠ 602 → q ≠ 903 → q ≠ 1000 → R' q a = R q a) (h2 : ∀ a, a < x + 78 → sh' a = sh a) (h3 : B' (x + 39) = B (x + 39)) (h4 : B' (x + 40) = B (x + 40)) : isX sh' R' B' x := by
  have d1 : ∀ e, e ∈ xRl → e.2.1 < 78 ∧ e.1 ≠ 200 ∧ e.1 ≠ 408 ∧ e.1 ≠ 409 ∧ e.1 ≠ 602 ∧ e.1 ≠ 903 ∧ e.1 ≠ 1000 := by decide
  have d2 : ∀ e, e ∈ xSl → e.1 < 78 := by decide
  refine ⟨fun e he => ?_, fun e he => ?_, by rw [h3]; exact h.2.2.1, by rw [h4]; exact h.2.2.2⟩
  · obtain ⟨a1, a2, a3, a4, a5, a6, a7⟩ := d1 e he
    rw [h1 _ _ (by omega) a2 a3 a4 a5 a6 a7]
    exact h.1 e he
  · have := d2 e he
    rw [h2 _ (by omega)]
    exact h.2.1 e he
theorem isX.K1 {sh : hs_} {R : hR_} {B : hR_} {x : Nat} (h : isX sh R B x) : isK sh R (x + 16) :=
  ⟨h.s 16 0 4 0 (by decide), ⟨h.r 400 16 17 (by decide), h.r 401 16 18 (by decide), h.r 402 16 19 (by decide), h.r 403 16 20 (by decide), h.r 404 16 21 (by decide), h.r 405 16 22 (by decide), h.r 406 16 23 (by decide), h.r 407 16 24 (by decide)⟩, h.s 17 1 0 121 (by decide), h.s 18 1 0 121 (by decide), h.s 19 1 0 121 (by decide), h.s 20 1 0 121 (by decide), h.s 21 1 0 121 (by decide), h.s 22 1 0 321 (by decide), h.s 23 1 0 121 (by decide), h.s 24 1 0 121 (by decide)⟩
theorem isX.K2 {sh : hs_} {R : hR_} {B : hR_} {x : Nat} (h : isX sh R B x) : isK sh R (x + 25) :=
  ⟨h.s 25 0 4 0 (by decide), ⟨h.r 400 25 26 (by decide), h.r 401 25 27 (by decide), h.r 402 25 28 (by decide), h.r 403 25 29 (by decide), h.r 404 25 30 (by decide), h.r 405 25 31 (by decide), h.r 406 25 32 (by decide), h.r 407 25 33 (by decide)⟩, h.s 26 1 0 121 (by decide), h.s 27 1 0 121 (by decide), h.s 28 1 0 121 (by decide), h.s 29 1 0 121 (by decide), h.s 30 1 0 121 (by decide), h.s 31 1 0 321 (by decide), h.s 32 1 0 121 (by decide), h.s 33 1 0 121 (by decide)⟩
theorem isX.T {sh : hs_} {R : hR_} {B : hR_} {x : Nat} (h : isX sh R B x) : isT sh R B (x + 38) (x + 25) := by
  refine ⟨⟨h.s 38 0 8 0 (by decide), h.r 800 38 25 (by decide)⟩, ⟨h.r 801 38 39 (by decide), h.s 39 2 1 8 (by decide)⟩, ⟨h.r 803 38 40 (by decide), h.s 40 2 2 8 (by decide)⟩, ⟨h.r 805 38 63 (by decide), h.s 63 0 2 0 (by decide)⟩, ⟨h.r 806 38 41 (by decide), h.s 41 1 0 8 (by decide)⟩, h.r 807 38 42 (by decide), ⟨h.r 808 38 46 (by decide), h.s 46 1 0 6 (by decide)⟩, fun i hi => ?_, fun i hi => ?_⟩
  · have e1 := h.2.2.1 i hi
    have d1 : ∀ i, i < 8 → (100, 47 + 2 * i, 48 + 2 * i) ∈ xRl := by decide
    have d2 : ∀ i, i < 8 → (47 + 2 * i, 0, 1, 0) ∈ xSl := by decide
    have d3 : ∀ i, i < 8 → (48 + 2 * i, 1, 0, 40) ∈ xSl := by decide
    have r1 := h.r _ _ _ (d1 i hi)
    have s1 := h.s _ _ _ _ (d2 i hi)
    have s2 := h.s _ _ _ _ (d3 i hi)
    rw [show x + (47 + 2 * i) = x + 38 + 9 + 2 * i by omega] at r1 s1
    rw [show x + (48 + 2 * i) = x + 38 + 10 + 2 * i by omega] at r1 s2
    rw [show x + 47 + 2 * i = x + 38 + 9 + 2 * i by omega] at e1
    exact ⟨e1, s1, r1, s2⟩
  · have e1 := h.2.2.2 i hi
    have d : ∀ i, i < 8 → (64 + i, 0, 2, 0) ∈ xSl := by decide
    have s1 := h.s _ _ _ _ (d i hi)
    rw [show x + (64 + i) = x + 38 + 26 + i by omega] at s1
    rw [show x + 64 + i = x + 38 + 26 + i by omega] at e1
    exact ⟨e1, s1⟩
/-- tape and OUT -/
def xTO (F : hF_) (A : hF_) (x : Nat) (N : tN) : Prop := (F 101 (x + 1) = nI (N 0 0) ∧ ∀ j, j < N 0 0 → A (x + 2) j = nI (N 30 j)) ∧ (F 101 (x + 3) = nI (N 1 0) ∧ ∀ j, j < N 1 0 → A (x + 4) j = nI (N 31 j))
/-- the draft -/
def xDr (F : hF_) (A : hF_) (x : Nat) (N : tN) (J : tJ) : Prop := F 502 (x + 5) = nI (N 4 24) ∧ F 101 (x + 6) = nI (N 5 24) ∧ (∀ q, q < N 4 24 → A (x + 8) q = nI (J 3 24 q)) ∧ ∀ j, j < N 5 24 → A (x + 7) j = nI (J 0 24 j)
/-- a book's cells, what it holds, how it stands -/
def bkS (sh : hs_) (R : hR_) (o c s : Nat) : Prop := sh o = some (0, 0, 0) ∧ R 2 o = some (o + 1) ∧ sh (o + 1) = some (0, 5, 0) ∧ R 500 (o + 1) = some (o + 2) ∧ R 501 (o + 1) = some (o + 4) ∧ sh (o + 2) = some (0, 1, 0) ∧ R 100 (o + 2) = some (o + 3) ∧ sh (o + 3) = some (1, 0, s) ∧ sh (o + 4) = some (1, 0, c)
def bkD (F : hF_) (A : hF_) (o kd c s : Nat) (E f : Nat → Nat) : Prop := F 1 o = nI kd ∧ F 502 (o + 1) = nI c ∧ F 101 (o + 2) = nI s ∧ (∀ q, q < c → A (o + 4) q = nI (E q)) ∧ ∀ j, j < s → A (o + 3) j = nI (f j)
def bkV (F : hF_) (o : Nat) (num : Int32) (st hd go : Nat) (sn tg se : Int32) : Prop := F 0 o = num ∧ F 3 o = nI st ∧ F 4 o = sn ∧ F 5 o = nI hd ∧ F 6 o = nI go ∧ F 7 o = tg ∧ F 8 o = se
def nm3 (b : Nat) : Int32 := if b = 25 then -1 else nI b
def xBk (n : Nat) (sh : hs_) (F : hF_) (R : hR_) (A : hF_) (B : hR_) (x : Nat) (ba : Nat → Nat) (T : TT) : Prop :=
  F 701 (x + 9) = nI (T.1 2 0) ∧ ba 25 = x + 11 ∧ (∀ b, b < T.1 2 0 → B (x + 10) b = some (ba b) ∧ x + 117 ≤ ba b ∧ ba b + 5 ≤ n) ∧ (∀ b b', b < b' → b' < T.1 2 0 → ba b + 5 ≤ ba b') ∧
  ∀ b, isB3 T.1 b → bkS sh R (ba b) (T.1 4 b) (T.1 5 b) ∧ bkD F A (ba b) (T.1 3 b) (T.1 4 b) (T.1 5 b) (T.2.1 3 b) (T.2.1 0 b) ∧ bkV F (ba b) (nm3 b) (T.1 18 b) (T.1 19 b) (T.1 20 b) (T.2.2 2 b) (T.2.2 3 b) (T.2.2 4 b)
/-- the latest pack, the fault -/
def xPk (F : hF_) (A : hF_) (x : Nat) (T : TT) : Prop := F 1111 x = (if T.1 14 0 = 0 then -1 else nI (T.1 25 0)) ∧ F 410 (x + 16) = nI (T.1 15 0) ∧ (T.1 14 0 ≠ 0 → ∀ j, j ≤ T.1 15 0 → A (x + 17) j = nI (T.1 24 j)) ∧ (∀ j, j < T.1 15 0 → A (x + 19) j = nI (T.1 23 j) ∧ A (x + 20) j = T.2.2 0 j ∧ A (x + 21) j = nI (T.1 22 j)) ∧ F 1112 x = nI (T.1 26 0)
/-- the packers' widths -/
def xGm (A : hF_) (x : Nat) : Prop := ∀ n, 1 ≤ n → n ≤ 120 → A (x + 24) n = nI (gm n) ∧ A (x + 33) n = nI (gm n)
/-- samples, gains -/
def xSm (F : hF_) (A : hF_) (x : Nat) (T : TT) : Prop := isSm F (x + 38) (T.1 6 0) (T.1 7) ∧ (∀ i, i < T.1 6 0 → ∀ j, j < T.1 7 i → A (x + 48 + 2 * i) j = nI (T.2.1 1 i j)) ∧ F 809 (x + 38) = nI (T.1 16 0) ∧ F 810 (x + 38) = nI (T.1 17 0) ∧ (∀ k, k < T.1 17 0 → A (x + 46) k = T.2.2 11 k) ∧
  ∃ c s, c ≤ 6 ∧ s ≤ 72 ∧ F 502 (x + 42) = nI c ∧ F 101 (x + 43) = nI s ∧ ∃ E : Nat → Nat, ∀ q, q < c → A (x + 45) q = nI (E q)
/-- a message -/
def msV (F : hF_) (R : hR_) (o so bo uw fa : Nat) (le : Int32) : Prop := F 300 o = nI so ∧ R 301 o = some bo ∧ F 302 o = le ∧ F 304 o = nI uw ∧ F 305 o = nI fa
def msL (n : Nat) (sh : hs_) (F : hF_) (R : hR_) (A : hF_) (x o : Nat) (S : wst) : Prop := ∃ w, R 303 o = some w ∧ x + 117 ≤ w ∧ w + 2 ≤ n ∧ sh w = some (0, 1, 0) ∧ R 100 w = some (w + 1) ∧ sh (w + 1) = some (1, 0, (S.2 + 7) / 8) ∧ F 101 w = nI ((S.2 + 7) / 8) ∧ ∀ j, j < (S.2 + 7) / 8 → A (w + 1) j = nI (byt S.1 j)
def xWi (n : Nat) (sh : hs_) (F : hF_) (R : hR_) (A : hF_) (B : hR_) (x : Nat) (ba ma : Nat → Nat) (T : TT) : Prop :=
  F 904 (x + 72) = nI (T.1 8 0) ∧ F 905 (x + 72) = T.2.2 6 0 ∧ F 906 (x + 72) = T.2.2 7 0 ∧ F 907 (x + 72) = T.2.2 8 0 ∧ R 903 (x + 72) = (if T.1 13 0 = 0 then none else some (ma (T.1 13 0 - 1))) ∧
  (∀ m, m < T.1 8 0 → B (x + 73) m = some (ma m) ∧ x + 117 ≤ ma m ∧ ma m < n ∧ sh (ma m) = some (0, 3, 0) ∧ msV F R (ma m) (T.1 9 m) (ba (mbk T.1 m)) (T.1 11 m) (T.1 21 m) (T.2.2 5 m) ∧ (T.1 9 m = 3 → msL n sh F R A x (ma m) (wrT T.1 T.2.1 (mbk T.1 m) (T.1 12 m) (T.2.1 2 m)))) ∧ (∀ m m', m < m' → m' < T.1 8 0 → ma m < ma m')
/-- the small rows that are always there: the reader's letter, the envelope -/
def xRd (F : hF_) (x : Nat) : Prop := (∃ s, s ≤ 120 ∧ F 101 (x + 36) = nI s) ∧ ∃ s, s ≤ 125 ∧ F 101 (x + 76) = nI s
def XS (n : Nat) (sh : hs_) (F : hF_) (R : hR_) (A : hF_) (B : hR_) (x : Nat) (ba ma : Nat → Nat) (T : TT) : Prop :=
  x + 117 ≤ n ∧ isX sh R B x ∧ xTO F A x T.1 ∧ xDr F A x T.1 T.2.1 ∧ xBk n sh F R A B x ba T ∧ xPk F A x T ∧ xGm A x ∧ xSm F A x T ∧ xWi n sh F R A B x ba ma T ∧ xRd F x
/-- a book's pieces stand -/
def okB (N : tN) (J : tJ) (b : Nat) : Prop := okE (J 3 b) (N 4 b) (N 5 b) ∧ N 4 b ≤ 20 ∧ N 5 b ≤ 320 ∧ N 3 b ≤ 2 ∧ (1 ≤ N 3 b → ∀ q, q < N 4 b → 0 < J 3 b q - pst (J 3 b) q) ∧ (∀ q, q < N 4 b → J 3 b q - pst (J 3 b) q ≤ 200) ∧ ∀ j, j < N 5 b → J 0 b j < 256
/-- what holds of every state -/
def okT (T : TT) : Prop :=
  (T.1 0 0 ≤ 240 ∧ ∀ j, j < T.1 0 0 → T.1 30 j < 256) ∧ (T.1 1 0 ≤ 240 ∧ ∀ j, j < T.1 1 0 → T.1 31 j < 256) ∧
  (T.1 4 24 ≤ 20 ∧ okE (T.2.1 3 24) (T.1 4 24) (T.1 5 24) ∧ (∀ q, q < T.1 4 24 → 0 < T.2.1 3 24 q - pst (T.2.1 3 24) q ∧ T.2.1 3 24 q - pst (T.2.1 3 24) q ≤ 200) ∧ ∀ j, j < T.1 5 24 → T.2.1 0 24 j < 256) ∧
  (T.1 2 0 ≤ 24 ∧ (∀ b, isB3 T.1 b → okB T.1 T.2.1 b ∧ T.1 18 b ≤ 3 ∧ T.1 19 b ≤ 1 ∧ T.1 20 b ≤ 1) ∧ T.1 3 25 = 0 ∧ T.1 4 25 = 0 ∧ T.1 5 25 = 0 ∧ T.1 18 25 = 2 ∧ T.1 19 25 = 1 ∧ T.1 20 25 = 0) ∧
  (T.1 15 0 ≤ 120 ∧ T.1 14 0 ≤ 1 ∧ (T.1 14 0 = 0 → T.1 15 0 = 0) ∧ T.1 25 0 < 2 ^ 20 ∧ ∀ j, j < T.1 15 0 → 1 ≤ T.1 22 j ∧ j + T.1 22 j ≤ T.1 15 0) ∧
  (T.1 6 0 ≤ 8 ∧ (∀ i, i < T.1 6 0 → T.1 7 i ≤ 40 ∧ ∀ j, j < T.1 7 i → T.2.1 1 i j < 256) ∧ T.1 17 0 ≤ 6) ∧
  (T.1 8 0 ≤ 200 ∧ (∀ m, m < T.1 8 0 → T.1 9 m ≤ 4 ∧ isB3 T.1 (mbk T.1 m) ∧ (T.1 10 m = 0 → T.1 9 m = 3) ∧ T.1 10 m ≤ T.1 2 0 ∧ T.1 11 m ≤ 3 ∧ T.1 21 m ≤ 2 ∧ (T.1 9 m = 3 → T.1 12 m ≤ 120 ∧ ∀ j, j < T.1 12 m → T.2.1 2 m j < 256)) ∧ T.1 13 0 ≤ T.1 8 0 ∧ (T.1 13 0 ≠ 0 → T.1 9 (T.1 13 0 - 1) = 3)) ∧ T.1 26 0 ≤ 6
