/-! ===== the reference's cells ===== -/
/-- its arrays: field, place behind it, sort, size -/
def mRl : List (Nat × Nat × Nat × Nat) := [(1201, 1, 0, 240), (1203, 2, 0, 400), (1206, 3, 0, 26), (1207, 4, 0, 26), (1208, 5, 0, 546), (1209, 6, 0, 104000), (1210, 7, 0, 24), (1211, 8, 1, 24), (1212, 9, 1, 24), (1213, 10, 0, 24), (1214, 11, 0, 25), (1215, 12, 0, 24), (1217, 13, 0, 8), (1218, 14, 0, 320), (1220, 15, 0, 200), (1221, 16, 0, 200), (1222, 17, 0, 200), (1223, 18, 0, 200), (1224, 19, 0, 200), (1225, 20, 0, 200), (1226, 21, 0, 24000), (1231, 22, 0, 240), (1233, 23, 0, 241), (1234, 24, 0, 241), (1235, 25, 0, 241), (1236, 26, 0, 241), (1237, 27, 0, 241), (1242, 28, 0, 120), (1243, 29, 0, 120), (1244, 30, 0, 120), (1245, 31, 0, 121), (1246, 32, 0, 2400), (1252, 33, 0, 120), (1255, 34, 0, 9), (1256, 35, 0, 9), (1257, 36, 0, 9), (1261, 37, 0, 6), (1262, 38, 0, 6)]
def isM (sh : hs_) (R : hR_) (y : Nat) : Prop := sh y = some (0, 12, 0) ∧ ∀ e, e ∈ mRl → R e.1 y = some (y + e.2.1) ∧ sh (y + e.2.1) = some (1, e.2.2.1, e.2.2.2)
theorem isM.r {sh : hs_} {R : hR_} {y : Nat} (h : isM sh R y) (q a t l : Nat) (he : (q, a, t, l) ∈ mRl) : R q y = some (y + a) := (h.2 (q, a, t, l) he).1
theorem isM.s {sh : hs_} {R : hR_} {y : Nat} (h : isM sh R y) (q a t l : Nat) (he : (q, a, t, l) ∈ mRl) : sh (y + a) = some (1, t, l) := (h.2 (q, a, t, l) he).2
def mTO (F : hF_) (A : hF_) (y : Nat) (N : tN) : Prop := (F 1202 y = nI (N 0 0) ∧ ∀ j, j < N 0 0 → A (y + 1) j = nI (N 30 j)) ∧ (F 1204 y = nI (N 1 0) ∧ ∀ j, j < N 1 0 → A (y + 2) j = nI (N 31 j))
def mB1 (A : hF_) (y b c s : Nat) (E f : Nat → Nat) : Prop := A (y + 4) b = nI c ∧ (∀ q, q < c → A (y + 5) (21 * b + q) = nI (E q)) ∧ ∀ j, j < s → A (y + 6) (4000 * b + j) = nI (f j)
def mBV (A : hF_) (y b : Nat) (st hd go : Nat) (sn tg se : Int32) : Prop := A (y + 7) b = nI st ∧ A (y + 8) b = nI hd ∧ A (y + 9) b = nI go ∧ A (y + 10) b = tg ∧ A (y + 11) b = sn ∧ A (y + 12) b = se
def mBk (F : hF_) (A : hF_) (y : Nat) (T : TT) : Prop := F 1205 y = nI (T.1 2 0) ∧ mB1 A y 24 (T.1 4 24) (T.1 5 24) (T.2.1 3 24) (T.2.1 0 24) ∧
  (∀ b, b < T.1 2 0 → A (y + 3) b = nI (T.1 3 b) ∧ mB1 A y b (T.1 4 b) (T.1 5 b) (T.2.1 3 b) (T.2.1 0 b) ∧ mBV A y b (T.1 18 b) (T.1 19 b) (T.1 20 b) (T.2.2 2 b) (T.2.2 3 b) (T.2.2 4 b)) ∧ (∀ b, T.1 2 0 ≤ b → b < 24 → mBV A y b 0 0 0 (nI 0) (nI 0) (nI 0)) ∧ A (y + 11) 24 = T.2.2 2 25
/-- its latest pack: np parts -/
def mPk (F : hF_) (A : hF_) (y : Nat) (T : TT) : Prop := F 1238 y = nI (T.1 14 0) ∧ (T.1 14 0 ≠ 0 → F 1239 y = nI (T.1 15 0) ∧ F 1240 y = nI (T.1 25 0) ∧ ∀ j, j ≤ T.1 15 0 → A (y + 31) j = nI (T.1 24 j)) ∧
  (∃ np, np ≤ 120 ∧ F 1241 y = nI np ∧ sop (T.1 22) (T.1 15 0) np = T.1 15 0 ∧ ∀ q, q < np → sop (T.1 22) (T.1 15 0) q < T.1 15 0 ∧ A (y + 28) q = nI (T.1 23 (sop (T.1 22) (T.1 15 0) q)) ∧ A (y + 29) q = T.2.2 0 (sop (T.1 22) (T.1 15 0) q) ∧ A (y + 30) q = nI (T.1 22 (sop (T.1 22) (T.1 15 0) q))) ∧ F 1251 y = nI (T.1 26 0)
def mSm (F : hF_) (A : hF_) (y : Nat) (T : TT) : Prop := F 1216 y = nI (T.1 6 0) ∧ (∀ i, i < T.1 6 0 → A (y + 13) i = nI (T.1 7 i)) ∧ ∀ i, i < T.1 6 0 → ∀ j, j < T.1 7 i → A (y + 14) (40 * i + j) = nI (T.2.1 1 i j)
def mGa (F : hF_) (A : hF_) (y : Nat) (T : TT) : Prop := F 1260 y = (if T.1 17 0 = 0 then nI 0 else nI 1) ∧ (T.1 17 0 ≠ 0 → F 1258 y = nI (T.1 16 0) ∧ F 1259 y = nI (T.1 17 0) ∧ ∀ k, k < T.1 17 0 → A (y + 37) k = T.2.2 11 k)
def mM1 (A : hF_) (y m so : Nat) (bk : Int32) (uw : Nat) (le fa : Int32) : Prop := A (y + 15) m = nI so ∧ A (y + 16) m = bk ∧ A (y + 17) m = nI uw ∧ A (y + 18) m = le ∧ A (y + 19) m = fa
def mWi (F : hF_) (A : hF_) (y : Nat) (T : TT) : Prop := F 1219 y = nI (T.1 8 0) ∧ F 1227 y = (if T.1 13 0 = 0 then -1 else nI (T.1 13 0 - 1)) ∧ F 1228 y = T.2.2 6 0 ∧ F 1229 y = T.2.2 7 0 ∧ F 1230 y = T.2.2 8 0 ∧
  ∀ m, m < T.1 8 0 → mM1 A y m (T.1 9 m) (nm3 (mbk T.1 m)) (T.1 11 m) (T.2.2 5 m) (if T.1 9 m = 3 then nI (T.1 21 m) else -1) ∧ (T.1 9 m = 3 → A (y + 20) m = nI (T.1 12 m) ∧ ∀ j, j < T.1 12 m → A (y + 21) (120 * m + j) = nI (T.2.1 2 m j))
def MS (F : hF_) (A : hF_) (y : Nat) (T : TT) : Prop := mTO F A y T.1 ∧ mBk F A y T ∧ mPk F A y T ∧ mSm F A y T ∧ mGa F A y T ∧ mWi F A y T
/-- what a call of the reference leaves -/
def frM (y : Nat) (F : hF_) (A : hF_) (F' : hF_) (A' : hF_) : Prop := (∀ q a, (q < 1200 ∨ a ≠ y) → F' q a = F q a) ∧ (∀ a, (a < y + 1 ∨ y + 38 < a) → A' a = A a)
theorem frM_refl {y : Nat} {F : hF_} {A : hF_} : frM y F A F A := ⟨fun _ _ _ => rfl, fun _ _ => rfl⟩
theorem frM_trans {y : Nat} {F F1 F2 : hF_} {A A1 A2 : hF_} (h : frM y F A F1 A1) (h' : frM y F1 A1 F2 A2) : frM y F A F2 A2 := ⟨fun q a g => by rw [h'.1 q a g, h.1 q a g], fun a g => by rw [h'.2 a g, h.2 a g]⟩
theorem frM_F {y q : Nat} {v : Int32} {F : hF_} {A : hF_} (hq : 1200 ≤ q) : frM y F A (up2 F q y v) A := ⟨fun q' a g => up2_o (by omega), fun _ _ => rfl⟩
theorem frM_A {y k j : Nat} {v : Int32} {F : hF_} {A : hF_} (hk : 1 ≤ k) (hk2 : k ≤ 38) : frM y F A F (up2 A (y + k) j v) := ⟨fun _ _ _ => rfl, fun a g => up2_row (by omega)⟩
section MCG
variable {F F' : hF_} {A A' : hF_} {y : Nat} {T : TT} {N : tN}
theorem mTO_cong (h : mTO F A y N) (h1 : F' 1202 y = F 1202 y) (h2 : F' 1204 y = F 1204 y) (h3 : A' (y + 1) = A (y + 1)) (h4 : A' (y + 2) = A (y + 2)) : mTO F' A' y N := by
  obtain ⟨⟨a1, a2⟩, a3, a4⟩ := h
  exact ⟨⟨by rw [h1]; exact a1, by rw [h3]; exact a2⟩, by rw [h2]; exact a3, by rw [h4]; exact a4⟩
theorem mB1_cong {b c s : Nat} {E f : Nat → Nat} (h : mB1 A y b c s E f) (h1 : A' (y + 4) b = A (y + 4) b) (h2 : ∀ q, q < c → A' (y + 5) (21 * b + q) = A (y + 5) (21 * b + q)) (h3 : ∀ j, j < s → A' (y + 6) (4000 * b + j) = A (y + 6) (4000 * b + j)) : mB1 A' y b c s E f := by
  obtain ⟨a1, a2, a3⟩ := h
  exact ⟨by rw [h1]; exact a1, fun q hq => by rw [h2 q hq]; exact a2 q hq, fun j hj => by rw [h3 j hj]; exact a3 j hj⟩
theorem mBV_cong {b st hd go : Nat} {sn tg se : Int32} (h : mBV A y b st hd go sn tg se) (h1 : ∀ k, 7 ≤ k → k ≤ 12 → A' (y + k) b = A (y + k) b) : mBV A' y b st hd go sn tg se := by
  obtain ⟨a1, a2, a3, a4, a5, a6⟩ := h
  refine ⟨?_, ?_, ?_, ?_, ?_, ?_⟩ <;> rw [h1 _ (by decide) (by decide)] <;> assumption
theorem mBk_cong (h : mBk F A y T) (h20 : T.1 2 0 ≤ 24) (hc : T.1 4 24 ≤ 20) (hs : T.1 5 24 ≤ 4000) (hb : ∀ b, b < T.1 2 0 → T.1 4 b ≤ 20 ∧ T.1 5 b ≤ 320) (h1 : F' 1205 y = F 1205 y) (h3 : ∀ j, j ≠ 25 → A' (y + 3) j = A (y + 3) j) (h4 : ∀ j, j ≠ 25 → A' (y + 4) j = A (y + 4) j) (h5 : ∀ j, j < 525 → A' (y + 5) j = A (y + 5) j) (h6 : ∀ j, j < 100000 → A' (y + 6) j = A (y + 6) j) (h7 : ∀ k, 7 ≤ k → k ≤ 12 → A' (y + k) = A (y + k)) : mBk F' A' y T := by
  obtain ⟨a1, a2, a3, a4, a5⟩ := h
  refine ⟨by rw [h1]; exact a1, mB1_cong a2 (h4 _ (by decide)) (fun q hq => h5 _ (by omega)) (fun j hj => h6 _ (by omega)), fun b hb' => ?_, fun b g1 g2 => mBV_cong (a4 b g1 g2) (fun k k1 k2 => by rw [h7 k k1 k2]), by rw [h7 _ (by decide) (by decide)]; exact a5⟩
  obtain ⟨b1, b2, b3⟩ := a3 b hb'
  have := hb b hb'
  exact ⟨by rw [h3 _ (by omega)]; exact b1, mB1_cong b2 (h4 _ (by omega)) (fun q hq => h5 _ (by omega)) (fun j hj => h6 _ (by omega)), mBV_cong b3 (fun k k1 k2 => by rw [h7 k k1 k2])⟩
theorem mPk_cong (h : mPk F A y T) (h1 : ∀ q, (1238 ≤ q ∧ q ≤ 1241 ∨ q = 1251) → F' q y = F q y) (h2 : ∀ k, 28 ≤ k → k ≤ 31 → A' (y + k) = A (y + k)) : mPk F' A' y T := by
  obtain ⟨a1, a2, ⟨np, p0, p1, p2, p3⟩, a4⟩ := h
  refine ⟨by rw [h1 _ (by omega)]; exact a1, fun g => ?_, ⟨np, p0, by rw [h1 _ (by omega)]; exact p1, p2, fun q hq => ?_⟩, by rw [h1 _ (by omega)]; exact a4⟩
  · obtain ⟨b1, b2, b3⟩ := a2 g
    exact ⟨by rw [h1 _ (by omega)]; exact b1, by rw [h1 _ (by omega)]; exact b2, by rw [h2 _ (by decide) (by decide)]; exact b3⟩
  · rw [h2 28 (by decide) (by decide), h2 29 (by decide) (by decide), h2 30 (by decide) (by decide)]
    exact p3 q hq
theorem mSm_cong (h : mSm F A y T) (h1 : F' 1216 y = F 1216 y) (h2 : A' (y + 13) = A (y + 13)) (h3 : A' (y + 14) = A (y + 14)) : mSm F' A' y T := by
  obtain ⟨a1, a2, a3⟩ := h
  exact ⟨by rw [h1]; exact a1, by rw [h2]; exact a2, by rw [h3]; exact a3⟩
theorem mGa_cong (h : mGa F A y T) (h1 : ∀ q, 1258 ≤ q → q ≤ 1260 → F' q y = F q y) (h2 : A' (y + 37) = A (y + 37)) : mGa F' A' y T := by
  obtain ⟨a1, a2⟩ := h
  refine ⟨by rw [h1 _ (by decide) (by decide)]; exact a1, fun g => ?_⟩
  obtain ⟨b1, b2, b3⟩ := a2 g
  exact ⟨by rw [h1 _ (by decide) (by decide)]; exact b1, by rw [h1 _ (by decide) (by decide)]; exact b2, by rw [h2]; exact b3⟩
theorem mM1_cong {m so uw : Nat} {bk le fa : Int32} (h : mM1 A y m so bk uw le fa) (h1 : ∀ k, 15 ≤ k → k ≤ 19 → A' (y + k) m = A (y + k) m) : mM1 A' y m so bk uw le fa := by
  obtain ⟨a1, a2, a3, a4, a5⟩ := h
  refine ⟨?_, ?_, ?_, ?_, ?_⟩ <;> rw [h1 _ (by decide) (by decide)] <;> assumption
theorem mWi_cong (h : mWi F A y T) (h1 : ∀ q, (q = 1219 ∨ 1227 ≤ q ∧ q ≤ 1230) → F' q y = F q y) (h2 : ∀ k, 15 ≤ k → k ≤ 21 → A' (y + k) = A (y + k)) : mWi F' A' y T := by
  obtain ⟨a1, a2, a3, a4, a5, a6⟩ := h
  refine ⟨by rw [h1 _ (by omega)]; exact a1, by rw [h1 _ (by omega)]; exact a2, by rw [h1 _ (by omega)]; exact a3, by rw [h1 _ (by omega)]; exact a4, by rw [h1 _ (by omega)]; exact a5, fun m hm => ?_⟩
  obtain ⟨b1, b2⟩ := a6 m hm
  refine ⟨mM1_cong b1 (fun k k1 k2 => by rw [h2 k k1 (by omega)]), fun g => ?_⟩
  rw [h2 20 (by decide) (by decide), h2 21 (by decide) (by decide)]
  exact b2 g
/-- what is only for a while leaves the state -/
theorem MS_scr (h : MS F A y T) (hT : okT T) (hF : ∀ q, ¬ (q = 1200 ∨ q = 1232 ∨ 1247 ≤ q ∧ q ≤ 1250 ∨ q = 1253 ∨ q = 1254 ∨ q = 1263) → F' q y = F q y) (hA : ∀ k, 1 ≤ k → k ≤ 38 → ¬ (3 ≤ k ∧ k ≤ 6 ∨ 22 ≤ k ∧ k ≤ 27 ∨ 32 ≤ k ∧ k ≤ 36 ∨ k = 38) → A' (y + k) = A (y + k)) (h3 : ∀ j, j ≠ 25 → A' (y + 3) j = A (y + 3) j) (h4 : ∀ j, j ≠ 25 → A' (y + 4) j = A (y + 4) j) (h5 : ∀ j, j < 525 → A' (y + 5) j = A (y + 5) j) (h6 : ∀ j, j < 100000 → A' (y + 6) j = A (y + 6) j) : MS F' A' y T := by
  obtain ⟨a1, a2, a3, a4, a5, a6⟩ := h
  obtain ⟨d1, d2, d3, d4⟩ := hT.2.2.1
  have dsum := okE_sum _ d2 (fun q hq => (d3 q hq).2) (T.1 4 24) (Nat.le_refl _)
  rw [d2.2] at dsum
  have b1 := hT.2.2.2.1.1
  exact ⟨mTO_cong a1 (hF _ (by omega)) (hF _ (by omega)) (hA _ (by omega) (by omega) (by omega)) (hA _ (by omega) (by omega) (by omega)), mBk_cong a2 b1 d1 (by omega) (fun b hb => ⟨(hT.2.2.2.1.2.1 b (Or.inl hb)).1.2.1, (hT.2.2.2.1.2.1 b (Or.inl hb)).1.2.2.1⟩) (hF _ (by omega)) h3 h4 h5 h6 (fun k k1 k2 => hA k (by omega) (by omega) (by omega)), mPk_cong a3 (fun q hq => hF q (by omega)) (fun k k1 k2 => hA k (by omega) (by omega) (by omega)), mSm_cong a4 (hF _ (by omega)) (hA _ (by omega) (by omega) (by omega)) (hA _ (by omega) (by omega) (by omega)), mGa_cong a5 (fun q q1 q2 => hF q (by omega)) (hA _ (by omega) (by omega) (by omega)), mWi_cong a6 (fun q hq => hF q (by omega)) (fun k k1 k2 => hA k (by omega) (by omega) (by omega))⟩
theorem MS_th {v : Int32} (h : MS F A y T) (hT : okT T) : MS (up2 F 1200 y v) A y T := MS_scr h hT (fun q hq => up2_k (by omega)) (fun _ _ _ _ => rfl) (fun _ _ => rfl) (fun _ _ => rfl) (fun _ _ => rfl) (fun _ _ => rfl)
end MCG
def mPost (n u : Nat) (sh : hs_) (F : hF_) (R : hR_) (A : hF_) (B : hR_) (y : Nat) (z : Int32 × TT) (Q : Option Value → pm_H → Prop) : Prop := ∀ F' A', MS F' A' y z.2 → frM y F A F' A' → Q (some (.int z.1)) (mkh n u sh F' R A' B)
