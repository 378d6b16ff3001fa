/-! ===== every step keeps what holds of the state: the others ===== -/
section KE2
variable {T : TT} {b m : Nat} {i w : Int32}
theorem k2_greedy (h : ok2 T) : ok2 (s_greedy T i).2 := by
  unfold s_greedy
  split
  · exact ok2_clr h
  · split
    · exact ok2_clr h
    · exact ok2_clr h
theorem k2_pack (h : ok2 T) : ok2 (s_pack T i).2 := by
  have hcl := ok2_clr h
  unfold s_pack
  cases hi : bx i (T.1 2 0) with
  | none => exact hcl
  | some b =>
    dsimp only
    by_cases c : 120 < T.1 0 0
    · rw [if_pos c]; exact hcl
    · rw [if_neg c]
      have hok := (h.1.2.2.2.1.2.1 b (bx_some hi)).1
      have hcap := wrT_cap (L := T.1 30) (m := T.1 0 0) hok (by omega)
      have hpl := fun j (hj : j < T.1 0 0) => plT_pt (b := b) (L := T.1 30) hok (by omega) hj
      obtain ⟨⟨g1, g2, g3, g4, g5, g6⟩, hc⟩ := h
      refine ⟨⟨⟨Nat.zero_le _, fun j hj => absurd hj (Nat.not_lt_zero _)⟩, ⟨?_, fun j hj => byt_lt⟩, g3, g4, ⟨?_, ?_, ?_, ?_, fun j hj => ?_⟩, g6⟩, hc_keep (N := T.1) (fun _ => rfl) rfl hc⟩
      · show ((wrT T.1 T.2.1 b (T.1 0 0) (T.1 30)).2 + 7) / 8 ≤ 240; omega
      · show T.1 0 0 ≤ 120; omega
      · show 1 ≤ 1; omega
      · intro z; exact absurd z (show ¬ 1 = 0 by decide)
      · show (wrT T.1 T.2.1 b (T.1 0 0) (T.1 30)).2 < 2 ^ 20; omega
      · obtain ⟨p1, p2, p3, p4, p5⟩ := hpl j hj
        exact ⟨p3, p4⟩
theorem k2_unpack (h : ok2 T) : ok2 (s_unpack T).2 := by
  have hok := rdT_ok h.1 (ss := T.1 0 0) (by_ := T.1 30)
  obtain ⟨⟨o1, o2, o3⟩, o4, o5⟩ := hok
  obtain ⟨⟨g1, g2, g3, g4, g5, g6, g7, g8⟩, hc⟩ := h
  unfold s_unpack
  split
  · exact ⟨⟨⟨Nat.zero_le _, fun j hj => absurd hj (Nat.not_lt_zero _)⟩, ⟨by show (rdT T (T.1 0 0) (T.1 30)).2.1 ≤ 240; omega, o5⟩, g3, g4, g5, g6, g7, by show 0 ≤ 6; omega⟩, hc_keep (N := T.1) (fun _ => rfl) rfl hc⟩
  · exact ⟨⟨⟨Nat.zero_le _, fun j hj => absurd hj (Nat.not_lt_zero _)⟩, g2, g3, g4, g5, g6, g7, by show (rdT T (T.1 0 0) (T.1 30)).1.2.1 ≤ 6; omega⟩, hc_keep (N := T.1) (fun _ => rfl) rfl hc⟩
theorem k2_sample (h : ok2 T) : ok2 (s_sample T).2 := by
  have hcl := ok2_clr h
  unfold s_sample
  by_cases c1 : T.1 0 0 = 0 ∨ 40 < T.1 0 0
  · rw [if_pos c1]; exact hcl
  · rw [if_neg c1]
    by_cases c2 : 8 ≤ T.1 6 0
    · rw [if_pos c2]; exact hcl
    · rw [if_neg c2]
      obtain ⟨⟨g1, g2, g3, g4, g5, ⟨s1, s2, s3⟩, g7⟩, hc⟩ := h
      refine ⟨⟨⟨Nat.zero_le _, fun j hj => absurd hj (Nat.not_lt_zero _)⟩, g2, g3, g4, g5, ⟨(show T.1 6 0 + 1 ≤ 8 by omega), fun i hi => ?_, s3⟩, g7⟩, hc_keep (N := T.1) (fun _ => rfl) rfl hc⟩
      have hi' : i < T.1 6 0 + 1 := hi
      show up2 (up2 (clrT T).1 6 0 (T.1 6 0 + 1)) 7 (T.1 6 0) (T.1 0 0) 7 i ≤ 40 ∧ ∀ j, j < up2 (up2 (clrT T).1 6 0 (T.1 6 0 + 1)) 7 (T.1 6 0) (T.1 0 0) 7 i → up2 T.2.1 1 (T.1 6 0) (T.1 30) 1 i j < 256
      by_cases e : i = T.1 6 0
      · subst e
        rw [up2_eq, up2_eq]
        exact ⟨by omega, g1.2⟩
      · rw [up2_a e, up2_k (by decide), up2_a e]
        exact s2 i (by omega)
theorem k2_forget (h : ok2 T) : ok2 (up2 T.1 6 0 0, T.2) := by
  obtain ⟨⟨g1, g2, g3, g4, g5, ⟨s1, s2, s3⟩, g7⟩, hc⟩ := h
  exact ⟨⟨g1, g2, g3, g4, g5, ⟨Nat.zero_le _, fun i hi => absurd hi (Nat.not_lt_zero _), s3⟩, g7⟩, hc_keep (N := T.1) (fun _ => rfl) rfl hc⟩
theorem k2_train (h : ok2 T) : ok2 (s_train T i w).2 := by
  unfold s_train
  by_cases c1 : i < nI 1 ∨ nI 2 < i ∨ w < nI 1 ∨ nI 6 < w
  · rw [if_pos c1]; exact h
  · rw [if_neg c1]
    by_cases c2 : 24 ≤ T.1 2 0
    · rw [if_pos c2]; exact h
    · rw [if_neg c2]
      obtain ⟨kd, rfl, kd1, kd2⟩ := i32_rg (i := i) (a := 1) (b := 2) (by decide) (by decide) (fun z => c1 (z.elim Or.inl (fun z => Or.inr (Or.inl z))))
      obtain ⟨mo, rfl, mo1, mo2⟩ := i32_rg (i := w) (a := 1) (b := 6) (by decide) (by decide) (fun z => c1 (z.elim (fun z => Or.inr (Or.inr (Or.inl z))) (fun z => Or.inr (Or.inr (Or.inr z)))))
      rw [nI_clamp (by omega), nI_clamp (by omega)]
      obtain ⟨n8, m2, -⟩ := h.1.2.2.2.2.2.1
      have hby : ∀ i, i < T.1 6 0 → ∀ j, j < T.1 7 i → ∃ v, v < 256 ∧ sbT T.2.1 i j = nI v := fun i hi j hj => ⟨_, (m2 i hi).2 j hj, rfl⟩
      have hokC : okCS (T.1 6 0) (T.1 7) (canT T) := begS_okCS n8 _ (Nat.le_refl _)
      have hz : okZ (sbT T.2.1) mo (traT T (decide (nI kd = nI 2)) mo) := trL_ok hby hokC mo
      generalize traT T (decide (nI kd = nI 2)) mo = Z at hz ⊢
      obtain ⟨z1, z2, z3, z4, z5, z6⟩ := hz
      by_cases c3 : Z.2.2.1 = 0
      · rw [if_pos c3]; exact h
      · rw [if_neg c3]
        have hg : ok2 (gaiT T Z) := by
          obtain ⟨⟨g1, g2, g3, g4, g5, ⟨s1, s2, s3⟩, g7⟩, hc⟩ := h
          exact ⟨⟨g1, g2, g3, g4, g5, ⟨s1, s2, by show Z.2.2.1 ≤ 6; omega⟩, g7⟩, hc_keep (N := T.1) (fun _ => rfl) rfl hc⟩
        refine ok2_apB hg (show T.1 2 0 < 24 by omega) z3 (by omega) (by omega) kd2 (fun _ q hq => by have := (z4 q hq).1; omega) (fun q hq => by have := (z4 q hq).2; omega) (fun j hj => ?_)
        obtain ⟨v, v1, v2⟩ := z5 j hj
        show (Z.1 j).toNatClampNeg < 256
        rw [v2, nI_clamp (by omega)]
        exact v1
theorem hc_bv {st hd go : Nat} {sn tg se : Int32} (h : hd ≤ T.1 19 b) (hc : hcT T.1 (T.1 2 0) ≤ 4) : hcT (bvT T b st hd go sn tg se).1 ((bvT T b st hd go sn tg se).1 2 0) ≤ 4 := by
  refine Nat.le_trans (hcT_mo (N := T.1) (T.1 2 0) (fun q hq => ?_)) hc
  unfold bvT
  dsimp only
  rw [up2_k (by decide)]
  by_cases e : q = b
  · subst e; rw [up2_eq]; exact h
  · rw [up2_a e, up2_k (by decide)]; exact Nat.le_refl _
theorem ok2_pu {so lm : Nat} {le : Int32} {L : Nat → Nat} (h : ok2 T) (hn : T.1 8 0 < 200) (hb : isB3 T.1 b) (h1 : so ≤ 4) (h2 : b = 25 → so = 3) (h3 : so = 3 → lm ≤ 120 ∧ ∀ j, j < lm → L j < 256) : ok2 (puT T so (b5 b) le lm L) := ⟨okT_pu h.1 hn hb h1 h2 h3, hc_keep (N := T.1) (fun _ => rfl) rfl h.2⟩
theorem ok2_ms {uw fa : Nat} (h : ok2 T) (h1 : uw ≤ 3) (h2 : fa ≤ 2) : ok2 (msT T m uw fa) := ⟨okT_ms h.1 h1 h2, hc_keep (N := T.1) (fun _ => rfl) rfl h.2⟩
theorem ok2_wi {la : Nat} {cm rp mi : Int32} (h : ok2 T) (h1 : la ≤ T.1 8 0) (h2 : la ≠ 0 → T.1 9 (la - 1) = 3) : ok2 (wiT T la cm rp mi) := ⟨okT_wi h.1 h1 h2, hc_keep (N := T.1) (fun _ => rfl) rfl h.2⟩
theorem relT_le {hd go : Nat} {tg se : Int32} : relT hd go tg se ≤ hd := by
  unfold relT
  split
  · exact Nat.le_refl _
  · split
    · exact Nat.le_refl _
    · exact Nat.zero_le _
theorem ok2_set (h : ok2 T) (hb : isB3 T.1 b) : ok2 (setT T b) := ⟨okT_set h.1 hb, hc_bv relT_le h.2⟩
theorem ok2_gon {le : Int32} (h : ok2 T) (hb : b < T.1 2 0) : ok2 (gonT T b le) := ⟨okT_gon h.1 hb, hc_bv relT_le h.2⟩
theorem ok2_bv {st : Nat} {sn tg se : Int32} (h : ok2 T) (hb : b < T.1 2 0) (h1 : st ≤ 3) : ok2 (bvT T b st (T.1 19 b) (T.1 20 b) sn tg se) := by
  obtain ⟨b1, b2, b3, b4⟩ := h.1.2.2.2.1.2.1 b (Or.inl hb)
  have := h.1.2.2.2.1.1
  exact ⟨okT_bv h.1 h1 b3 b4 (fun e => by omega), hc_bv (Nat.le_refl _) h.2⟩
theorem k2_offer (h : ok2 T) : ok2 (s_offer T i).2 := by
  have h24 := h.1.2.2.2.1.1
  unfold s_offer
  cases hi : ix i (T.1 2 0) with
  | none => exact h
  | some b =>
    obtain ⟨hb, -, -⟩ := ix_some hi
    dsimp only
    split
    · exact h
    · split
      · exact h
      · rename_i c
        exact ok2_bv (T := puT T 0 (b5 b) (-1) 0 (fun _ => 0)) (ok2_pu h (by omega) (Or.inl hb) (by omega) (fun e => by omega) (fun e => by omega)) hb (by omega)
theorem k2_over (h : ok2 T) : ok2 (s_over T i).2 := by
  have h24 := h.1.2.2.2.1.1
  unfold s_over
  cases hi : ix i (T.1 2 0) with
  | none => exact h
  | some b =>
    obtain ⟨hb, -, -⟩ := ix_some hi
    dsimp only
    split
    · exact h
    · split
      · exact h
      · rename_i c
        exact ok2_bv (T := puT T 4 (b5 b) (T.2.2 2 b) 0 (fun _ => 0)) (ok2_pu h (by omega) (Or.inl hb) (by omega) (fun e => by omega) (fun e => by omega)) hb (by omega)
theorem k2_twice (h : ok2 T) : ok2 (s_twice T i).2 := by
  unfold s_twice
  cases hi : ix i (T.1 8 0) with
  | none => exact h
  | some m =>
    obtain ⟨hm, -, -⟩ := ix_some hi
    obtain ⟨e1, e2, e3, e4, e5, e6, e7⟩ := h.1.2.2.2.2.2.2.1.2.1 m hm
    dsimp only
    split
    · exact h
    · exact ok2_ms h (by omega) e6
theorem k2_lose (h : ok2 T) : ok2 (s_lose T i).2 := by
  unfold s_lose
  cases hi : ix i (T.1 8 0) with
  | none => exact h
  | some m =>
    obtain ⟨hm, -, -⟩ := ix_some hi
    obtain ⟨e1, e2, e3, e4, e5, e6, e7⟩ := h.1.2.2.2.2.2.2.1.2.1 m hm
    dsimp only
    split
    · exact h
    · dsimp only
      split
      · exact ok2_set (T := msT T m (T.1 11 m - 1) 2) (ok2_ms h (by omega) (by omega)) e2
      · exact ok2_ms h (by omega) e6
theorem k2_send (h : ok2 T) : ok2 (s_send T i).2 := by
  have hcl := ok2_clr h
  have h24 := h.1.2.2.2.1.1
  unfold s_send
  cases hi : bx i (T.1 2 0) with
  | none => exact hcl
  | some b =>
    dsimp only
    split
    · exact hcl
    · split
      · exact hcl
      · split
        · exact hcl
        · rename_i c1 c2 c3
          refine ok2_clr ?_
          have hb := bx_some hi
          have hp : ok2 (puT T 3 (b5 b) (T.2.2 2 b) (T.1 0 0) (T.1 30)) := ok2_pu h (by omega) hb (by omega) (fun _ => rfl) (fun _ => ⟨by omega, h.1.1.2⟩)
          obtain ⟨b1, b2, b3, b4⟩ := h.1.2.2.2.1.2.1 b hb
          obtain ⟨a1, a2, a3, a4, a5, a6, a7, a8⟩ := h.1.2.2.2.1
          exact ⟨okT_bv hp.1 b2 b3 b4 (fun e => by subst e; exact ⟨a6, a7, a8⟩), hc_bv (T := puT T 3 (b5 b) (T.2.2 2 b) (T.1 0 0) (T.1 30)) (Nat.le_refl _) hp.2⟩
theorem hc_one {N N' : tN} {b : Nat} (h : ∀ q, q ≠ b → N' 19 q = N 19 q) : ∀ k, hcT N' k ≤ hcT N k + 1 ∧ (k ≤ b → hcT N' k ≤ hcT N k)
  | 0 => ⟨Nat.zero_le _, fun _ => Nat.le_refl _⟩
  | k + 1 => by
    obtain ⟨h1, h2⟩ := hc_one (N := N) (N' := N') h k
    unfold hcT
    by_cases e : k = b
    · subst e
      have := h2 (Nat.le_refl _)
      refine ⟨?_, fun z => by omega⟩
      split <;> split <;> omega
    · rw [h k e]
      refine ⟨by omega, fun z => ?_⟩
      have := h2 (by omega)
      omega
theorem ok2_po {so : Nat} {le : Int32} (h : ok2 T) (hb : b < T.1 2 0) (h1 : so ≤ 4) (h3 : so ≠ 3) : ok2 (poT T so b le).2 := by
  have h24 := h.1.2.2.2.1.1
  unfold poT
  split
  · exact h
  · exact ok2_pu h (by omega) (Or.inl hb) h1 (fun e => by omega) (fun e => absurd e h3)
theorem ok2_arr (h : ok2 T) (hm : m < T.1 8 0) : ok2 (arr T m).2 := by
  have h24 := h.1.2.2.2.1.1
  obtain ⟨e1, e2, e3, e4, e5, e6, e7⟩ := h.1.2.2.2.2.2.2.1.2.1 m hm
  have hb : ¬ T.1 9 m = 3 → mbk T.1 m < T.1 2 0 := by
    intro z
    have z0 : ¬ T.1 10 m = 0 := fun q => z (e3 q)
    unfold mbk
    rw [if_neg z0]
    omega
  unfold arr
  by_cases c0 : T.1 9 m = 0
  · rw [if_pos c0]
    have hb' := hb (by omega)
    obtain ⟨b1, b2, b3, b4⟩ := h.1.2.2.2.1.2.1 _ (Or.inl hb')
    unfold ofrA
    by_cases c1 : T.1 19 (mbk T.1 m) = 0
    · rw [if_pos c1]
      by_cases c2 : 4 ≤ hcT T.1 (T.1 2 0)
      · rw [if_pos c2]; exact ok2_po h hb' (by omega) (by omega)
      · rw [if_neg c2]
        refine ok2_po (T := holT T (mbk T.1 m)) ⟨okT_bv h.1 b2 (by omega) (by omega) (fun e => by omega), ?_⟩ hb' (by omega) (by omega)
        have := (hc_one (N := T.1) (N' := (holT T (mbk T.1 m)).1) (b := mbk T.1 m) (fun q hq => by unfold holT bvT; dsimp only; rw [up2_k (by decide), up2_a hq, up2_k (by decide)]) (T.1 2 0)).1
        show hcT (holT T (mbk T.1 m)).1 (T.1 2 0) ≤ 4
        omega
    · rw [if_neg c1]; exact ok2_po h hb' (by omega) (by omega)
  · rw [if_neg c0]
    by_cases c1 : T.1 9 m = 1
    · rw [if_pos c1]
      have hb' := hb (by omega)
      unfold yesA
      split
      · exact ok2_bv h hb' (by omega)
      · split
        · exact ok2_po h hb' (by omega) (by omega)
        · exact h
    · rw [if_neg c1]
      by_cases c2 : T.1 9 m = 2
      · rw [if_pos c2]
        have hb' := hb (by omega)
        unfold noA
        dsimp only
        split
        · exact ok2_bv h hb' (by omega)
        · exact h
      · rw [if_neg c2]
        by_cases c3 : T.1 9 m = 3
        · rw [if_pos c3]
          obtain ⟨a1, a2, a3, a4⟩ := h.1.2.2.2.2.2.2.1
          unfold letA
          dsimp only
          split
          · have h1 : ok2 (msT T m (T.1 11 m) 1) := ok2_ms h e5 (by omega)
            split
            · exact ok2_set (T := wiT (msT T m (T.1 11 m) 1) (T.1 13 0) (T.2.2 6 0 + nI 1) (T.2.2 7 0) (T.2.2 8 0 + nI 1)) (ok2_wi h1 a3 a4) e2
            · exact ok2_set (T := wiT (msT T m (T.1 11 m) 1) (m + 1) (T.2.2 6 0 + nI 1) (T.2.2 7 0) (T.2.2 8 0)) (ok2_wi h1 hm (fun _ => by rw [Nat.add_sub_cancel]; exact c3)) e2
          · exact ok2_wi h a3 a4
        · rw [if_neg c3]
          exact ok2_gon h (hb c3)
theorem k2_deliver (h : ok2 T) : ok2 (s_deliver T i).2 := by
  unfold s_deliver
  cases hi : ix i (T.1 8 0) with
  | none => exact h
  | some m =>
    obtain ⟨hm, -, -⟩ := ix_some hi
    obtain ⟨e1, e2, e3, e4, e5, e6, e7⟩ := h.1.2.2.2.2.2.2.1.2.1 m hm
    dsimp only
    split
    · exact h
    · exact ok2_arr (T := msT T m (T.1 11 m - 1) (T.1 21 m)) (ok2_ms h (by omega) e6) hm
end KE2
