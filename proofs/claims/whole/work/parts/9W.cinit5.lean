/-! ===== the class: made, from its first call ===== -/
section CI5
variable {k n u x : Nat} {sh : hs_} {F : hF_} {R : hR_} {A : hF_} {B : hR_} {Q : Option Value → pm_H → Prop}
theorem k_init11 (hx : sh x = some (0, 11, 0)) (hQ : ∀ u' sh' F' R' A' B', cX x sh' F' R' A' B' → agr x sh F R A B sh' F' R' A' B' → u' ≤ u + 9000 → Q none (mkh (x + 78) u' sh' F' R' A' B')) : rc_ (k + 4) mX11_init [.ref x] (mkh (x + 1) u sh F R A B) Q := by
  have c0 : cI x sh F R A B [(0, 0, 11, 0)] [] [] sh F R A B := ⟨aS_cons (a := 0) hx aS_nil, aR_nil, aF_nil, ⟨fun _ _ => rfl, fun _ _ _ => rfl, fun _ _ _ => rfl, fun _ _ => rfl, fun _ _ => rfl⟩⟩
  rw [eX11_init]
  simp only [rX11_init_0, rX11_init_1, rX11_init_4, rX11_init_5, rX11_init_8, rX11_init_9]
  rw [rX11_init_12]
  refine j_Bytes (k := k + 2) up1_eq (by decide) ?_
  intro u1 sh1 F1 R1 A1 B1 fr1 r1 s1 hu1
  have c1 := cI_step (kk := 1) (q := 1100) c0 (agO fr1) (by decide) (by decide) (by decide) (aS_cons (a := 1) (frO_S fr1) (aS_cons (a := 2) s1 aS_nil)) (aR_cons (a := 1) (b := 2) r1 aR_nil) (by decide) (aF_cons (a := 1) (frO_F fr1 101) aF_nil)
  simp only [up2_eq, va_rf, eq_self, or_true, true_or, Option.toList_some, Option.toList_none, List.cons_append, List.nil_append, if_true, if_false]
  rw [rX11_init_15 (show sh1 x = some (0, 11, 0) from c1.1 (0, 0, 11, 0) (by decide)), show x + 1 + 2 = x + 3 from rfl]
  generalize up2 R1 1100 x (some (x + 1)) = P1 at c1 ⊢
  simp only [rX11_init_18, rX11_init_19, rX11_init_22, rX11_init_23]
  rw [rX11_init_26]
  refine j_Bytes (k := k + 2) up1_eq (by decide) ?_
  intro u2 sh2 F2 R2 A2 B2 fr2 r2 s2 hu2
  have c2 := cI_step (kk := 3) (q := 1101) c1 (agO fr2) (by decide) (by decide) (by decide) (aS_cons (a := 3) (frO_S fr2) (aS_cons (a := 4) s2 aS_nil)) (aR_cons (a := 3) (b := 4) r2 aR_nil) (by decide) (aF_cons (a := 3) (frO_F fr2 101) aF_nil)
  simp only [up2_eq, va_rf, eq_self, or_true, true_or, Option.toList_some, Option.toList_none, List.cons_append, List.nil_append, if_true, if_false]
  rw [rX11_init_29 (show sh2 x = some (0, 11, 0) from c2.1 (0, 0, 11, 0) (by decide)), show x + 3 + 2 = x + 5 from rfl]
  generalize up2 R2 1101 x (some (x + 3)) = P2 at c2 ⊢
  simp only [rX11_init_32, rX11_init_33, rX11_init_36, rX11_init_37, rX11_init_40]
  rw [rX11_init_42]
  refine j_Pieces (k := k + 1) up1_eq (by decide) (by decide) ?_
  intro u3 sh3 F3 R3 A3 B3 fr3 r3 s3 g3 hu3
  have c3 := cI_step (kk := 5) (q := 1102) c2 (agO fr3) (by decide) (by decide) (by decide) (aS_cons (a := 5) (frO_S fr3) (aS_cons (a := 6) s3.1 (aS_cons (a := 7) s3.2.1 (aS_cons (a := 8) s3.2.2 aS_nil)))) (aR_cons (a := 6) (b := 7) r3.1 (aR_cons (a := 5) (b := 6) r3.2.1 (aR_cons (a := 5) (b := 8) r3.2.2 aR_nil))) (by decide) (aF_cons (a := 5) (frO_F fr3 502) (aF_cons (a := 6) g3 aF_nil))
  simp only [up2_eq, va_rf, eq_self, or_true, true_or, Option.toList_some, Option.toList_none, List.cons_append, List.nil_append, if_true, if_false]
  rw [rX11_init_45 (show sh3 x = some (0, 11, 0) from c3.1 (0, 0, 11, 0) (by decide)), show x + 5 + 4 = x + 9 from rfl]
  generalize up2 R3 1102 x (some (x + 5)) = P3 at c3 ⊢
  simp only [rX11_init_48, rX11_init_49, rX11_init_52]
  rw [rX11_init_53]
  refine k_Shelf_init (k := k) up1_eq ?_
  intro u4 sh4 F4 R4 A4 B4 fr4 r4 s4 g4 hu4
  obtain ⟨ra, rb, rc, rd, re, rf⟩ := r4
  obtain ⟨sa, sb, sc, sd, se, sf⟩ := s4
  obtain ⟨hV, ga, gb, gc⟩ := g4
  have c4 := cI_step (kk := 9) (q := 1103) c3 (agO fr4) (by decide) (by decide) (by decide) (aS_cons (a := 9) (frO_S fr4) (aS_cons (a := 10) sa (aS_cons (a := 11) sb (aS_cons (a := 12) sc (aS_cons (a := 13) sd (aS_cons (a := 14) se (aS_cons (a := 15) sf aS_nil))))))) (aR_cons (a := 9) (b := 10) ra (aR_cons (a := 9) (b := 11) rb (aR_cons (a := 11) (b := 12) rc (aR_cons (a := 12) (b := 13) rd (aR_cons (a := 12) (b := 15) re (aR_cons (a := 13) (b := 14) rf aR_nil)))))) (by decide) (aF_cons (a := 9) (frO_F fr4 701) (aF_cons (a := 11) ga (aF_cons (a := 12) gb (aF_cons (a := 13) gc aF_nil))))
  simp only [up2_eq, va_rf, eq_self, or_true, true_or, Option.toList_some, Option.toList_none, List.cons_append, List.nil_append, if_true, if_false]
  rw [rX11_init_56 (show sh4 x = some (0, 11, 0) from c4.1 (0, 0, 11, 0) (by decide)), show x + 9 + 7 = x + 16 from rfl]
  generalize up2 R4 1103 x (some (x + 9)) = P4 at c4 ⊢
  simp only [rX11_init_59, rX11_init_60, rX11_init_63]
  rw [rX11_init_64]
  refine k_Packer_init (k := k + 1) up1_eq ?_
  intro u5 sh5 R5 A5 a5 b5 d5 hK5 hg5 hu5
  have ag5 := frK_O (F := F4) (B := B4) a5 b5 d5
  obtain ⟨k0, ⟨k1, k2, k3, k4, k5, k6, k7, k8⟩, l1, l2, l3, l4, l5, l6, l7, l8⟩ := hK5
  have c5 := cI_step (kk := 16) (q := 1104) c4 ag5 (by decide) (by decide) (by decide) (aS_cons (a := 16) k0 (aS_cons (a := 17) l1 (aS_cons (a := 18) l2 (aS_cons (a := 19) l3 (aS_cons (a := 20) l4 (aS_cons (a := 21) l5 (aS_cons (a := 22) l6 (aS_cons (a := 23) l7 (aS_cons (a := 24) l8 aS_nil))))))))) (aR_cons (a := 16) (b := 17) k1 (aR_cons (a := 16) (b := 18) k2 (aR_cons (a := 16) (b := 19) k3 (aR_cons (a := 16) (b := 20) k4 (aR_cons (a := 16) (b := 21) k5 (aR_cons (a := 16) (b := 22) k6 (aR_cons (a := 16) (b := 23) k7 (aR_cons (a := 16) (b := 24) k8 aR_nil)))))))) (by decide) (aF_cons (q := 410) (a := 16) (by rw [zap_eq]; rfl) aF_nil)
  simp only [up2_eq, va_rf, eq_self, or_true, true_or, Option.toList_some, Option.toList_none, List.cons_append, List.nil_append, if_true, if_false]
  rw [rX11_init_67 (show sh5 x = some (0, 11, 0) from c5.1 (0, 0, 11, 0) (by decide)), show x + 16 + 9 = x + 25 from rfl]
  have eF5 : ∀ q a, a < x + 16 → zap F4 (x + 16) 0 q a = F4 q a := fun q a ha => zap_ne (by omega)
  generalize zap F4 (x + 16) 0 = F5 at c5 eF5 ⊢
  generalize up2 R5 1104 x (some (x + 16)) = P5 at c5 ⊢
  simp only [rX11_init_70, rX11_init_71, rX11_init_74]
  rw [rX11_init_75]
  refine k_Packer_init (k := k + 1) up1_eq ?_
  intro u6 sh6 R6 A6 a6 b6 d6 hK6 hg6 hu6
  have ag6 := frK_O (F := F5) (B := B4) a6 b6 d6
  obtain ⟨k0, ⟨k1, k2, k3, k4, k5, k6, k7, k8⟩, l1, l2, l3, l4, l5, l6, l7, l8⟩ := hK6
  have c6 := cI_step (kk := 25) (q := 1105) c5 ag6 (by decide) (by decide) (by decide) (aS_cons (a := 25) k0 (aS_cons (a := 26) l1 (aS_cons (a := 27) l2 (aS_cons (a := 28) l3 (aS_cons (a := 29) l4 (aS_cons (a := 30) l5 (aS_cons (a := 31) l6 (aS_cons (a := 32) l7 (aS_cons (a := 33) l8 aS_nil))))))))) (aR_cons (a := 25) (b := 26) k1 (aR_cons (a := 25) (b := 27) k2 (aR_cons (a := 25) (b := 28) k3 (aR_cons (a := 25) (b := 29) k4 (aR_cons (a := 25) (b := 30) k5 (aR_cons (a := 25) (b := 31) k6 (aR_cons (a := 25) (b := 32) k7 (aR_cons (a := 25) (b := 33) k8 aR_nil)))))))) (by decide) aF_nil
  simp only [up2_eq, va_rf, eq_self, or_true, true_or, Option.toList_some, Option.toList_none, List.cons_append, List.nil_append, if_true, if_false]
  rw [rX11_init_78 (show sh6 x = some (0, 11, 0) from c6.1 (0, 0, 11, 0) (by decide)), show x + 25 + 9 = x + 34 from rfl]
  have eF6 : ∀ q a, a < x + 25 → zap F5 (x + 25) 0 q a = F5 q a := fun q a ha => zap_ne (by omega)
  generalize zap F5 (x + 25) 0 = F6 at c6 eF6 ⊢
  generalize up2 R6 1105 x (some (x + 25)) = P6 at c6 ⊢
  simp only [rX11_init_81, rX11_init_82, rX11_init_85]
  rw [rX11_init_86, eX10_init]
  simp only [rX10_init_0, rX10_init_1, rX10_init_4, up2_eq, va_rf, eq_self, or_true, true_or, Option.toList_some, Option.toList_none, List.cons_append, List.nil_append, if_true, if_false]
  have ag7 : agr (x + 34) sh6 F6 P6 A6 B4 (up1 sh6 (x + 34) (some (0, 10, 0))) (zap F6 (x + 34) 0) (zap P6 (x + 34) none) A6 B4 := ⟨fun a ha => up1_ne (by omega), fun q a ha => zap_ne (by omega), fun q a ha => zap_ne (by omega), fun _ _ => rfl, fun _ _ => rfl⟩
  have c7 := cI_step (kk := 34) (q := 1106) c6 ag7 (by decide) (by decide) (by decide) (aS_cons (a := 34) up1_eq aS_nil) aR_nil (by decide) aF_nil
  rw [rX11_init_89 (show (up1 sh6 (x + 34) (some (0, 10, 0))) x = some (0, 11, 0) from c7.1 (0, 0, 11, 0) (by decide)), show x + 34 + 1 = x + 35 from rfl]
  have eF7 : ∀ q a, a < x + 34 → zap F6 (x + 34) 0 q a = F6 q a := fun q a ha => zap_ne (by omega)
  generalize zap F6 (x + 34) 0 = F7 at c7 eF7 ⊢
  generalize up1 sh6 (x + 34) (some (0, 10, 0)) = sh7 at c7 ⊢
  generalize up2 (zap P6 (x + 34) none) 1106 x (some (x + 34)) = P7 at c7 ⊢
  have ex7 : up1 sh7 (x + 35) (some (0, 6, 0)) x = some (0, 11, 0) := by rw [up1_ne (by omega)]; exact c7.1 (0, 0, 11, 0) (by decide)
  have er7 : zap P7 (x + 35) none 1103 x = some (x + 9) := by rw [zap_ne (by omega)]; exact c7.2.1 (1103, 0, 9) (by decide)
  simp only [rX11_init_92, rX11_init_93, rX11_init_96, rX11_init_97, rX11_init_98, ex7, er7, up2_eq, va_rf, eq_self, or_true, true_or, Option.toList_some, Option.toList_none, List.cons_append, List.nil_append, if_true, if_false]
  rw [rX11_init_101]
  refine k_Reader_init (k := k + 1) up1_eq ?_
  intro u8 sh8 F8 R8 A8 B8 fr8 r8 s8 g8 hu8
  have ag8 := agO fr8
  have c8 := cI_step (kk := 35) (q := 1107) c7 ag8 (by decide) (by decide) (by decide) (aS_cons (a := 35) (frO_S fr8) (aS_cons (a := 36) s8.1 (aS_cons (a := 37) s8.2 aS_nil))) (aR_cons (a := 35) (b := 9) r8.1 (aR_cons (a := 35) (b := 36) r8.2.1 (aR_cons (a := 36) (b := 37) r8.2.2 aR_nil))) (by decide) (aF_cons (a := 36) g8 aF_nil)
  simp only [up2_eq, va_rf, eq_self, or_true, true_or, Option.toList_some, Option.toList_none, List.cons_append, List.nil_append, if_true, if_false]
  rw [rX11_init_104 (show sh8 x = some (0, 11, 0) from c8.1 (0, 0, 11, 0) (by decide)), show x + 35 + 3 = x + 38 from rfl]
  generalize up2 R8 1107 x (some (x + 35)) = P8 at c8 ⊢
  have ex8 : up1 sh8 (x + 38) (some (0, 8, 0)) x = some (0, 11, 0) := by rw [up1_ne (by omega)]; exact c8.1 (0, 0, 11, 0) (by decide)
  have er8 : zap P8 (x + 38) none 1105 x = some (x + 25) := by rw [zap_ne (by omega)]; exact c8.2.1 (1105, 0, 25) (by decide)
  simp only [rX11_init_107, rX11_init_108, rX11_init_111, rX11_init_112, rX11_init_113, ex8, er8, up2_eq, va_rf, eq_self, or_true, true_or, Option.toList_some, Option.toList_none, List.cons_append, List.nil_append, if_true, if_false]
  rw [rX11_init_116]
  refine k_Trainer_init (k := k) up1_eq ?_
  intro u9 sh9 F9 R9 A9 B9 fr9 r9 s9 g9 hB1 hB2 hu9
  have ag9 := agO fr9
  obtain ⟨t1, t2, t3, t4, t5, t6, t7, t8, t9, t10, t11⟩ := r9
  obtain ⟨v1, v2, v3, v4, v5, v6, v7, v8, v9, v10, v11⟩ := s9
  have c9 := cI_step (kk := 38) (q := 1108) c8 ag9 (by decide) (by decide) (by decide)
    (aS_cons (a := 38) (frO_S fr9) (aS_cons (a := 39) v1 (aS_cons (a := 40) v2 (aS_cons (a := 41) v3 (aS_cons (a := 42) v4 (aS_cons (a := 43) v5 (aS_cons (a := 44) v6 (aS_cons (a := 45) v7 (aS_cons (a := 46) v8
      (aS_cons (a := 47) (v9 0 (by decide)).1 (aS_cons (a := 48) (v9 0 (by decide)).2 (aS_cons (a := 49) (v9 1 (by decide)).1 (aS_cons (a := 50) (v9 1 (by decide)).2 (aS_cons (a := 51) (v9 2 (by decide)).1 (aS_cons (a := 52) (v9 2 (by decide)).2 (aS_cons (a := 53) (v9 3 (by decide)).1 (aS_cons (a := 54) (v9 3 (by decide)).2 (aS_cons (a := 55) (v9 4 (by decide)).1 (aS_cons (a := 56) (v9 4 (by decide)).2 (aS_cons (a := 57) (v9 5 (by decide)).1 (aS_cons (a := 58) (v9 5 (by decide)).2 (aS_cons (a := 59) (v9 6 (by decide)).1 (aS_cons (a := 60) (v9 6 (by decide)).2 (aS_cons (a := 61) (v9 7 (by decide)).1 (aS_cons (a := 62) (v9 7 (by decide)).2
      (aS_cons (a := 63) v10 (aS_cons (a := 64) (v11 0 (by decide)) (aS_cons (a := 65) (v11 1 (by decide)) (aS_cons (a := 66) (v11 2 (by decide)) (aS_cons (a := 67) (v11 3 (by decide)) (aS_cons (a := 68) (v11 4 (by decide)) (aS_cons (a := 69) (v11 5 (by decide)) (aS_cons (a := 70) (v11 6 (by decide)) (aS_cons (a := 71) (v11 7 (by decide)) aS_nil))))))))))))))))))))))))))))))))))
    (aR_cons (a := 38) (b := 25) t1 (aR_cons (a := 38) (b := 39) t2 (aR_cons (a := 38) (b := 40) t3 (aR_cons (a := 38) (b := 63) t4 (aR_cons (a := 38) (b := 41) t5 (aR_cons (a := 38) (b := 42) t6 (aR_cons (a := 42) (b := 43) t7 (aR_cons (a := 42) (b := 45) t8 (aR_cons (a := 43) (b := 44) t9 (aR_cons (a := 38) (b := 46) t10
      (aR_cons (a := 47) (b := 48) (t11 0 (by decide)) (aR_cons (a := 49) (b := 50) (t11 1 (by decide)) (aR_cons (a := 51) (b := 52) (t11 2 (by decide)) (aR_cons (a := 53) (b := 54) (t11 3 (by decide)) (aR_cons (a := 55) (b := 56) (t11 4 (by decide)) (aR_cons (a := 57) (b := 58) (t11 5 (by decide)) (aR_cons (a := 59) (b := 60) (t11 6 (by decide)) (aR_cons (a := 61) (b := 62) (t11 7 (by decide)) aR_nil))))))))))))))))))
    (by decide) (aF_cons (a := 38) (frO_F fr9 802) (aF_cons (a := 38) (frO_F fr9 809) (aF_cons (a := 38) (frO_F fr9 810) (aF_cons (a := 42) g9.1 (aF_cons (a := 43) g9.2 aF_nil)))))
  simp only [up2_eq, va_rf, eq_self, or_true, true_or, Option.toList_some, Option.toList_none, List.cons_append, List.nil_append, if_true, if_false]
  rw [rX11_init_119 (show sh9 x = some (0, 11, 0) from c9.1 (0, 0, 11, 0) (by decide)), show x + 38 + 34 = x + 72 from rfl]
  generalize up2 R9 1108 x (some (x + 38)) = P9 at c9 ⊢
  have ex9 : up1 sh9 (x + 72) (some (0, 9, 0)) x = some (0, 11, 0) := by rw [up1_ne (by omega)]; exact c9.1 (0, 0, 11, 0) (by decide)
  have er9 : zap P9 (x + 72) none 1103 x = some (x + 9) := by rw [zap_ne (by omega)]; exact c9.2.1 (1103, 0, 9) (by decide)
  simp only [rX11_init_122, rX11_init_123, rX11_init_126, rX11_init_127, rX11_init_128, ex9, er9, up2_eq, va_rf, eq_self, or_true, true_or, Option.toList_some, Option.toList_none, List.cons_append, List.nil_append, if_true, if_false]
  rw [rX11_init_131]
  refine k_Wire_init (k := k + 1) up1_eq zap_eq ?_
  intro u10 sh10 F10 R10 A10 B10 fr10 r10 s10 hu10
  have ag10 := agO fr10
  obtain ⟨w1, w2, w3, w4, w5⟩ := r10
  have c10 := cI_step (kk := 72) (q := 1109) c9 ag10 (by decide) (by decide) (by decide) (aS_cons (a := 72) (frO_S fr10) (aS_cons (a := 73) s10.1 (aS_cons (a := 74) s10.2.1 (aS_cons (a := 75) s10.2.2 aS_nil)))) (aR_cons (a := 72) (b := 9) w1 (aR_cons (a := 72) (b := 73) w2 (aR_cons (a := 72) (b := 74) w3 (aR_cons (a := 74) (b := 75) w4 aR_nil)))) (by decide) (aF_cons (a := 72) (frO_F fr10 904) (aF_cons (a := 72) (frO_F fr10 905) (aF_cons (a := 72) (frO_F fr10 906) (aF_cons (a := 72) (frO_F fr10 907) aF_nil))))
  simp only [up2_eq, va_rf, eq_self, or_true, true_or, Option.toList_some, Option.toList_none, List.cons_append, List.nil_append, if_true, if_false]
  rw [rX11_init_134 (show sh10 x = some (0, 11, 0) from c10.1 (0, 0, 11, 0) (by decide)), show x + 72 + 4 = x + 76 from rfl]
  have w5' : up2 R10 1109 x (some (x + 72)) 903 (x + 72) = none := by rw [up2_k (by decide)]; exact w5
  generalize up2 R10 1109 x (some (x + 72)) = P10 at c10 w5' ⊢
  simp only [rX11_init_137, rX11_init_138, rX11_init_141, rX11_init_142]
  rw [rX11_init_144]
  refine j_Bytes (k := k + 2) up1_eq (by decide) ?_
  intro u11 sh11 F11 R11 A11 B11 fr11 r11 s11 hu11
  have ag11 := agO fr11
  have c11 := cI_step (kk := 76) (q := 1110) c10 ag11 (by decide) (by decide) (by decide) (aS_cons (a := 76) (frO_S fr11) (aS_cons (a := 77) s11 aS_nil)) (aR_cons (a := 76) (b := 77) r11 aR_nil) (by decide) (aF_cons (a := 76) (frO_F fr11 101) aF_nil)
  have w6 : up2 R11 1110 x (some (x + 76)) 903 (x + 72) = none := by rw [up2_k (by decide), ag11.2.2.1 _ _ (by omega)]; exact w5'
  have ex11 := c11.1 (0, 0, 11, 0) (by decide)
  have ex11' : sh11 x = some (0, 11, 0) := ex11
  simp only [up2_eq, va_rf, eq_self, or_true, true_or, Option.toList_some, Option.toList_none, List.cons_append, List.nil_append, if_true, if_false]
  rw [rX11_init_147 ex11', show x + 76 + 2 = x + 78 from rfl]
  generalize up2 R11 1110 x (some (x + 76)) = P11 at c11 w6 ⊢
  simp only [rX11_init_150, rX11_init_151, rX11_init_152, rX11_init_155, rX11_init_156, rX11_init_157, rX11_init_160, ex11', up2_eq, va_rf, eq_self, or_true, true_or, Option.toList_some, Option.toList_none, List.cons_append, List.nil_append, if_true, if_false]
  have eF : ∀ q a, ¬ ((q = 1111 ∨ q = 1112) ∧ a = x) → up2 (up2 F11 1111 x (-1)) 1112 x (nI 0) q a = F11 q a := fun q a g => by rw [up2_o (by omega), up2_o (by omega)]
  have e1112 : up2 (up2 F11 1111 x (-1)) 1112 x (nI 0) 1112 x = nI 0 := up2_eq
  have e1111 : up2 (up2 F11 1111 x (-1)) 1112 x (nI 0) 1111 x = -1 := by rw [up2_k (by decide), up2_eq]
  have hFv : ∀ q, up2 (up2 F11 1111 x (-1)) 1112 x (nI 0) q (x + 11) = F4 q (x + 11) := fun q => by rw [eF q _ (by omega), ag11.2.1 _ _ (by omega), ag10.2.1 _ _ (by omega), ag9.2.1 _ _ (by omega), ag8.2.1 _ _ (by omega), eF7 _ _ (by omega), eF6 _ _ (by omega), eF5 _ _ (by omega)]
  have hVf : bkV (up2 (up2 F11 1111 x (-1)) 1112 x (nI 0)) (x + 11) (-1) 2 1 0 0 0 0 := by
    unfold bkV
    rw [hFv, hFv, hFv, hFv, hFv, hFv, hFv]
    exact hV
  have hA24 : ∀ j, 1 ≤ j → j ≤ 120 → A11 (x + 24) j = nI (gm j) := fun j j1 j2 => by rw [ag11.2.2.2.1 _ (by omega), ag10.2.2.2.1 _ (by omega), ag9.2.2.2.1 _ (by omega), ag8.2.2.2.1 _ (by omega), ag6.2.2.2.1 _ (by omega)]; exact hg5 j j1 j2
  have hA33 : ∀ j, 1 ≤ j → j ≤ 120 → A11 (x + 33) j = nI (gm j) := fun j j1 j2 => by rw [ag11.2.2.2.1 _ (by omega), ag10.2.2.2.1 _ (by omega), ag9.2.2.2.1 _ (by omega), ag8.2.2.2.1 _ (by omega)]; exact hg6 j j1 j2
  have hBf1 : ∀ i, i < 8 → B11 (x + 39) i = some (x + 47 + 2 * i) := fun i hi => by rw [ag11.2.2.2.2 _ (by omega), ag10.2.2.2.2 _ (by omega)]; exact hB1 i hi
  have hBf2 : ∀ i, i < 8 → B11 (x + 40) i = some (x + 64 + i) := fun i hi => by rw [ag11.2.2.2.2 _ (by omega), ag10.2.2.2.2 _ (by omega)]; exact hB2 i hi
  have hFf := c11.2.2.1
  have hFg : aF x (up2 (up2 F11 1111 x (-1)) 1112 x (nI 0)) ((1112, 0) :: [(101, 1), (101, 3), (502, 5), (101, 6), (701, 9), (1, 11), (502, 12), (101, 13), (410, 16), (101, 36), (802, 38), (809, 38), (810, 38), (502, 42), (101, 43), (904, 72), (905, 72), (906, 72), (907, 72), (101, 76)]) := by
    refine aF_cons (a := 0) e1112 (fun e he => ?_)
    have b1 : ∀ e, e ∈ [(101, 1), (101, 3), (502, 5), (101, 6), (701, 9), (1, 11), (502, 12), (101, 13), (410, 16), (101, 36), (802, 38), (809, 38), (810, 38), (502, 42), (101, 43), (904, 72), (905, 72), (906, 72), (907, 72), (101, 76)] → (e : Nat × Nat).2 ≠ 0 := by decide
    have b2 := b1 e he
    rw [eF _ _ (by omega)]
    refine hFf e ?_
    revert e
    decide
  refine hQ _ _ _ _ _ _ (cX_of c11.1 c11.2.1 hFg (by decide +kernel) (by decide +kernel) (by decide) hVf e1111 hA24 hA33 hBf1 hBf2 w6) ⟨c11.2.2.2.1, fun q a ha => by rw [eF q a (by omega)]; exact c11.2.2.2.2.1 q a ha, c11.2.2.2.2.2.1, c11.2.2.2.2.2.2.1, c11.2.2.2.2.2.2.2⟩ (by omega)
end CI5
