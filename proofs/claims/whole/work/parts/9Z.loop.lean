/-! ===== the law: its loop ===== -/
section LOO
variable {x b L n0 u0 : Nat} {xs : Nat → Int32} {Q : Option Value → pm_H → Prop}
theorem l_case {n u t c : Nat} {sh : hs_} {F : hF_} {R : hR_} {A : hF_} {B : hR_} {T : TT} (hc : c < 32) (hB : BS x b L n xs sh F R A B T) (hi : 6 * t + 6 ≤ L)
    (next : ∀ T' n' u' sh' F' R' A' B', BS x b L n' xs sh' F' R' A' B' T' → n' ≤ n + 8 → u' ≤ u + 5000 → rw_ 9 mL_law 878 [.ref b, .ref x, .ref (x + 78), .int (nI (6 * t))] [] (mkh n' u' sh' F' R' A' B') Q) :
    rw_ 9 mL_law 33 [.ref b, .ref x, .ref (x + 78), .int (nI (6 * t))] [.int (nI c)] (mkh n u sh F R A B) Q := by
  rw [rL_law_33]
  match c, hc with
  | 0, _ =>
    rw [if_pos rfl]
    exact lw_feed hB hi (next _)
  | 1, _ =>
    rw [if_neg (show ¬ nI 1 = nI 0 by decide), if_pos rfl]
    exact lw_trim hB hi (next _)
  | 2, _ =>
    rw [if_neg (show ¬ nI 2 = nI 0 by decide), if_neg (show ¬ nI 2 = nI 1 by decide), if_pos rfl]
    exact lw_again hB hi (next _)
  | 3, _ =>
    rw [if_neg (show ¬ nI 3 = nI 0 by decide), if_neg (show ¬ nI 3 = nI 1 by decide), if_neg (show ¬ nI 3 = nI 2 by decide), if_pos rfl]
    exact lw_out hB hi (next _)
  | 4, _ =>
    rw [if_neg (show ¬ nI 4 = nI 0 by decide), if_neg (show ¬ nI 4 = nI 1 by decide), if_neg (show ¬ nI 4 = nI 2 by decide), if_neg (show ¬ nI 4 = nI 3 by decide), if_pos rfl]
    exact lw_piece hB hi (next _)
  | 5, _ =>
    rw [if_neg (show ¬ nI 5 = nI 0 by decide), if_neg (show ¬ nI 5 = nI 1 by decide), if_neg (show ¬ nI 5 = nI 2 by decide), if_neg (show ¬ nI 5 = nI 3 by decide), if_neg (show ¬ nI 5 = nI 4 by decide), if_pos rfl]
    exact lw_book hB hi (next _)
  | 6, _ =>
    rw [if_neg (show ¬ nI 6 = nI 0 by decide), if_neg (show ¬ nI 6 = nI 1 by decide), if_neg (show ¬ nI 6 = nI 2 by decide), if_neg (show ¬ nI 6 = nI 3 by decide), if_neg (show ¬ nI 6 = nI 4 by decide), if_neg (show ¬ nI 6 = nI 5 by decide), if_pos rfl]
    exact lw_about hB hi (next _)
  | 7, _ =>
    rw [if_neg (show ¬ nI 7 = nI 0 by decide), if_neg (show ¬ nI 7 = nI 1 by decide), if_neg (show ¬ nI 7 = nI 2 by decide), if_neg (show ¬ nI 7 = nI 3 by decide), if_neg (show ¬ nI 7 = nI 4 by decide), if_neg (show ¬ nI 7 = nI 5 by decide), if_neg (show ¬ nI 7 = nI 6 by decide), if_pos rfl]
    exact lw_tell hB hi (next _)
  | 8, _ =>
    rw [if_neg (show ¬ nI 8 = nI 0 by decide), if_neg (show ¬ nI 8 = nI 1 by decide), if_neg (show ¬ nI 8 = nI 2 by decide), if_neg (show ¬ nI 8 = nI 3 by decide), if_neg (show ¬ nI 8 = nI 4 by decide), if_neg (show ¬ nI 8 = nI 5 by decide), if_neg (show ¬ nI 8 = nI 6 by decide), if_neg (show ¬ nI 8 = nI 7 by decide), if_pos rfl]
    exact lw_isOf hB hi (next _)
  | 9, _ =>
    rw [if_neg (show ¬ nI 9 = nI 0 by decide), if_neg (show ¬ nI 9 = nI 1 by decide), if_neg (show ¬ nI 9 = nI 2 by decide), if_neg (show ¬ nI 9 = nI 3 by decide), if_neg (show ¬ nI 9 = nI 4 by decide), if_neg (show ¬ nI 9 = nI 5 by decide), if_neg (show ¬ nI 9 = nI 6 by decide), if_neg (show ¬ nI 9 = nI 7 by decide), if_neg (show ¬ nI 9 = nI 8 by decide), if_pos rfl]
    exact lw_pack hB hi (next _)
  | 10, _ =>
    rw [if_neg (show ¬ nI 10 = nI 0 by decide), if_neg (show ¬ nI 10 = nI 1 by decide), if_neg (show ¬ nI 10 = nI 2 by decide), if_neg (show ¬ nI 10 = nI 3 by decide), if_neg (show ¬ nI 10 = nI 4 by decide), if_neg (show ¬ nI 10 = nI 5 by decide), if_neg (show ¬ nI 10 = nI 6 by decide), if_neg (show ¬ nI 10 = nI 7 by decide), if_neg (show ¬ nI 10 = nI 8 by decide), if_neg (show ¬ nI 10 = nI 9 by decide), if_pos rfl]
    exact lw_greedy hB hi (next _)
  | 11, _ =>
    rw [if_neg (show ¬ nI 11 = nI 0 by decide), if_neg (show ¬ nI 11 = nI 1 by decide), if_neg (show ¬ nI 11 = nI 2 by decide), if_neg (show ¬ nI 11 = nI 3 by decide), if_neg (show ¬ nI 11 = nI 4 by decide), if_neg (show ¬ nI 11 = nI 5 by decide), if_neg (show ¬ nI 11 = nI 6 by decide), if_neg (show ¬ nI 11 = nI 7 by decide), if_neg (show ¬ nI 11 = nI 8 by decide), if_neg (show ¬ nI 11 = nI 9 by decide), if_neg (show ¬ nI 11 = nI 10 by decide), if_pos rfl]
    exact lw_bits hB hi (next _)
  | 12, _ =>
    rw [if_neg (show ¬ nI 12 = nI 0 by decide), if_neg (show ¬ nI 12 = nI 1 by decide), if_neg (show ¬ nI 12 = nI 2 by decide), if_neg (show ¬ nI 12 = nI 3 by decide), if_neg (show ¬ nI 12 = nI 4 by decide), if_neg (show ¬ nI 12 = nI 5 by decide), if_neg (show ¬ nI 12 = nI 6 by decide), if_neg (show ¬ nI 12 = nI 7 by decide), if_neg (show ¬ nI 12 = nI 8 by decide), if_neg (show ¬ nI 12 = nI 9 by decide), if_neg (show ¬ nI 12 = nI 10 by decide), if_neg (show ¬ nI 12 = nI 11 by decide), if_pos rfl]
    exact lw_part hB hi (next _)
  | 13, _ =>
    rw [if_neg (show ¬ nI 13 = nI 0 by decide), if_neg (show ¬ nI 13 = nI 1 by decide), if_neg (show ¬ nI 13 = nI 2 by decide), if_neg (show ¬ nI 13 = nI 3 by decide), if_neg (show ¬ nI 13 = nI 4 by decide), if_neg (show ¬ nI 13 = nI 5 by decide), if_neg (show ¬ nI 13 = nI 6 by decide), if_neg (show ¬ nI 13 = nI 7 by decide), if_neg (show ¬ nI 13 = nI 8 by decide), if_neg (show ¬ nI 13 = nI 9 by decide), if_neg (show ¬ nI 13 = nI 10 by decide), if_neg (show ¬ nI 13 = nI 11 by decide), if_neg (show ¬ nI 13 = nI 12 by decide), if_pos rfl]
    exact lw_rest hB hi (next _)
  | 14, _ =>
    rw [if_neg (show ¬ nI 14 = nI 0 by decide), if_neg (show ¬ nI 14 = nI 1 by decide), if_neg (show ¬ nI 14 = nI 2 by decide), if_neg (show ¬ nI 14 = nI 3 by decide), if_neg (show ¬ nI 14 = nI 4 by decide), if_neg (show ¬ nI 14 = nI 5 by decide), if_neg (show ¬ nI 14 = nI 6 by decide), if_neg (show ¬ nI 14 = nI 7 by decide), if_neg (show ¬ nI 14 = nI 8 by decide), if_neg (show ¬ nI 14 = nI 9 by decide), if_neg (show ¬ nI 14 = nI 10 by decide), if_neg (show ¬ nI 14 = nI 11 by decide), if_neg (show ¬ nI 14 = nI 12 by decide), if_neg (show ¬ nI 14 = nI 13 by decide), if_pos rfl]
    exact lw_unpack hB hi (next _)
  | 15, _ =>
    rw [if_neg (show ¬ nI 15 = nI 0 by decide), if_neg (show ¬ nI 15 = nI 1 by decide), if_neg (show ¬ nI 15 = nI 2 by decide), if_neg (show ¬ nI 15 = nI 3 by decide), if_neg (show ¬ nI 15 = nI 4 by decide), if_neg (show ¬ nI 15 = nI 5 by decide), if_neg (show ¬ nI 15 = nI 6 by decide), if_neg (show ¬ nI 15 = nI 7 by decide), if_neg (show ¬ nI 15 = nI 8 by decide), if_neg (show ¬ nI 15 = nI 9 by decide), if_neg (show ¬ nI 15 = nI 10 by decide), if_neg (show ¬ nI 15 = nI 11 by decide), if_neg (show ¬ nI 15 = nI 12 by decide), if_neg (show ¬ nI 15 = nI 13 by decide), if_neg (show ¬ nI 15 = nI 14 by decide), if_pos rfl]
    exact lw_fault hB hi (next _)
  | 16, _ =>
    rw [if_neg (show ¬ nI 16 = nI 0 by decide), if_neg (show ¬ nI 16 = nI 1 by decide), if_neg (show ¬ nI 16 = nI 2 by decide), if_neg (show ¬ nI 16 = nI 3 by decide), if_neg (show ¬ nI 16 = nI 4 by decide), if_neg (show ¬ nI 16 = nI 5 by decide), if_neg (show ¬ nI 16 = nI 6 by decide), if_neg (show ¬ nI 16 = nI 7 by decide), if_neg (show ¬ nI 16 = nI 8 by decide), if_neg (show ¬ nI 16 = nI 9 by decide), if_neg (show ¬ nI 16 = nI 10 by decide), if_neg (show ¬ nI 16 = nI 11 by decide), if_neg (show ¬ nI 16 = nI 12 by decide), if_neg (show ¬ nI 16 = nI 13 by decide), if_neg (show ¬ nI 16 = nI 14 by decide), if_neg (show ¬ nI 16 = nI 15 by decide), if_pos rfl]
    exact lw_sample hB hi (next _)
  | 17, _ =>
    rw [if_neg (show ¬ nI 17 = nI 0 by decide), if_neg (show ¬ nI 17 = nI 1 by decide), if_neg (show ¬ nI 17 = nI 2 by decide), if_neg (show ¬ nI 17 = nI 3 by decide), if_neg (show ¬ nI 17 = nI 4 by decide), if_neg (show ¬ nI 17 = nI 5 by decide), if_neg (show ¬ nI 17 = nI 6 by decide), if_neg (show ¬ nI 17 = nI 7 by decide), if_neg (show ¬ nI 17 = nI 8 by decide), if_neg (show ¬ nI 17 = nI 9 by decide), if_neg (show ¬ nI 17 = nI 10 by decide), if_neg (show ¬ nI 17 = nI 11 by decide), if_neg (show ¬ nI 17 = nI 12 by decide), if_neg (show ¬ nI 17 = nI 13 by decide), if_neg (show ¬ nI 17 = nI 14 by decide), if_neg (show ¬ nI 17 = nI 15 by decide), if_neg (show ¬ nI 17 = nI 16 by decide), if_pos rfl]
    exact lw_forget hB hi (next _)
  | 18, _ =>
    rw [if_neg (show ¬ nI 18 = nI 0 by decide), if_neg (show ¬ nI 18 = nI 1 by decide), if_neg (show ¬ nI 18 = nI 2 by decide), if_neg (show ¬ nI 18 = nI 3 by decide), if_neg (show ¬ nI 18 = nI 4 by decide), if_neg (show ¬ nI 18 = nI 5 by decide), if_neg (show ¬ nI 18 = nI 6 by decide), if_neg (show ¬ nI 18 = nI 7 by decide), if_neg (show ¬ nI 18 = nI 8 by decide), if_neg (show ¬ nI 18 = nI 9 by decide), if_neg (show ¬ nI 18 = nI 10 by decide), if_neg (show ¬ nI 18 = nI 11 by decide), if_neg (show ¬ nI 18 = nI 12 by decide), if_neg (show ¬ nI 18 = nI 13 by decide), if_neg (show ¬ nI 18 = nI 14 by decide), if_neg (show ¬ nI 18 = nI 15 by decide), if_neg (show ¬ nI 18 = nI 16 by decide), if_neg (show ¬ nI 18 = nI 17 by decide), if_pos rfl]
    exact lw_train hB hi (next _)
  | 19, _ =>
    rw [if_neg (show ¬ nI 19 = nI 0 by decide), if_neg (show ¬ nI 19 = nI 1 by decide), if_neg (show ¬ nI 19 = nI 2 by decide), if_neg (show ¬ nI 19 = nI 3 by decide), if_neg (show ¬ nI 19 = nI 4 by decide), if_neg (show ¬ nI 19 = nI 5 by decide), if_neg (show ¬ nI 19 = nI 6 by decide), if_neg (show ¬ nI 19 = nI 7 by decide), if_neg (show ¬ nI 19 = nI 8 by decide), if_neg (show ¬ nI 19 = nI 9 by decide), if_neg (show ¬ nI 19 = nI 10 by decide), if_neg (show ¬ nI 19 = nI 11 by decide), if_neg (show ¬ nI 19 = nI 12 by decide), if_neg (show ¬ nI 19 = nI 13 by decide), if_neg (show ¬ nI 19 = nI 14 by decide), if_neg (show ¬ nI 19 = nI 15 by decide), if_neg (show ¬ nI 19 = nI 16 by decide), if_neg (show ¬ nI 19 = nI 17 by decide), if_neg (show ¬ nI 19 = nI 18 by decide), if_pos rfl]
    exact lw_gained hB hi (next _)
  | 20, _ =>
    rw [if_neg (show ¬ nI 20 = nI 0 by decide), if_neg (show ¬ nI 20 = nI 1 by decide), if_neg (show ¬ nI 20 = nI 2 by decide), if_neg (show ¬ nI 20 = nI 3 by decide), if_neg (show ¬ nI 20 = nI 4 by decide), if_neg (show ¬ nI 20 = nI 5 by decide), if_neg (show ¬ nI 20 = nI 6 by decide), if_neg (show ¬ nI 20 = nI 7 by decide), if_neg (show ¬ nI 20 = nI 8 by decide), if_neg (show ¬ nI 20 = nI 9 by decide), if_neg (show ¬ nI 20 = nI 10 by decide), if_neg (show ¬ nI 20 = nI 11 by decide), if_neg (show ¬ nI 20 = nI 12 by decide), if_neg (show ¬ nI 20 = nI 13 by decide), if_neg (show ¬ nI 20 = nI 14 by decide), if_neg (show ¬ nI 20 = nI 15 by decide), if_neg (show ¬ nI 20 = nI 16 by decide), if_neg (show ¬ nI 20 = nI 17 by decide), if_neg (show ¬ nI 20 = nI 18 by decide), if_neg (show ¬ nI 20 = nI 19 by decide), if_pos rfl]
    exact lw_price hB hi (next _)
  | 21, _ =>
    rw [if_neg (show ¬ nI 21 = nI 0 by decide), if_neg (show ¬ nI 21 = nI 1 by decide), if_neg (show ¬ nI 21 = nI 2 by decide), if_neg (show ¬ nI 21 = nI 3 by decide), if_neg (show ¬ nI 21 = nI 4 by decide), if_neg (show ¬ nI 21 = nI 5 by decide), if_neg (show ¬ nI 21 = nI 6 by decide), if_neg (show ¬ nI 21 = nI 7 by decide), if_neg (show ¬ nI 21 = nI 8 by decide), if_neg (show ¬ nI 21 = nI 9 by decide), if_neg (show ¬ nI 21 = nI 10 by decide), if_neg (show ¬ nI 21 = nI 11 by decide), if_neg (show ¬ nI 21 = nI 12 by decide), if_neg (show ¬ nI 21 = nI 13 by decide), if_neg (show ¬ nI 21 = nI 14 by decide), if_neg (show ¬ nI 21 = nI 15 by decide), if_neg (show ¬ nI 21 = nI 16 by decide), if_neg (show ¬ nI 21 = nI 17 by decide), if_neg (show ¬ nI 21 = nI 18 by decide), if_neg (show ¬ nI 21 = nI 19 by decide), if_neg (show ¬ nI 21 = nI 20 by decide), if_pos rfl]
    exact lw_offer hB hi (next _)
  | 22, _ =>
    rw [if_neg (show ¬ nI 22 = nI 0 by decide), if_neg (show ¬ nI 22 = nI 1 by decide), if_neg (show ¬ nI 22 = nI 2 by decide), if_neg (show ¬ nI 22 = nI 3 by decide), if_neg (show ¬ nI 22 = nI 4 by decide), if_neg (show ¬ nI 22 = nI 5 by decide), if_neg (show ¬ nI 22 = nI 6 by decide), if_neg (show ¬ nI 22 = nI 7 by decide), if_neg (show ¬ nI 22 = nI 8 by decide), if_neg (show ¬ nI 22 = nI 9 by decide), if_neg (show ¬ nI 22 = nI 10 by decide), if_neg (show ¬ nI 22 = nI 11 by decide), if_neg (show ¬ nI 22 = nI 12 by decide), if_neg (show ¬ nI 22 = nI 13 by decide), if_neg (show ¬ nI 22 = nI 14 by decide), if_neg (show ¬ nI 22 = nI 15 by decide), if_neg (show ¬ nI 22 = nI 16 by decide), if_neg (show ¬ nI 22 = nI 17 by decide), if_neg (show ¬ nI 22 = nI 18 by decide), if_neg (show ¬ nI 22 = nI 19 by decide), if_neg (show ¬ nI 22 = nI 20 by decide), if_neg (show ¬ nI 22 = nI 21 by decide), if_pos rfl]
    exact lw_send hB hi (next _)
  | 23, _ =>
    rw [if_neg (show ¬ nI 23 = nI 0 by decide), if_neg (show ¬ nI 23 = nI 1 by decide), if_neg (show ¬ nI 23 = nI 2 by decide), if_neg (show ¬ nI 23 = nI 3 by decide), if_neg (show ¬ nI 23 = nI 4 by decide), if_neg (show ¬ nI 23 = nI 5 by decide), if_neg (show ¬ nI 23 = nI 6 by decide), if_neg (show ¬ nI 23 = nI 7 by decide), if_neg (show ¬ nI 23 = nI 8 by decide), if_neg (show ¬ nI 23 = nI 9 by decide), if_neg (show ¬ nI 23 = nI 10 by decide), if_neg (show ¬ nI 23 = nI 11 by decide), if_neg (show ¬ nI 23 = nI 12 by decide), if_neg (show ¬ nI 23 = nI 13 by decide), if_neg (show ¬ nI 23 = nI 14 by decide), if_neg (show ¬ nI 23 = nI 15 by decide), if_neg (show ¬ nI 23 = nI 16 by decide), if_neg (show ¬ nI 23 = nI 17 by decide), if_neg (show ¬ nI 23 = nI 18 by decide), if_neg (show ¬ nI 23 = nI 19 by decide), if_neg (show ¬ nI 23 = nI 20 by decide), if_neg (show ¬ nI 23 = nI 21 by decide), if_neg (show ¬ nI 23 = nI 22 by decide), if_pos rfl]
    exact lw_over hB hi (next _)
  | 24, _ =>
    rw [if_neg (show ¬ nI 24 = nI 0 by decide), if_neg (show ¬ nI 24 = nI 1 by decide), if_neg (show ¬ nI 24 = nI 2 by decide), if_neg (show ¬ nI 24 = nI 3 by decide), if_neg (show ¬ nI 24 = nI 4 by decide), if_neg (show ¬ nI 24 = nI 5 by decide), if_neg (show ¬ nI 24 = nI 6 by decide), if_neg (show ¬ nI 24 = nI 7 by decide), if_neg (show ¬ nI 24 = nI 8 by decide), if_neg (show ¬ nI 24 = nI 9 by decide), if_neg (show ¬ nI 24 = nI 10 by decide), if_neg (show ¬ nI 24 = nI 11 by decide), if_neg (show ¬ nI 24 = nI 12 by decide), if_neg (show ¬ nI 24 = nI 13 by decide), if_neg (show ¬ nI 24 = nI 14 by decide), if_neg (show ¬ nI 24 = nI 15 by decide), if_neg (show ¬ nI 24 = nI 16 by decide), if_neg (show ¬ nI 24 = nI 17 by decide), if_neg (show ¬ nI 24 = nI 18 by decide), if_neg (show ¬ nI 24 = nI 19 by decide), if_neg (show ¬ nI 24 = nI 20 by decide), if_neg (show ¬ nI 24 = nI 21 by decide), if_neg (show ¬ nI 24 = nI 22 by decide), if_neg (show ¬ nI 24 = nI 23 by decide), if_pos rfl]
    exact lw_deliver hB hi (next _)
  | 25, _ =>
    rw [if_neg (show ¬ nI 25 = nI 0 by decide), if_neg (show ¬ nI 25 = nI 1 by decide), if_neg (show ¬ nI 25 = nI 2 by decide), if_neg (show ¬ nI 25 = nI 3 by decide), if_neg (show ¬ nI 25 = nI 4 by decide), if_neg (show ¬ nI 25 = nI 5 by decide), if_neg (show ¬ nI 25 = nI 6 by decide), if_neg (show ¬ nI 25 = nI 7 by decide), if_neg (show ¬ nI 25 = nI 8 by decide), if_neg (show ¬ nI 25 = nI 9 by decide), if_neg (show ¬ nI 25 = nI 10 by decide), if_neg (show ¬ nI 25 = nI 11 by decide), if_neg (show ¬ nI 25 = nI 12 by decide), if_neg (show ¬ nI 25 = nI 13 by decide), if_neg (show ¬ nI 25 = nI 14 by decide), if_neg (show ¬ nI 25 = nI 15 by decide), if_neg (show ¬ nI 25 = nI 16 by decide), if_neg (show ¬ nI 25 = nI 17 by decide), if_neg (show ¬ nI 25 = nI 18 by decide), if_neg (show ¬ nI 25 = nI 19 by decide), if_neg (show ¬ nI 25 = nI 20 by decide), if_neg (show ¬ nI 25 = nI 21 by decide), if_neg (show ¬ nI 25 = nI 22 by decide), if_neg (show ¬ nI 25 = nI 23 by decide), if_neg (show ¬ nI 25 = nI 24 by decide), if_pos rfl]
    exact lw_lose hB hi (next _)
  | 26, _ =>
    rw [if_neg (show ¬ nI 26 = nI 0 by decide), if_neg (show ¬ nI 26 = nI 1 by decide), if_neg (show ¬ nI 26 = nI 2 by decide), if_neg (show ¬ nI 26 = nI 3 by decide), if_neg (show ¬ nI 26 = nI 4 by decide), if_neg (show ¬ nI 26 = nI 5 by decide), if_neg (show ¬ nI 26 = nI 6 by decide), if_neg (show ¬ nI 26 = nI 7 by decide), if_neg (show ¬ nI 26 = nI 8 by decide), if_neg (show ¬ nI 26 = nI 9 by decide), if_neg (show ¬ nI 26 = nI 10 by decide), if_neg (show ¬ nI 26 = nI 11 by decide), if_neg (show ¬ nI 26 = nI 12 by decide), if_neg (show ¬ nI 26 = nI 13 by decide), if_neg (show ¬ nI 26 = nI 14 by decide), if_neg (show ¬ nI 26 = nI 15 by decide), if_neg (show ¬ nI 26 = nI 16 by decide), if_neg (show ¬ nI 26 = nI 17 by decide), if_neg (show ¬ nI 26 = nI 18 by decide), if_neg (show ¬ nI 26 = nI 19 by decide), if_neg (show ¬ nI 26 = nI 20 by decide), if_neg (show ¬ nI 26 = nI 21 by decide), if_neg (show ¬ nI 26 = nI 22 by decide), if_neg (show ¬ nI 26 = nI 23 by decide), if_neg (show ¬ nI 26 = nI 24 by decide), if_neg (show ¬ nI 26 = nI 25 by decide), if_pos rfl]
    exact lw_twice hB hi (next _)
  | 27, _ =>
    rw [if_neg (show ¬ nI 27 = nI 0 by decide), if_neg (show ¬ nI 27 = nI 1 by decide), if_neg (show ¬ nI 27 = nI 2 by decide), if_neg (show ¬ nI 27 = nI 3 by decide), if_neg (show ¬ nI 27 = nI 4 by decide), if_neg (show ¬ nI 27 = nI 5 by decide), if_neg (show ¬ nI 27 = nI 6 by decide), if_neg (show ¬ nI 27 = nI 7 by decide), if_neg (show ¬ nI 27 = nI 8 by decide), if_neg (show ¬ nI 27 = nI 9 by decide), if_neg (show ¬ nI 27 = nI 10 by decide), if_neg (show ¬ nI 27 = nI 11 by decide), if_neg (show ¬ nI 27 = nI 12 by decide), if_neg (show ¬ nI 27 = nI 13 by decide), if_neg (show ¬ nI 27 = nI 14 by decide), if_neg (show ¬ nI 27 = nI 15 by decide), if_neg (show ¬ nI 27 = nI 16 by decide), if_neg (show ¬ nI 27 = nI 17 by decide), if_neg (show ¬ nI 27 = nI 18 by decide), if_neg (show ¬ nI 27 = nI 19 by decide), if_neg (show ¬ nI 27 = nI 20 by decide), if_neg (show ¬ nI 27 = nI 21 by decide), if_neg (show ¬ nI 27 = nI 22 by decide), if_neg (show ¬ nI 27 = nI 23 by decide), if_neg (show ¬ nI 27 = nI 24 by decide), if_neg (show ¬ nI 27 = nI 25 by decide), if_neg (show ¬ nI 27 = nI 26 by decide), if_pos rfl]
    exact lw_message hB hi (next _)
  | 28, _ =>
    rw [if_neg (show ¬ nI 28 = nI 0 by decide), if_neg (show ¬ nI 28 = nI 1 by decide), if_neg (show ¬ nI 28 = nI 2 by decide), if_neg (show ¬ nI 28 = nI 3 by decide), if_neg (show ¬ nI 28 = nI 4 by decide), if_neg (show ¬ nI 28 = nI 5 by decide), if_neg (show ¬ nI 28 = nI 6 by decide), if_neg (show ¬ nI 28 = nI 7 by decide), if_neg (show ¬ nI 28 = nI 8 by decide), if_neg (show ¬ nI 28 = nI 9 by decide), if_neg (show ¬ nI 28 = nI 10 by decide), if_neg (show ¬ nI 28 = nI 11 by decide), if_neg (show ¬ nI 28 = nI 12 by decide), if_neg (show ¬ nI 28 = nI 13 by decide), if_neg (show ¬ nI 28 = nI 14 by decide), if_neg (show ¬ nI 28 = nI 15 by decide), if_neg (show ¬ nI 28 = nI 16 by decide), if_neg (show ¬ nI 28 = nI 17 by decide), if_neg (show ¬ nI 28 = nI 18 by decide), if_neg (show ¬ nI 28 = nI 19 by decide), if_neg (show ¬ nI 28 = nI 20 by decide), if_neg (show ¬ nI 28 = nI 21 by decide), if_neg (show ¬ nI 28 = nI 22 by decide), if_neg (show ¬ nI 28 = nI 23 by decide), if_neg (show ¬ nI 28 = nI 24 by decide), if_neg (show ¬ nI 28 = nI 25 by decide), if_neg (show ¬ nI 28 = nI 26 by decide), if_neg (show ¬ nI 28 = nI 27 by decide), if_pos rfl]
    exact lw_latest hB hi (next _)
  | 29, _ =>
    rw [if_neg (show ¬ nI 29 = nI 0 by decide), if_neg (show ¬ nI 29 = nI 1 by decide), if_neg (show ¬ nI 29 = nI 2 by decide), if_neg (show ¬ nI 29 = nI 3 by decide), if_neg (show ¬ nI 29 = nI 4 by decide), if_neg (show ¬ nI 29 = nI 5 by decide), if_neg (show ¬ nI 29 = nI 6 by decide), if_neg (show ¬ nI 29 = nI 7 by decide), if_neg (show ¬ nI 29 = nI 8 by decide), if_neg (show ¬ nI 29 = nI 9 by decide), if_neg (show ¬ nI 29 = nI 10 by decide), if_neg (show ¬ nI 29 = nI 11 by decide), if_neg (show ¬ nI 29 = nI 12 by decide), if_neg (show ¬ nI 29 = nI 13 by decide), if_neg (show ¬ nI 29 = nI 14 by decide), if_neg (show ¬ nI 29 = nI 15 by decide), if_neg (show ¬ nI 29 = nI 16 by decide), if_neg (show ¬ nI 29 = nI 17 by decide), if_neg (show ¬ nI 29 = nI 18 by decide), if_neg (show ¬ nI 29 = nI 19 by decide), if_neg (show ¬ nI 29 = nI 20 by decide), if_neg (show ¬ nI 29 = nI 21 by decide), if_neg (show ¬ nI 29 = nI 22 by decide), if_neg (show ¬ nI 29 = nI 23 by decide), if_neg (show ¬ nI 29 = nI 24 by decide), if_neg (show ¬ nI 29 = nI 25 by decide), if_neg (show ¬ nI 29 = nI 26 by decide), if_neg (show ¬ nI 29 = nI 27 by decide), if_neg (show ¬ nI 29 = nI 28 by decide), if_pos rfl]
    exact lw_count hB hi (next _)
  | 30, _ =>
    rw [if_neg (show ¬ nI 30 = nI 0 by decide), if_neg (show ¬ nI 30 = nI 1 by decide), if_neg (show ¬ nI 30 = nI 2 by decide), if_neg (show ¬ nI 30 = nI 3 by decide), if_neg (show ¬ nI 30 = nI 4 by decide), if_neg (show ¬ nI 30 = nI 5 by decide), if_neg (show ¬ nI 30 = nI 6 by decide), if_neg (show ¬ nI 30 = nI 7 by decide), if_neg (show ¬ nI 30 = nI 8 by decide), if_neg (show ¬ nI 30 = nI 9 by decide), if_neg (show ¬ nI 30 = nI 10 by decide), if_neg (show ¬ nI 30 = nI 11 by decide), if_neg (show ¬ nI 30 = nI 12 by decide), if_neg (show ¬ nI 30 = nI 13 by decide), if_neg (show ¬ nI 30 = nI 14 by decide), if_neg (show ¬ nI 30 = nI 15 by decide), if_neg (show ¬ nI 30 = nI 16 by decide), if_neg (show ¬ nI 30 = nI 17 by decide), if_neg (show ¬ nI 30 = nI 18 by decide), if_neg (show ¬ nI 30 = nI 19 by decide), if_neg (show ¬ nI 30 = nI 20 by decide), if_neg (show ¬ nI 30 = nI 21 by decide), if_neg (show ¬ nI 30 = nI 22 by decide), if_neg (show ¬ nI 30 = nI 23 by decide), if_neg (show ¬ nI 30 = nI 24 by decide), if_neg (show ¬ nI 30 = nI 25 by decide), if_neg (show ¬ nI 30 = nI 26 by decide), if_neg (show ¬ nI 30 = nI 27 by decide), if_neg (show ¬ nI 30 = nI 28 by decide), if_neg (show ¬ nI 30 = nI 29 by decide)]
    exact next T n u sh F R A B hB (by omega) (by omega)
  | 31, _ =>
    rw [if_neg (show ¬ nI 31 = nI 0 by decide), if_neg (show ¬ nI 31 = nI 1 by decide), if_neg (show ¬ nI 31 = nI 2 by decide), if_neg (show ¬ nI 31 = nI 3 by decide), if_neg (show ¬ nI 31 = nI 4 by decide), if_neg (show ¬ nI 31 = nI 5 by decide), if_neg (show ¬ nI 31 = nI 6 by decide), if_neg (show ¬ nI 31 = nI 7 by decide), if_neg (show ¬ nI 31 = nI 8 by decide), if_neg (show ¬ nI 31 = nI 9 by decide), if_neg (show ¬ nI 31 = nI 10 by decide), if_neg (show ¬ nI 31 = nI 11 by decide), if_neg (show ¬ nI 31 = nI 12 by decide), if_neg (show ¬ nI 31 = nI 13 by decide), if_neg (show ¬ nI 31 = nI 14 by decide), if_neg (show ¬ nI 31 = nI 15 by decide), if_neg (show ¬ nI 31 = nI 16 by decide), if_neg (show ¬ nI 31 = nI 17 by decide), if_neg (show ¬ nI 31 = nI 18 by decide), if_neg (show ¬ nI 31 = nI 19 by decide), if_neg (show ¬ nI 31 = nI 20 by decide), if_neg (show ¬ nI 31 = nI 21 by decide), if_neg (show ¬ nI 31 = nI 22 by decide), if_neg (show ¬ nI 31 = nI 23 by decide), if_neg (show ¬ nI 31 = nI 24 by decide), if_neg (show ¬ nI 31 = nI 25 by decide), if_neg (show ¬ nI 31 = nI 26 by decide), if_neg (show ¬ nI 31 = nI 27 by decide), if_neg (show ¬ nI 31 = nI 28 by decide), if_neg (show ¬ nI 31 = nI 29 by decide)]
    exact next T n u sh F R A B hB (by omega) (by omega)
  | c + 32, h => exact absurd h (by omega)
theorem l_law (hQ : ∀ hp', hp'.1 ≤ n0 + 4104 → hp'.2.1 ≤ u0 + 2565000 → Q (some (.int (nI 1))) hp') :
    ∀ d t n u sh F R A B T, L - 6 * t = d → 6 * t ≤ L + 6 → n ≤ n0 + 8 * t → u ≤ u0 + 5000 * t → BS x b L n xs sh F R A B T → rw_ 9 mL_law 18 [.ref b, .ref x, .ref (x + 78), .int (nI (6 * t))] [] (mkh n u sh F R A B) Q := by
  intro d
  induction d using Nat.strongRecOn with
  | _ d ih =>
    intro t n u sh F R A B T hd ht hn hu hB
    obtain ⟨-, -, -, -, ⟨hs, hbx, hL⟩, hxs⟩ := id hB
    have key : (nI L - nI 6 < nI (6 * t)) ↔ L < 6 * t + 6 := by
      rw [Int32.lt_iff_toInt_lt, pk_sub_toInt (by omega) (by omega), nI_toInt (by omega)]
      omega
    simp only [rL_law_18, rL_law_19, rL_law_19_n, up2_eq, va_rf, eq_self, or_true, true_or, Option.toList_some, Option.toList_none, List.cons_append, List.nil_append, if_true, if_false]
    rw [rL_law_20 hs]
    by_cases c : L < 6 * t + 6
    · have g1 := key.mpr c
      simp only [rL_law_21, rL_law_23, rL_law_24, rL_law_884, g1, up2_eq, va_rf, eq_self, or_true, true_or, Option.toList_some, Option.toList_none, List.cons_append, List.nil_append, if_true, if_false]
      rw [rL_law_885 (Or.inr rfl)]
      exact hQ _ (by show n ≤ _; omega) (by show u ≤ _; omega)
    · have g1 : ¬ nI L - nI 6 < nI (6 * t) := fun z => c (key.mp z)
      simp only [rL_law_21, rL_law_23, rL_law_24, rL_law_27, rL_law_27_n, rL_law_28, g1, up2_eq, va_rf, eq_self, or_true, true_or, Option.toList_some, Option.toList_none, List.cons_append, List.nil_append, if_true, if_false]
      rw [rL_law_29 hs (by decide) (by omega) (by omega), hxs _ (by omega)]
      obtain ⟨cc, hcc, e⟩ := pk_andE (xs (6 * t)) (m := nI 31) 5 (by decide)
      simp only [rL_law_30, rL_law_32, e, up2_eq, va_rf, eq_self, or_true, true_or, Option.toList_some, Option.toList_none, List.cons_append, List.nil_append, if_true, if_false]
      refine l_case hcc hB (by omega) ?_
      intro T' n' u' sh' F' R' A' B' hB' hn' hu'
      simp only [rL_law_878, rL_law_881, nI_add, up2_eq, va_rf, eq_self, or_true, true_or, Option.toList_some, Option.toList_none, List.cons_append, List.nil_append, if_true, if_false]
      rw [show 6 * t + 6 = 6 * (t + 1) by omega]
      have h1 : L - 6 * (t + 1) < d := by omega
      have h2 : 6 * (t + 1) ≤ L + 6 := by omega
      have h3 : n' ≤ n0 + 8 * (t + 1) := by omega
      have h4 : u' ≤ u0 + 5000 * (t + 1) := by
        rw [Nat.mul_succ, ← Nat.add_assoc]
        exact Nat.le_trans hu' (Nat.add_le_add_right hu _)
      exact ih _ h1 (t + 1) n' u' sh' F' R' A' B' T' rfl h2 h3 h4 hB'
end LOO
