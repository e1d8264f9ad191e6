/-! THE PURE PART: copies of states -/
theorem cpy_k {M : Mem} {a k n q : Nat} (h : q ≠ k) : cpyM M a k n q = M q := by
  funext j
  unfold cpyM
  rw [if_neg (fun z => h z.1)]
theorem cpy_e {M : Mem} {a k n j : Nat} (h : j < n) : cpyM M a k n k j = M a j := by
  unfold cpyM
  rw [if_pos ⟨rfl, h⟩]
theorem x_copy {th o : Nat} {X : Mem} (hd : th + 12 < o ∨ o + 12 < th) : post (x_State_copyFrom th o X) (fun X1 => (∀ j, j < 7 → X1 (th + 1) j = X (o + 1) j ∧ X1 (th + 2) j = X (o + 2) j ∧ X1 (th + 3) j = X (o + 3) j) ∧
    (∀ j, j < 12 → X1 (th + 4) j = X (o + 4) j ∧ X1 (th + 5) j = X (o + 5) j ∧ X1 (th + 6) j = X (o + 6) j ∧ X1 (th + 7) j = X (o + 7) j ∧ X1 (th + 8) j = X (o + 8) j ∧ X1 (th + 9) j = X (o + 9) j ∧ X1 (th + 10) j = X (o + 10) j ∧ X1 (th + 11) j = X (o + 11) j ∧ X1 (th + 12) j = X (o + 12) j) ∧
    X1 th 12 = X o 12 ∧ X1 th 13 = X o 13 ∧ (∀ a, (a < th ∨ th + 12 < a) → X1 a = X a)) := by
  unfold x_State_copyFrom
  simp only [lt_eq]
  refine post_some ⟨fun j hj => ?_, fun j hj => ?_, ?_, ?_, fun a ha => ?_⟩
  · refine ⟨?_, ?_, ?_⟩ <;> simp (disch := omega) only [up_k, cpy_k, cpy_e]
  · refine ⟨?_, ?_, ?_, ?_, ?_, ?_, ?_, ?_, ?_⟩ <;> simp (disch := omega) only [up_k, cpy_k, cpy_e]
  · simp (disch := omega) only [up_k, up_i, up_e, cpy_k, cpy_e]
  · simp (disch := omega) only [up_k, up_i, up_e, cpy_k, cpy_e]
  · simp (disch := omega) only [upM_row, cpy_k]
theorem m_copy {to fr : Nat} {M : Mem} (ht : to < 22) (hf : fr < 22) (hne : to ≠ fr) (hk : 0 ≤ M 35 fr ∧ M 35 fr ≤ 40) : post (m_copies (to : Int) (fr : Int) M) (fun M1 => (∀ j, j < 7 → M1 26 (7 * to + j) = M 26 (7 * fr + j) ∧ M1 27 (7 * to + j) = M 27 (7 * fr + j)) ∧
    (∀ j, j < 12 → M1 29 (12 * to + j) = M 29 (12 * fr + j) ∧ M1 30 (12 * to + j) = M 30 (12 * fr + j) ∧ M1 31 (12 * to + j) = M 31 (12 * fr + j) ∧ M1 32 (12 * to + j) = M 32 (12 * fr + j) ∧ M1 33 (12 * to + j) = M 33 (12 * fr + j)) ∧
    M1 25 to = M 25 fr ∧ M1 28 to = M 28 fr ∧ M1 34 to = M 34 fr ∧ M1 35 to = M 35 fr ∧ (∀ j : Nat, (j : Int) < 3 * M 35 fr → M1 36 (120 * to + j) = M 36 (120 * fr + j)) ∧ FMt to M M1) := by
  unfold m_copies
  repeat' (first | with_reducible refine post_lt ?_ | (with_reducible refine post_chk ?_ ?_; focus ((try simp (disch := omega) only [Bool.false_eq_true, not_true_eq_false, not_false_eq_true, Nat.reduceAdd, Nat.reduceMul, w32_eq, w64_eq, lc_eq, lc_lt, lc_le, lc_gt, lc_ge, up_k, up_i, up_e, Int.toNat_natCast, tn7, tn8, tn12, tn3, tn120, tn1600, w32_and, w32_or, w32_xor, w32_shl, w32_shr, has2_eq]) <;> omega)) | (with_reducible refine post_ite (fun hcp => ?_) (fun hcp => ?_) <;> (try simp (disch := omega) only [Bool.false_eq_true, not_true_eq_false, not_false_eq_true, Nat.reduceAdd, Nat.reduceMul, w32_eq, w64_eq, lc_eq, lc_lt, lc_le, lc_gt, lc_ge, up_k, up_i, up_e, Int.toNat_natCast, tn7, tn8, tn12, tn3, tn120, tn1600, w32_and, w32_or, w32_xor, w32_shl, w32_shr, has2_eq] at hcp) <;> (try (exfalso; first | omega | exact hcp rfl | exact hcp trivial | contradiction))))
  simp only [Int.toNat_natCast]
  refine post_bnd (post_itr2 (fun n (i : Int) M1 => ∃ c : Nat, i = (c : Int) ∧ c ≤ 7 ∧ n = 7 - c ∧ FMt to M M1 ∧ M1 25 to = M 25 fr ∧ M1 28 to = M 28 fr ∧ M1 34 to = M 34 fr ∧ (∀ j, j < c → M1 26 (7 * to + j) = M 26 (7 * fr + j) ∧ M1 27 (7 * to + j) = M 27 (7 * fr + j)) ∧ (∀ a, 29 ≤ a → a ≤ 33 → M1 a = M a) ∧ M1 35 = M 35 ∧ M1 36 = M 36)
    (fun p => FMt to M p.2 ∧ p.2 25 to = M 25 fr ∧ p.2 28 to = M 28 fr ∧ p.2 34 to = M 34 fr ∧ (∀ j, j < 7 → p.2 26 (7 * to + j) = M 26 (7 * fr + j) ∧ p.2 27 (7 * to + j) = M 27 (7 * fr + j)) ∧ (∀ a, 29 ≤ a → a ≤ 33 → p.2 a = M a) ∧ p.2 35 = M 35 ∧ p.2 36 = M 36) ?_ FUEL 7 0 _ (fuel_lt (by omega)) ⟨0, rfl, by omega, rfl, ?_, ?_, ?_, ?_, fun j hj => by omega, fun a h1 h2 => ?_, ?_, ?_⟩) ?_
  · rintro n i M1 ⟨c, rfl, hc, rfl, h1, h2, h3, h4, h5, h6, h7, h8⟩ F ih
    unfold m_copies_L38
    by_cases h : c < 7
    · repeat' (first | with_reducible refine post_lt ?_ | (with_reducible refine post_chk ?_ ?_; focus ((try simp (disch := omega) only [Bool.false_eq_true, not_true_eq_false, not_false_eq_true, Nat.reduceAdd, Nat.reduceMul, w32_eq, w64_eq, lc_eq, lc_lt, lc_le, lc_gt, lc_ge, up_k, up_i, up_e, Int.toNat_natCast, tn7, tn8, tn12, tn3, tn120, tn1600, w32_and, w32_or, w32_xor, w32_shl, w32_shr, has2_eq]) <;> omega)) | (with_reducible refine post_ite (fun hcp => ?_) (fun hcp => ?_) <;> (try simp (disch := omega) only [Bool.false_eq_true, not_true_eq_false, not_false_eq_true, Nat.reduceAdd, Nat.reduceMul, w32_eq, w64_eq, lc_eq, lc_lt, lc_le, lc_gt, lc_ge, up_k, up_i, up_e, Int.toNat_natCast, tn7, tn8, tn12, tn3, tn120, tn1600, w32_and, w32_or, w32_xor, w32_shl, w32_shr, has2_eq] at hcp) <;> (try (exfalso; first | omega | exact hcp rfl | exact hcp trivial | contradiction))))
      simp (disch := omega) only [Bool.false_eq_true, not_true_eq_false, not_false_eq_true, Nat.reduceAdd, Nat.reduceMul, w32_eq, w64_eq, lc_eq, lc_lt, lc_le, lc_gt, lc_ge, up_k, up_i, up_e, Int.toNat_natCast, tn7, tn8, tn12, tn3, tn120, tn1600, w32_and, w32_or, w32_xor, w32_shl, w32_shr, has2_eq]
      have e1 : M1 26 (7 * fr + c) = M 26 (7 * fr + c) := h1 26 _ (by rw [(lay7 h).1]; omega)
      have e2 : M1 27 (7 * fr + c) = M 27 (7 * fr + c) := h1 27 _ (by rw [(lay7 h).2]; omega)
      rw [e1, e2]
      refine ih (7 - (c + 1)) _ _ (by omega) ⟨c + 1, rfl, by omega, rfl, FMt_trans h1 (FMt_trans (FMt_up ⟨by omega, by omega, fun _ => (lay7 h).1⟩) (FMt_up ⟨by omega, by omega, fun _ => (lay7 h).2⟩)), ?_, ?_, ?_, fun j hj => ?_, fun a g1 g2 => ?_, ?_, ?_⟩
      · simp (disch := omega) only [Bool.false_eq_true, not_true_eq_false, not_false_eq_true, Nat.reduceAdd, Nat.reduceMul, w32_eq, w64_eq, lc_eq, lc_lt, lc_le, lc_gt, lc_ge, up_k, up_i, up_e, Int.toNat_natCast, tn7, tn8, tn12, tn3, tn120, tn1600, w32_and, w32_or, w32_xor, w32_shl, w32_shr, has2_eq]; exact h2
      · simp (disch := omega) only [Bool.false_eq_true, not_true_eq_false, not_false_eq_true, Nat.reduceAdd, Nat.reduceMul, w32_eq, w64_eq, lc_eq, lc_lt, lc_le, lc_gt, lc_ge, up_k, up_i, up_e, Int.toNat_natCast, tn7, tn8, tn12, tn3, tn120, tn1600, w32_and, w32_or, w32_xor, w32_shl, w32_shr, has2_eq]; exact h3
      · simp (disch := omega) only [Bool.false_eq_true, not_true_eq_false, not_false_eq_true, Nat.reduceAdd, Nat.reduceMul, w32_eq, w64_eq, lc_eq, lc_lt, lc_le, lc_gt, lc_ge, up_k, up_i, up_e, Int.toNat_natCast, tn7, tn8, tn12, tn3, tn120, tn1600, w32_and, w32_or, w32_xor, w32_shl, w32_shr, has2_eq]; exact h4
      · by_cases e : j = c
        · subst e; refine ⟨?_, ?_⟩ <;> simp (disch := omega) only [Bool.false_eq_true, not_true_eq_false, not_false_eq_true, Nat.reduceAdd, Nat.reduceMul, w32_eq, w64_eq, lc_eq, lc_lt, lc_le, lc_gt, lc_ge, up_k, up_i, up_e, Int.toNat_natCast, tn7, tn8, tn12, tn3, tn120, tn1600, w32_and, w32_or, w32_xor, w32_shl, w32_shr, has2_eq]
        · simp (disch := omega) only [Bool.false_eq_true, not_true_eq_false, not_false_eq_true, Nat.reduceAdd, Nat.reduceMul, w32_eq, w64_eq, lc_eq, lc_lt, lc_le, lc_gt, lc_ge, up_k, up_i, up_e, Int.toNat_natCast, tn7, tn8, tn12, tn3, tn120, tn1600, w32_and, w32_or, w32_xor, w32_shl, w32_shr, has2_eq]; exact h5 j (by omega)
      · simp (disch := omega) only [upM_row]; exact h6 a g1 g2
      · simp (disch := omega) only [upM_row]; exact h7
      · simp (disch := omega) only [upM_row]; exact h8
    · repeat' (first | with_reducible refine post_lt ?_ | (with_reducible refine post_chk ?_ ?_; focus ((try simp (disch := omega) only [Bool.false_eq_true, not_true_eq_false, not_false_eq_true, Nat.reduceAdd, Nat.reduceMul, w32_eq, w64_eq, lc_eq, lc_lt, lc_le, lc_gt, lc_ge, up_k, up_i, up_e, Int.toNat_natCast, tn7, tn8, tn12, tn3, tn120, tn1600, w32_and, w32_or, w32_xor, w32_shl, w32_shr, has2_eq]) <;> omega)) | (with_reducible refine post_ite (fun hcp => ?_) (fun hcp => ?_) <;> (try simp (disch := omega) only [Bool.false_eq_true, not_true_eq_false, not_false_eq_true, Nat.reduceAdd, Nat.reduceMul, w32_eq, w64_eq, lc_eq, lc_lt, lc_le, lc_gt, lc_ge, up_k, up_i, up_e, Int.toNat_natCast, tn7, tn8, tn12, tn3, tn120, tn1600, w32_and, w32_or, w32_xor, w32_shl, w32_shr, has2_eq] at hcp) <;> (try (exfalso; first | omega | exact hcp rfl | exact hcp trivial | contradiction))))
      exact post_some ⟨h1, h2, h3, h4, fun j hj => h5 j (by omega), h6, h7, h8⟩
  · exact FMt_trans (FMt_up ⟨by omega, by omega, fun _ => lay1 (by omega)⟩) (FMt_trans (FMt_up ⟨by omega, by omega, fun _ => lay1 (by omega)⟩) (FMt_up ⟨by omega, by omega, fun _ => lay1 (by omega)⟩))
  · simp (disch := omega) only [Bool.false_eq_true, not_true_eq_false, not_false_eq_true, Nat.reduceAdd, Nat.reduceMul, w32_eq, w64_eq, lc_eq, lc_lt, lc_le, lc_gt, lc_ge, up_k, up_i, up_e, Int.toNat_natCast, tn7, tn8, tn12, tn3, tn120, tn1600, w32_and, w32_or, w32_xor, w32_shl, w32_shr, has2_eq]
  · simp (disch := omega) only [Bool.false_eq_true, not_true_eq_false, not_false_eq_true, Nat.reduceAdd, Nat.reduceMul, w32_eq, w64_eq, lc_eq, lc_lt, lc_le, lc_gt, lc_ge, up_k, up_i, up_e, Int.toNat_natCast, tn7, tn8, tn12, tn3, tn120, tn1600, w32_and, w32_or, w32_xor, w32_shl, w32_shr, has2_eq]
  · simp (disch := omega) only [Bool.false_eq_true, not_true_eq_false, not_false_eq_true, Nat.reduceAdd, Nat.reduceMul, w32_eq, w64_eq, lc_eq, lc_lt, lc_le, lc_gt, lc_ge, up_k, up_i, up_e, Int.toNat_natCast, tn7, tn8, tn12, tn3, tn120, tn1600, w32_and, w32_or, w32_xor, w32_shl, w32_shr, has2_eq]
  · simp (disch := omega) only [upM_row]
  · simp (disch := omega) only [upM_row]
  · simp (disch := omega) only [upM_row]
  · rintro ⟨v3, M1⟩ ⟨h1, h2, h3, h4, h5, h6, h7, h8⟩
    simp only at h1 h2 h3 h4 h5 h6 h7 h8 ⊢
    refine post_bnd (post_itr2 (fun n (i : Int) M2 => ∃ c : Nat, i = (c : Int) ∧ c ≤ 12 ∧ n = 12 - c ∧ FMt to M1 M2 ∧ (∀ j, j < c → M2 29 (12 * to + j) = M 29 (12 * fr + j) ∧ M2 30 (12 * to + j) = M 30 (12 * fr + j) ∧ M2 31 (12 * to + j) = M 31 (12 * fr + j) ∧ M2 32 (12 * to + j) = M 32 (12 * fr + j) ∧ M2 33 (12 * to + j) = M 33 (12 * fr + j)) ∧ (∀ a, a ≤ 28 ∨ 34 ≤ a → M2 a = M1 a))
      (fun p => FMt to M1 p.2 ∧ (∀ j, j < 12 → p.2 29 (12 * to + j) = M 29 (12 * fr + j) ∧ p.2 30 (12 * to + j) = M 30 (12 * fr + j) ∧ p.2 31 (12 * to + j) = M 31 (12 * fr + j) ∧ p.2 32 (12 * to + j) = M 32 (12 * fr + j) ∧ p.2 33 (12 * to + j) = M 33 (12 * fr + j)) ∧ (∀ a, a ≤ 28 ∨ 34 ≤ a → p.2 a = M1 a)) ?_ FUEL 12 0 M1 (fuel_lt (by omega)) ⟨0, rfl, by omega, rfl, FMt_refl _ _, fun j hj => by omega, fun _ _ => rfl⟩) ?_
    · rintro n i M2 ⟨c, rfl, hc, rfl, g1, g2, g3⟩ F ih
      unfold m_copies_L96
      by_cases h : c < 12
      · repeat' (first | with_reducible refine post_lt ?_ | (with_reducible refine post_chk ?_ ?_; focus ((try simp (disch := omega) only [Bool.false_eq_true, not_true_eq_false, not_false_eq_true, Nat.reduceAdd, Nat.reduceMul, w32_eq, w64_eq, lc_eq, lc_lt, lc_le, lc_gt, lc_ge, up_k, up_i, up_e, Int.toNat_natCast, tn7, tn8, tn12, tn3, tn120, tn1600, w32_and, w32_or, w32_xor, w32_shl, w32_shr, has2_eq]) <;> omega)) | (with_reducible refine post_ite (fun hcp => ?_) (fun hcp => ?_) <;> (try simp (disch := omega) only [Bool.false_eq_true, not_true_eq_false, not_false_eq_true, Nat.reduceAdd, Nat.reduceMul, w32_eq, w64_eq, lc_eq, lc_lt, lc_le, lc_gt, lc_ge, up_k, up_i, up_e, Int.toNat_natCast, tn7, tn8, tn12, tn3, tn120, tn1600, w32_and, w32_or, w32_xor, w32_shl, w32_shr, has2_eq] at hcp) <;> (try (exfalso; first | omega | exact hcp rfl | exact hcp trivial | contradiction))))
        simp (disch := omega) only [Bool.false_eq_true, not_true_eq_false, not_false_eq_true, Nat.reduceAdd, Nat.reduceMul, w32_eq, w64_eq, lc_eq, lc_lt, lc_le, lc_gt, lc_ge, up_k, up_i, up_e, Int.toNat_natCast, tn7, tn8, tn12, tn3, tn120, tn1600, w32_and, w32_or, w32_xor, w32_shl, w32_shr, has2_eq]
        have e : ∀ a, 29 ≤ a → a ≤ 33 → M2 a (12 * fr + c) = M a (12 * fr + c) := fun a k1 k2 => by
          rw [g1 a _ (by rw [lay12 h ⟨k1, k2⟩]; omega), h6 a k1 k2]
        rw [e 29 (by omega) (by omega), e 30 (by omega) (by omega), e 31 (by omega) (by omega), e 32 (by omega) (by omega), e 33 (by omega) (by omega)]
        refine ih (12 - (c + 1)) _ _ (by omega) ⟨c + 1, rfl, by omega, rfl, ?_, fun j hj => ?_, fun a k1 => ?_⟩
        · exact FMt_trans g1 (FMt_trans (FMt_up ⟨by omega, by omega, fun _ => lay12 h (by omega)⟩) (FMt_trans (FMt_up ⟨by omega, by omega, fun _ => lay12 h (by omega)⟩) (FMt_trans (FMt_up ⟨by omega, by omega, fun _ => lay12 h (by omega)⟩) (FMt_trans (FMt_up ⟨by omega, by omega, fun _ => lay12 h (by omega)⟩) (FMt_up ⟨by omega, by omega, fun _ => lay12 h (by omega)⟩)))))
        · by_cases e : j = c
          · subst e; refine ⟨?_, ?_, ?_, ?_, ?_⟩ <;> simp (disch := omega) only [Bool.false_eq_true, not_true_eq_false, not_false_eq_true, Nat.reduceAdd, Nat.reduceMul, w32_eq, w64_eq, lc_eq, lc_lt, lc_le, lc_gt, lc_ge, up_k, up_i, up_e, Int.toNat_natCast, tn7, tn8, tn12, tn3, tn120, tn1600, w32_and, w32_or, w32_xor, w32_shl, w32_shr, has2_eq]
          · simp (disch := omega) only [Bool.false_eq_true, not_true_eq_false, not_false_eq_true, Nat.reduceAdd, Nat.reduceMul, w32_eq, w64_eq, lc_eq, lc_lt, lc_le, lc_gt, lc_ge, up_k, up_i, up_e, Int.toNat_natCast, tn7, tn8, tn12, tn3, tn120, tn1600, w32_and, w32_or, w32_xor, w32_shl, w32_shr, has2_eq]; exact g2 j (by omega)
        · simp (disch := omega) only [upM_row]; exact g3 a k1
      · repeat' (first | with_reducible refine post_lt ?_ | (with_reducible refine post_chk ?_ ?_; focus ((try simp (disch := omega) only [Bool.false_eq_true, not_true_eq_false, not_false_eq_true, Nat.reduceAdd, Nat.reduceMul, w32_eq, w64_eq, lc_eq, lc_lt, lc_le, lc_gt, lc_ge, up_k, up_i, up_e, Int.toNat_natCast, tn7, tn8, tn12, tn3, tn120, tn1600, w32_and, w32_or, w32_xor, w32_shl, w32_shr, has2_eq]) <;> omega)) | (with_reducible refine post_ite (fun hcp => ?_) (fun hcp => ?_) <;> (try simp (disch := omega) only [Bool.false_eq_true, not_true_eq_false, not_false_eq_true, Nat.reduceAdd, Nat.reduceMul, w32_eq, w64_eq, lc_eq, lc_lt, lc_le, lc_gt, lc_ge, up_k, up_i, up_e, Int.toNat_natCast, tn7, tn8, tn12, tn3, tn120, tn1600, w32_and, w32_or, w32_xor, w32_shl, w32_shr, has2_eq] at hcp) <;> (try (exfalso; first | omega | exact hcp rfl | exact hcp trivial | contradiction))))
        exact post_some ⟨g1, fun j hj => g2 j (by omega), g3⟩
    · rintro ⟨v3, M2⟩ ⟨g1, g2, g3⟩
      simp only at g1 g2 g3 ⊢
      have k35 : M2 35 fr = M 35 fr := by rw [g3 35 (by omega), h7]
      repeat' (first | with_reducible refine post_lt ?_ | (with_reducible refine post_chk ?_ ?_; focus ((try simp (disch := omega) only [Bool.false_eq_true, not_true_eq_false, not_false_eq_true, Nat.reduceAdd, Nat.reduceMul, w32_eq, w64_eq, lc_eq, lc_lt, lc_le, lc_gt, lc_ge, up_k, up_i, up_e, Int.toNat_natCast, tn7, tn8, tn12, tn3, tn120, tn1600, w32_and, w32_or, w32_xor, w32_shl, w32_shr, has2_eq]) <;> omega)) | (with_reducible refine post_ite (fun hcp => ?_) (fun hcp => ?_) <;> (try simp (disch := omega) only [Bool.false_eq_true, not_true_eq_false, not_false_eq_true, Nat.reduceAdd, Nat.reduceMul, w32_eq, w64_eq, lc_eq, lc_lt, lc_le, lc_gt, lc_ge, up_k, up_i, up_e, Int.toNat_natCast, tn7, tn8, tn12, tn3, tn120, tn1600, w32_and, w32_or, w32_xor, w32_shl, w32_shr, has2_eq] at hcp) <;> (try (exfalso; first | omega | exact hcp rfl | exact hcp trivial | contradiction))))
      simp only [Int.toNat_natCast, k35]
      obtain ⟨kp, hkp⟩ : ∃ kp : Nat, M 35 fr = (kp : Int) := ⟨(M 35 fr).toNat, by omega⟩
      refine post_bnd (post_itr2 (fun n (i : Int) M3 => ∃ c : Nat, i = (c : Int) ∧ c ≤ 3 * kp ∧ n = 3 * kp - c ∧ FMt to M2 M3 ∧ M3 35 = (upM M2 35 to (M 35 fr)) 35 ∧ (∀ j, j < c → M3 36 (120 * to + j) = M 36 (120 * fr + j)) ∧ (∀ a, a ≠ 35 → a ≠ 36 → M3 a = M2 a))
        (fun p => FMt to M2 p.2 ∧ p.2 35 to = M 35 fr ∧ (∀ j, j < 3 * kp → p.2 36 (120 * to + j) = M 36 (120 * fr + j)) ∧ (∀ a, a ≠ 35 → a ≠ 36 → p.2 a = M2 a)) ?_ FUEL (3 * kp) 0 _ (fuel_lt (by omega)) ⟨0, rfl, by omega, rfl, FMt_up ⟨by omega, by omega, fun _ => lay1 (by omega)⟩, rfl, fun j hj => by omega, fun a k1 k2 => upM_row k1⟩) ?_
      · rintro n i M3 ⟨c, rfl, hc, rfl, f1, f2, f3, f4⟩ F ih
        have k3 : M3 35 fr = M 35 fr := by rw [f2, up_i (fun z => hne z.symm), k35]
        unfold m_copies_L208
        by_cases h : c < 3 * kp
        · repeat' (first | with_reducible refine post_lt ?_ | (with_reducible refine post_chk ?_ ?_; focus ((try simp (disch := omega) only [Bool.false_eq_true, not_true_eq_false, not_false_eq_true, Nat.reduceAdd, Nat.reduceMul, w32_eq, w64_eq, lc_eq, lc_lt, lc_le, lc_gt, lc_ge, up_k, up_i, up_e, Int.toNat_natCast, tn7, tn8, tn12, tn3, tn120, tn1600, w32_and, w32_or, w32_xor, w32_shl, w32_shr, has2_eq, k3, hkp]) <;> omega)) | (with_reducible refine post_ite (fun hcp => ?_) (fun hcp => ?_) <;> (try simp (disch := omega) only [Bool.false_eq_true, not_true_eq_false, not_false_eq_true, Nat.reduceAdd, Nat.reduceMul, w32_eq, w64_eq, lc_eq, lc_lt, lc_le, lc_gt, lc_ge, up_k, up_i, up_e, Int.toNat_natCast, tn7, tn8, tn12, tn3, tn120, tn1600, w32_and, w32_or, w32_xor, w32_shl, w32_shr, has2_eq, k3, hkp] at hcp) <;> (try (exfalso; first | omega | exact hcp rfl | exact hcp trivial | contradiction))))
          simp (disch := omega) only [Bool.false_eq_true, not_true_eq_false, not_false_eq_true, Nat.reduceAdd, Nat.reduceMul, w32_eq, w64_eq, lc_eq, lc_lt, lc_le, lc_gt, lc_ge, up_k, up_i, up_e, Int.toNat_natCast, tn7, tn8, tn12, tn3, tn120, tn1600, w32_and, w32_or, w32_xor, w32_shl, w32_shr, has2_eq]
          have e : M3 36 (120 * fr + c) = M 36 (120 * fr + c) := by
            rw [f1 36 _ (by rw [lay120 (by omega)]; omega), g3 36 (by omega), h8]
          rw [e]
          refine ih (3 * kp - (c + 1)) _ _ (by omega) ⟨c + 1, rfl, by omega, rfl, FMt_trans f1 (FMt_up ⟨by omega, by omega, fun _ => lay120 (by omega)⟩), ?_, fun j hj => ?_, fun a k1 k2 => ?_⟩
          · rw [upM_row (by omega)]; exact f2
          · by_cases e : j = c
            · subst e; rw [up_e]
            · rw [up_i (by omega)]; exact f3 j (by omega)
          · rw [upM_row k2]; exact f4 a k1 k2
        · repeat' (first | with_reducible refine post_lt ?_ | (with_reducible refine post_chk ?_ ?_; focus ((try simp (disch := omega) only [Bool.false_eq_true, not_true_eq_false, not_false_eq_true, Nat.reduceAdd, Nat.reduceMul, w32_eq, w64_eq, lc_eq, lc_lt, lc_le, lc_gt, lc_ge, up_k, up_i, up_e, Int.toNat_natCast, tn7, tn8, tn12, tn3, tn120, tn1600, w32_and, w32_or, w32_xor, w32_shl, w32_shr, has2_eq, k3, hkp]) <;> omega)) | (with_reducible refine post_ite (fun hcp => ?_) (fun hcp => ?_) <;> (try simp (disch := omega) only [Bool.false_eq_true, not_true_eq_false, not_false_eq_true, Nat.reduceAdd, Nat.reduceMul, w32_eq, w64_eq, lc_eq, lc_lt, lc_le, lc_gt, lc_ge, up_k, up_i, up_e, Int.toNat_natCast, tn7, tn8, tn12, tn3, tn120, tn1600, w32_and, w32_or, w32_xor, w32_shl, w32_shr, has2_eq, k3, hkp] at hcp) <;> (try (exfalso; first | omega | exact hcp rfl | exact hcp trivial | contradiction))))
          refine post_some ⟨f1, ?_, fun j hj => f3 j (by omega), f4⟩
          show M3 35 to = M 35 fr
          rw [f2, up_e]
      · rintro ⟨v4, M4⟩ ⟨f1, f2, f3, f4⟩
        simp only at f1 f2 f3 f4 ⊢
        refine post_some ⟨fun j hj => ?_, fun j hj => ?_, ?_, ?_, ?_, f2, fun j hj => f3 j (by omega), FMt_trans h1 (FMt_trans g1 f1)⟩
        · rw [f4 26 (by omega) (by omega), f4 27 (by omega) (by omega), g3 26 (by omega), g3 27 (by omega)]; exact h5 j hj
        · rw [f4 29 (by omega) (by omega), f4 30 (by omega) (by omega), f4 31 (by omega) (by omega), f4 32 (by omega) (by omega), f4 33 (by omega) (by omega)]; exact g2 j hj
        · rw [f4 25 (by omega) (by omega), g3 25 (by omega)]; exact h2
        · rw [f4 28 (by omega) (by omega), g3 28 (by omega)]; exact h3
        · rw [f4 34 (by omega) (by omega), g3 34 (by omega)]; exact h4
