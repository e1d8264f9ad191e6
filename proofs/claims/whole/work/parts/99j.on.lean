/-! THE PURE PART: on -/
theorem sim_read' {nv np ns bk : Nat} {X M : Mem} (hT : RT nv np ns bk X M) (hS : RS nv ns 38 0 X M) (hI : SI nv ns 38 X) (hb : ∀ j, j < 1600 → X 2 j = M 1 j ∧ 0 ≤ X 2 j ∧ X 2 j ≤ 255) (l1 : 0 ≤ X 1 1) (l2 : X 1 1 ≤ 1600) : two (x_Picture_read X) (m_comesOn (X 1 1) M) (fun p q => p.1 = q.1 ∧ FrX X p.2 ∧ FMt 1 M q.2 ∧ (p.1 = true → RS nv ns 51 1 p.2 q.2 ∧ SI nv ns 51 p.2)) := by
  by_cases hl : X 1 1 = ((2 + 3 * nv + 7 * ns + 1 : Nat) : Int)
  · exact sim_read hT hS hI hb hl
  · have hns := hT.1.2.2.2.2
    have hnv := hT.1.2.2.1
    have h0 := hT.2.1.1
    have h2 := hT.2.1.2.2
    have tb := hT.1.1
    have tb2 := hT.1.2.1
    have m0 := hT.2.2.1.1
    have m2 := hT.2.2.1.2.2
    unfold x_Picture_read m_comesOn
    dsimp only [lt]
    rw [h0, h2, tb, Int.toNat_natCast, m0, m2]
    repeat' (first | with_reducible refine two_lt_l ?_ | (with_reducible refine two_chk_l ?_ ?_; focus ((try simp (disch := omega) only [Bool.false_eq_true, not_true_eq_false, not_false_eq_true, Nat.reduceAdd, Nat.reduceMul, w32_eq, w64_eq, lc_eq, lc_lt, lc_le, lc_gt, lc_ge, up_k, up_i, up_e, Int.toNat_natCast, tn7, tn8, tn12, tn3, tn120, tn1600, w32_and, w32_or, w32_xor, w32_shl, w32_shr, has2_eq]) <;> omega)) | (with_reducible refine two_ite_l (fun hcl => ?_) (fun hcl => ?_) <;> (try simp (disch := omega) only [Bool.false_eq_true, not_true_eq_false, not_false_eq_true, Nat.reduceAdd, Nat.reduceMul, w32_eq, w64_eq, lc_eq, lc_lt, lc_le, lc_gt, lc_ge, up_k, up_i, up_e, Int.toNat_natCast, tn7, tn8, tn12, tn3, tn120, tn1600, w32_and, w32_or, w32_xor, w32_shl, w32_shr, has2_eq] at hcl) <;> (try (exfalso; first | omega | exact hcl rfl | exact hcl trivial | contradiction))))
    repeat' (first | with_reducible refine two_lt_r ?_ | (with_reducible refine two_chk_r ?_ ?_; focus ((try simp (disch := omega) only [Bool.false_eq_true, not_true_eq_false, not_false_eq_true, Nat.reduceAdd, Nat.reduceMul, w32_eq, w64_eq, lc_eq, lc_lt, lc_le, lc_gt, lc_ge, up_k, up_i, up_e, Int.toNat_natCast, tn7, tn8, tn12, tn3, tn120, tn1600, w32_and, w32_or, w32_xor, w32_shl, w32_shr, has2_eq]) <;> omega)) | (with_reducible refine two_ite_r (fun hcr => ?_) (fun hcr => ?_) <;> (try simp (disch := omega) only [Bool.false_eq_true, not_true_eq_false, not_false_eq_true, Nat.reduceAdd, Nat.reduceMul, w32_eq, w64_eq, lc_eq, lc_lt, lc_le, lc_gt, lc_ge, up_k, up_i, up_e, Int.toNat_natCast, tn7, tn8, tn12, tn3, tn120, tn1600, w32_and, w32_or, w32_xor, w32_shl, w32_shr, has2_eq] at hcr) <;> (try (exfalso; first | omega | exact hcr rfl | exact hcr trivial | contradiction))))
    all_goals exact two_some ⟨rfl, FrX_refl X, FMt_refl 1 M, fun q => (by cases q)⟩
