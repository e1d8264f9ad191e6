/-! THE PURE PART: on: the seal of the tape; the sayings taken -/
theorem tape_seal {n : Nat} {v2 : Int} {X M : Mem} (hn : n ≤ 200) (hb : ∀ j, j < 1600 → X 2 j = M 1 j ∧ 0 ≤ X 2 j ∧ X 2 j ≤ 255) :
    two (itr2 (x_Picture_sealOf_L6 2 1600 (n : Int) X) FUEL 199 0) (itr2 (m_comesOn_L65 ((n : Int) + 1) v2 M) FUEL 199 0) (fun p q => p.1 = q.1 ∧ 0 ≤ p.1 ∧ p.1 ≤ 250) := by
  have t16 : ((1600 : Nat) : Int) = 1600 := rfl
  have tn : (n : Int) + 1 - 1 = (n : Int) := by omega
  refine two_itr22 (fun m (a i b j : Int) => ∃ c : Nat, i = (c : Int) ∧ j = (c : Int) ∧ c ≤ n ∧ m = n - c ∧ a = b ∧ 0 ≤ a ∧ a ≤ 250) _ ?_ FUEL n 199 0 199 0 (fuel_lt (by omega)) ⟨0, rfl, rfl, by omega, rfl, rfl, by omega, by omega⟩
  rintro m a i b j ⟨c, rfl, rfl, hc, rfl, rfl, ha⟩ F G ih
  unfold x_Picture_sealOf_L6 m_comesOn_L65
  rw [tn]
  by_cases h : c < n
  · obtain ⟨b1, b2⟩ := hb c (by omega)
    have hm := mod251 ha b2
    repeat' (first | with_reducible refine two_lt_l ?_ | (with_reducible refine two_chk_l ?_ ?_; focus ((try simp (disch := omega) only [Bool.false_eq_true, not_true_eq_false, not_false_eq_true, Nat.reduceAdd, Nat.reduceMul, w32_eq, w64_eq, lc_eq, lc_lt, lc_le, lc_gt, lc_ge, up_k, up_i, up_e, Int.toNat_natCast, tn7, tn8, tn12, tn3, tn120, tn1600, w32_and, w32_or, w32_xor, w32_shl, w32_shr, has2_eq, t16]) <;> omega)) | (with_reducible refine two_ite_l (fun hcl => ?_) (fun hcl => ?_) <;> (try simp (disch := omega) only [Bool.false_eq_true, not_true_eq_false, not_false_eq_true, Nat.reduceAdd, Nat.reduceMul, w32_eq, w64_eq, lc_eq, lc_lt, lc_le, lc_gt, lc_ge, up_k, up_i, up_e, Int.toNat_natCast, tn7, tn8, tn12, tn3, tn120, tn1600, w32_and, w32_or, w32_xor, w32_shl, w32_shr, has2_eq, t16] at hcl) <;> (try (exfalso; first | omega | exact hcl rfl | exact hcl trivial | contradiction))))
    repeat' (first | with_reducible refine two_lt_r ?_ | (with_reducible refine two_chk_r ?_ ?_; focus ((try simp (disch := omega) only [Bool.false_eq_true, not_true_eq_false, not_false_eq_true, Nat.reduceAdd, Nat.reduceMul, w32_eq, w64_eq, lc_eq, lc_lt, lc_le, lc_gt, lc_ge, up_k, up_i, up_e, Int.toNat_natCast, tn7, tn8, tn12, tn3, tn120, tn1600, w32_and, w32_or, w32_xor, w32_shl, w32_shr, has2_eq]) <;> omega)) | (with_reducible refine two_ite_r (fun hcr => ?_) (fun hcr => ?_) <;> (try simp (disch := omega) only [Bool.false_eq_true, not_true_eq_false, not_false_eq_true, Nat.reduceAdd, Nat.reduceMul, w32_eq, w64_eq, lc_eq, lc_lt, lc_le, lc_gt, lc_ge, up_k, up_i, up_e, Int.toNat_natCast, tn7, tn8, tn12, tn3, tn120, tn1600, w32_and, w32_or, w32_xor, w32_shl, w32_shr, has2_eq] at hcr) <;> (try (exfalso; first | omega | exact hcr rfl | exact hcr trivial | contradiction))))
    simp (disch := omega) only [w32_eq, Int.toNat_natCast, ← b1]
    exact ih (n - (c + 1)) _ _ _ _ (by omega) ⟨c + 1, rfl, rfl, by omega, rfl, rfl, hm⟩
  · have e : c = n := by omega
    subst e
    repeat' (first | with_reducible refine two_lt_l ?_ | (with_reducible refine two_chk_l ?_ ?_; focus ((try simp (disch := omega) only [Bool.false_eq_true, not_true_eq_false, not_false_eq_true, Nat.reduceAdd, Nat.reduceMul, w32_eq, w64_eq, lc_eq, lc_lt, lc_le, lc_gt, lc_ge, up_k, up_i, up_e, Int.toNat_natCast, tn7, tn8, tn12, tn3, tn120, tn1600, w32_and, w32_or, w32_xor, w32_shl, w32_shr, has2_eq, t16]) <;> omega)) | (with_reducible refine two_ite_l (fun hcl => ?_) (fun hcl => ?_) <;> (try simp (disch := omega) only [Bool.false_eq_true, not_true_eq_false, not_false_eq_true, Nat.reduceAdd, Nat.reduceMul, w32_eq, w64_eq, lc_eq, lc_lt, lc_le, lc_gt, lc_ge, up_k, up_i, up_e, Int.toNat_natCast, tn7, tn8, tn12, tn3, tn120, tn1600, w32_and, w32_or, w32_xor, w32_shl, w32_shr, has2_eq, t16] at hcl) <;> (try (exfalso; first | omega | exact hcl rfl | exact hcl trivial | contradiction))))
    repeat' (first | with_reducible refine two_lt_r ?_ | (with_reducible refine two_chk_r ?_ ?_; focus ((try simp (disch := omega) only [Bool.false_eq_true, not_true_eq_false, not_false_eq_true, Nat.reduceAdd, Nat.reduceMul, w32_eq, w64_eq, lc_eq, lc_lt, lc_le, lc_gt, lc_ge, up_k, up_i, up_e, Int.toNat_natCast, tn7, tn8, tn12, tn3, tn120, tn1600, w32_and, w32_or, w32_xor, w32_shl, w32_shr, has2_eq]) <;> omega)) | (with_reducible refine two_ite_r (fun hcr => ?_) (fun hcr => ?_) <;> (try simp (disch := omega) only [Bool.false_eq_true, not_true_eq_false, not_false_eq_true, Nat.reduceAdd, Nat.reduceMul, w32_eq, w64_eq, lc_eq, lc_lt, lc_le, lc_gt, lc_ge, up_k, up_i, up_e, Int.toNat_natCast, tn7, tn8, tn12, tn3, tn120, tn1600, w32_and, w32_or, w32_xor, w32_shl, w32_shr, has2_eq] at hcr) <;> (try (exfalso; first | omega | exact hcr rfl | exact hcr trivial | contradiction))))
    exact two_some ⟨rfl, ha⟩
/-- the sayings below c, taken by both -/
def RSs (nv ns c : Nat) (X X1 M1 : Mem) : Prop :=
  (∀ s : Nat, s < c → M1 29 (12 + s) = X1 55 s ∧ 0 ≤ X1 55 s ∧ X1 55 s ≤ 5 ∧ M1 30 (12 + s) = X1 56 s ∧ 0 ≤ X1 56 s ∧ X1 56 s ≤ 999 ∧ M1 31 (12 + s) = X1 57 s ∧ 0 ≤ X1 57 s ∧ X1 57 s ≤ 99 ∧ M1 32 (12 + s) = X1 58 s ∧ -1 ≤ X1 58 s ∧ X1 58 s < (nv : Int) ∧ M1 33 (12 + s) = X1 59 s ∧ 0 ≤ X1 59 s ∧ X1 59 s ≤ 20 ∧ and32 (shr32 (M1 34 1) (s : Int)) 1 = X1 60 s ∧ 0 ≤ X1 60 s ∧ X1 60 s ≤ 1) ∧
  (∀ s : Nat, s < c → X1 55 s = 2 → 0 ≤ X1 58 s ∧ 1 ≤ X1 59 s ∧ X1 53 (X1 58 s).toNat = 0) ∧ (∀ s : Nat, s < c → X1 55 s < 2 → X1 60 s = 0) ∧
  (∀ s t : Nat, s < c → t < c → X1 55 s = 2 → X1 55 t = 2 → X1 58 s = X1 58 t → s = t) ∧
  (∀ s : Nat, c ≤ s → s < 12 → X1 55 s = 0) ∧ 0 ≤ M1 34 1 ∧ M1 34 1 < ((2 ^ c : Nat) : Int)
/-- who is free: the same in both, while the sayings are taken -/
theorem fre_alone {nv ns c v : Nat} {X X1 M1 : Mem} (hv : RSv nv X1 M1) (hs : RSs nv ns c X X1 M1) (hnv : nv ≤ 7) (hc : c ≤ ns) (hns : ns ≤ 12) (h : v < nv) : (¬ and32 (shr32 (M1 28 1) (v : Int)) 1 = 1 ∧ Alone c v M1) ↔ Fre ns X1 v := by
  obtain ⟨v1, v2, v3, v4, v5, v6, -⟩ := hv.1 v h
  obtain ⟨s1, -, -, -, s5, -⟩ := hs
  unfold Fre Alone
  rw [w32_eq (x := X1 53 v) (by omega) (by omega), v4]
  constructor
  · rintro ⟨g1, g2⟩
    refine ⟨by omega, fun s hss hk => ?_⟩
    by_cases q : s < c
    · obtain ⟨k1, k2, k3, -, -, -, -, -, -, k4, k5, k6, -⟩ := s1 s q
      rw [w32_eq (by omega) (by omega), w32_eq (by omega) (by omega)] at hk
      exact g2 s q ⟨by omega, by omega⟩
    · have := s5 s (by omega) (by omega)
      rw [this, w32_0] at hk
      omega
  · rintro ⟨g1, g2⟩
    refine ⟨by omega, fun s q hk => ?_⟩
    obtain ⟨k1, k2, k3, -, -, -, -, -, -, k4, k5, k6, -⟩ := s1 s q
    refine g2 s (by omega) ?_
    rw [w32_eq (by omega) (by omega), w32_eq (by omega) (by omega)]
    exact ⟨by omega, by omega⟩
