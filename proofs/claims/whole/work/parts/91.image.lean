/-! THE PURE PART: image, the seal -/
theorem mod251 {a b : Int} (ha : 0 ≤ a ∧ a ≤ 250) (hb : 0 ≤ b ∧ b ≤ 255) : 0 ≤ (5 * a + b).tmod 251 ∧ (5 * a + b).tmod 251 ≤ 250 := by
  rw [Int.tmod_eq_emod_of_nonneg (by omega)]
  omega
theorem sim_seal {n : Nat} {X M : Mem} (hn : n ≤ 107) (h69 : M 0 69 = (n : Int)) (hb : ∀ j, j < n → X 371 j = M 45 j ∧ 0 ≤ X 371 j ∧ X 371 j ≤ 255) :
    two (itr2 (x_Picture_sealOf_L6 371 108 (n : Int) X) FUEL 199 0) (itr2 (m_image_L203 M) FUEL 199 0) (fun p q => p.1 = q.1 ∧ 0 ≤ p.1 ∧ p.1 ≤ 250) := by
  have t108 : ((108 : Nat) : Int) = 108 := rfl
  refine two_itr22 (fun m (a i b j : Int) => ∃ c : Nat, i = (c : Int) ∧ j = (c : Int) ∧ c ≤ n ∧ m = n - c ∧ a = b ∧ 0 ≤ a ∧ a ≤ 250) _ ?_ FUEL n 199 0 199 0 (fuel_lt (by omega)) ⟨0, rfl, rfl, by omega, rfl, rfl, by omega, by omega⟩
  rintro m a i b j ⟨c, rfl, rfl, hc, rfl, rfl, ha⟩ F G ih
  unfold x_Picture_sealOf_L6 m_image_L203
  by_cases h : c < n
  · obtain ⟨b1, b2⟩ := hb c h
    have hm := mod251 ha b2
    repeat' (first | with_reducible refine two_lt_l ?_ | (with_reducible refine two_chk_l ?_ ?_; focus ((try simp (disch := omega) only [Bool.false_eq_true, not_true_eq_false, not_false_eq_true, Nat.reduceAdd, Nat.reduceMul, w32_eq, w64_eq, lc_eq, lc_lt, lc_le, lc_gt, lc_ge, up_k, up_i, up_e, Int.toNat_natCast, tn7, tn8, tn12, tn3, tn120, tn1600, w32_and, w32_or, w32_xor, w32_shl, w32_shr, has2_eq, t108]) <;> omega)) | (with_reducible refine two_ite_l (fun hcl => ?_) (fun hcl => ?_) <;> (try simp (disch := omega) only [Bool.false_eq_true, not_true_eq_false, not_false_eq_true, Nat.reduceAdd, Nat.reduceMul, w32_eq, w64_eq, lc_eq, lc_lt, lc_le, lc_gt, lc_ge, up_k, up_i, up_e, Int.toNat_natCast, tn7, tn8, tn12, tn3, tn120, tn1600, w32_and, w32_or, w32_xor, w32_shl, w32_shr, has2_eq, t108] at hcl) <;> (try (exfalso; first | omega | exact hcl rfl | exact hcl trivial | contradiction))))
    repeat' (first | with_reducible refine two_lt_r ?_ | (with_reducible refine two_chk_r ?_ ?_; focus ((try simp (disch := omega) only [Bool.false_eq_true, not_true_eq_false, not_false_eq_true, Nat.reduceAdd, Nat.reduceMul, w32_eq, w64_eq, lc_eq, lc_lt, lc_le, lc_gt, lc_ge, up_k, up_i, up_e, Int.toNat_natCast, tn7, tn8, tn12, tn3, tn120, tn1600, w32_and, w32_or, w32_xor, w32_shl, w32_shr, has2_eq, h69]) <;> omega)) | (with_reducible refine two_ite_r (fun hcr => ?_) (fun hcr => ?_) <;> (try simp (disch := omega) only [Bool.false_eq_true, not_true_eq_false, not_false_eq_true, Nat.reduceAdd, Nat.reduceMul, w32_eq, w64_eq, lc_eq, lc_lt, lc_le, lc_gt, lc_ge, up_k, up_i, up_e, Int.toNat_natCast, tn7, tn8, tn12, tn3, tn120, tn1600, w32_and, w32_or, w32_xor, w32_shl, w32_shr, has2_eq, h69] at hcr) <;> (try (exfalso; first | omega | exact hcr rfl | exact hcr trivial | contradiction))))
    simp (disch := omega) only [w32_eq, Int.toNat_natCast, ← b1]
    exact ih (n - (c + 1)) _ _ _ _ (by omega) ⟨c + 1, rfl, rfl, by omega, rfl, rfl, hm⟩
  · have e : c = n := by omega
    subst e
    repeat' (first | with_reducible refine two_lt_l ?_ | (with_reducible refine two_chk_l ?_ ?_; focus ((try simp (disch := omega) only [Bool.false_eq_true, not_true_eq_false, not_false_eq_true, Nat.reduceAdd, Nat.reduceMul, w32_eq, w64_eq, lc_eq, lc_lt, lc_le, lc_gt, lc_ge, up_k, up_i, up_e, Int.toNat_natCast, tn7, tn8, tn12, tn3, tn120, tn1600, w32_and, w32_or, w32_xor, w32_shl, w32_shr, has2_eq, t108]) <;> omega)) | (with_reducible refine two_ite_l (fun hcl => ?_) (fun hcl => ?_) <;> (try simp (disch := omega) only [Bool.false_eq_true, not_true_eq_false, not_false_eq_true, Nat.reduceAdd, Nat.reduceMul, w32_eq, w64_eq, lc_eq, lc_lt, lc_le, lc_gt, lc_ge, up_k, up_i, up_e, Int.toNat_natCast, tn7, tn8, tn12, tn3, tn120, tn1600, w32_and, w32_or, w32_xor, w32_shl, w32_shr, has2_eq, t108] at hcl) <;> (try (exfalso; first | omega | exact hcl rfl | exact hcl trivial | contradiction))))
    repeat' (first | with_reducible refine two_lt_r ?_ | (with_reducible refine two_chk_r ?_ ?_; focus ((try simp (disch := omega) only [Bool.false_eq_true, not_true_eq_false, not_false_eq_true, Nat.reduceAdd, Nat.reduceMul, w32_eq, w64_eq, lc_eq, lc_lt, lc_le, lc_gt, lc_ge, up_k, up_i, up_e, Int.toNat_natCast, tn7, tn8, tn12, tn3, tn120, tn1600, w32_and, w32_or, w32_xor, w32_shl, w32_shr, has2_eq, h69]) <;> omega)) | (with_reducible refine two_ite_r (fun hcr => ?_) (fun hcr => ?_) <;> (try simp (disch := omega) only [Bool.false_eq_true, not_true_eq_false, not_false_eq_true, Nat.reduceAdd, Nat.reduceMul, w32_eq, w64_eq, lc_eq, lc_lt, lc_le, lc_gt, lc_ge, up_k, up_i, up_e, Int.toNat_natCast, tn7, tn8, tn12, tn3, tn120, tn1600, w32_and, w32_or, w32_xor, w32_shl, w32_shr, has2_eq, h69] at hcr) <;> (try (exfalso; first | omega | exact hcr rfl | exact hcr trivial | contradiction))))
    exact two_some ⟨rfl, ha⟩
theorem ls_image : LS_image RR := by
  rintro k X M hk ⟨nv, np, ns, bk, hR⟩
  apply ls_of
  have hT := hR.1
  have hns := hT.1.2.2.2.2
  have hnv := hT.1.2.2.1
  have hm13 : 0 ≤ X 38 13 ∧ X 38 13 ≤ 999 := hR.2.2.1.2.2.2.2.2.2.2.2.2.2.2.2.1
  have hm25 : M 25 0 = X 38 13 := hR.2.1.2.2.2.2.2.2.2.2.2.2.1
  have p0 : Pic 0 X M (upM X 370 1 0) (upM M 0 69 0) := ⟨⟨by rw [up_e, up_e], by rw [up_e]; omega, by rw [up_e]; omega, fun j hj => by rw [up_e] at hj; omega⟩, up_e, fun a q1 q2 => upM_row q1, fun a q1 q2 => upM_row q1, fun j q => up_i q⟩
  obtain ⟨Xa, Ma, Mb, e1, f1, f2, hma, pa⟩ := sim_pair (w := X 38 13) p0 (by omega) hm13
  unfold x_X_image x_Picture_write m_image
  refine two_lt_r ?_
  obtain ⟨⟨i3, Xc⟩, ⟨j3, Mc⟩, e3, f3, pc⟩ := sim_voices hR pa
  obtain ⟨⟨i4, Xd⟩, ⟨j4, Md⟩, e4, f4, pd⟩ := sim_says hR (n := 2 + 3 * nv) (by omega) pc
  simp only at pd
  have pdc := pd
  obtain ⟨⟨d1, d2, d3, d4⟩, dn, dx, dm, d0⟩ := pdc
  obtain ⟨⟨s5, i5⟩, ⟨t5, j5⟩, e5, f5, h5, h50, h51⟩ := sim_seal (n := 2 + 3 * nv + 7 * ns) (X := Xd) (M := Md) (by omega) (by rw [← d1]; exact dn) (fun j hj => d4 j (by omega))
  simp only at h5 h50 h51
  subst h5
  obtain ⟨Xe, Me, e6, f6, pe⟩ := sim_wr (x := s5) (y := s5) pd (by omega) (mask (by omega))
  have x38 : (upM X 370 1 0) 38 13 = X 38 13 := up_k (by omega)
  have m25 : (upM M 0 69 0) 25 0 = X 38 13 := by rw [up_k (by omega)]; exact hm25
  have m25a : Ma 25 0 = X 38 13 := by rw [hma 25 (by omega) (by omega)]; exact hm25
  have hlen : Xe 370 1 = Me 0 69 := pe.1.1
  have hx : post (lt (upM X 370 1 0) (fun M_2 => bnd (x_Picture_putPair (M_2 38 13) M_2) (fun M1 => bnd (itr2 (x_Picture_write_L18) FUEL 0 M1) (fun q5 => match q5 with | (v1_5, M_5) => bnd (itr2 (x_Picture_write_L76) FUEL 0 M_5) (fun q12 => match q12 with | (v1_12, M_12) => bnd (x_Picture_sealOf 371 108 (M_12 370 1) M_12) (fun r13 => bnd (x_Picture_put r13 M_12) (fun M14 => some ((M14 370 1), M14)))))))) (fun p => p = (Xe 370 1, Xe)) := by
    refine post_lt ?_
    rw [x38]
    refine post_bnde e1 ?_
    refine post_bnde e3 ?_
    refine post_bnde e4 ?_
    unfold x_Picture_sealOf
    simp only
    rw [dn, e5]
    simp only [bnd_some]
    refine post_bnde e6 ?_
    exact post_some rfl
  obtain ⟨_, ex, rfl⟩ := hx
  refine two_bnd2_l (a := Xe 370 1) (b := Xe) ex ?_
  rw [m25]
  refine two_bnd_r f1 ?_
  rw [m25a]
  refine two_bnd_r f2 ?_
  refine two_bnd_r f3 ?_
  refine two_bnd_r f4 ?_
  refine two_bnd_r f5 ?_
  refine two_bnd_r f6 ?_
  exact two_some ⟨by simp only [hlen], nv, np, ns, bk, RAll_up (RAll_pic hR pe)⟩
