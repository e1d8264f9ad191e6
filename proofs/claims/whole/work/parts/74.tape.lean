/-! THE PURE PART: the tape, undo, minutes, chance -/
theorem byte_bv (v : BitVec 32) (n : Nat) (hn : n ≤ 24) : (v >>> n) &&& 255#32 = (v.sshiftRight n) &&& 255#32 := by
  apply BitVec.eq_of_getLsbD_eq
  intro j hj
  rw [BitVec.getLsbD_and, BitVec.getLsbD_and, BitVec.getLsbD_ushiftRight, BitVec.getLsbD_sshiftRight]
  by_cases h : j < 8
  · have h1 : n + j < 32 := by omega
    have h2 : ¬ 32 ≤ j := by omega
    simp [h1, h2]
  · have h3 : (255#32).getLsbD j = false := by
      have : ∀ j : Nat, j < 32 → ¬ j < 8 → (255#32).getLsbD j = false := by decide +kernel
      exact this j hj h
    rw [h3, Bool.and_false, Bool.and_false]
theorem and255 (v : Int32) : 0 ≤ (v &&& Int32.ofInt 255).toInt ∧ (v &&& Int32.ofInt 255).toInt ≤ 255 := by
  have h : (v &&& Int32.ofInt 255).toBitVec.toNat ≤ 255 := by
    rw [Int32.toBitVec_and, BitVec.toNat_and]
    exact Nat.and_le_right
  show 0 ≤ (v &&& Int32.ofInt 255).toBitVec.toInt ∧ (v &&& Int32.ofInt 255).toBitVec.toInt ≤ 255
  rw [BitVec.toInt_eq_toNat_of_lt (by omega)]
  omega
theorem byte_eq : ∀ i : Nat, i < 4 → ∀ x : Int, -2147483648 ≤ x → x < 2147483648 → and32 (ushr32 x (8 * (i : Int))) 255 = and32 (shr32 x (8 * (i : Int))) 255 ∧ 0 ≤ and32 (shr32 x (8 * (i : Int))) 255 ∧ and32 (shr32 x (8 * (i : Int))) 255 ≤ 255 := by
  intro i hi x h1 h2
  refine ⟨?_, and255 _⟩
  unfold and32
  rw [ushr32_of, shr32_of]
  have key : ((Int32.ofInt x).toUInt32 >>> ((Int32.ofInt (8 * (i : Int))).toUInt32 &&& Int32.toUInt32 31)).toInt32 &&& Int32.ofInt 255 = (Int32.ofInt x >>> (Int32.ofInt (8 * (i : Int)) &&& 31)) &&& Int32.ofInt 255 := by
    apply Int32.toBitVec_inj.mp
    have h4 : i = 0 ∨ i = 1 ∨ i = 2 ∨ i = 3 := by omega
    rcases h4 with rfl | rfl | rfl | rfl
    · exact byte_bv (Int32.ofInt x).toBitVec 0 (by omega)
    · exact byte_bv (Int32.ofInt x).toBitVec 8 (by omega)
    · exact byte_bv (Int32.ofInt x).toBitVec 16 (by omega)
    · exact byte_bv (Int32.ofInt x).toBitVec 24 (by omega)
  rw [key]
/-- the tapes, and all else as it was -/
def TapeOnly (X M X1 M1 : Mem) : Prop := (∀ a, a ≠ 1 → a ≠ 2 → X1 a = X a) ∧ (∀ a, a ≠ 0 → a ≠ 1 → M1 a = M a) ∧ (∀ j, j ≠ 1 → M1 0 j = M 0 j)
theorem TapeOnly_refl (X M : Mem) : TapeOnly X M X M := ⟨fun _ _ _ => rfl, fun _ _ _ => rfl, fun _ _ => rfl⟩
theorem TapeOnly_trans {X M X1 M1 X2 M2 : Mem} (h : TapeOnly X M X1 M1) (g : TapeOnly X1 M1 X2 M2) : TapeOnly X M X2 M2 :=
  ⟨fun a q1 q2 => (g.1 a q1 q2).trans (h.1 a q1 q2), fun a q1 q2 => (g.2.1 a q1 q2).trans (h.2.1 a q1 q2), fun j q => (g.2.2 j q).trans (h.2.2 j q)⟩
theorem RAll_tape {nv np ns bk k : Nat} {X M X1 M1 : Mem} (h : RAll nv np ns bk k X M) (ht : TapeOnly X M X1 M1) (hT : RTape X1 M1) : RAll nv np ns bk k X1 M1 := by
  obtain ⟨h1, h2, h3, h4, h5, h6, h7, h8, h9, h10⟩ := h
  obtain ⟨ex, em, e0⟩ := ht
  have hns := h1.1.2.2.2.2
  have hnv := h1.1.2.2.1
  exact ⟨RT_of h1 (fun a q1 q2 q3 => ex a (by omega) (by omega)) (e0 13 (by omega)) (fun a q1 q2 => em a (by omega) (by omega)), RS_of h2 (fun a q1 q2 => ex a (by omega) (by omega)) (fun a q1 q2 => em a (by omega) (by omega)), SI_of h3 (fun a q1 q2 => ex a (by omega) (by omega)),
    RPast_of h4 hnv hns (ex 64 (by omega) (by omega)) (fun a q1 q2 => ex a (by omega) (by omega)) (e0 56 (by omega)) (e0 57 (by omega)) (fun a i q1 q2 q3 => by rw [em a (by omega) (by omega)]),
    hT, RFault_of h6 (ex 3 (by omega) (by omega)) (e0 10 (by omega)) (e0 11 (by omega)), RRef_of h7 (ex 372 (by omega) (by omega)) (em 24 (by omega) (by omega)),
    RSeed_of h8 (by rw [ex 0 (by omega) (by omega)]) (e0 58 (by omega)), RHeard_of h9 (by rw [ex 354 (by omega) (by omega)]) (ex 355 (by omega) (by omega)) (ex 356 (by omega) (by omega)) (ex 357 (by omega) (by omega)) (e0 63 (by omega)) (em 41 (by omega) (by omega)) (em 42 (by omega) (by omega)) (em 43 (by omega) (by omega)), RPic_of h10 (by rw [ex 370 (by omega) (by omega)]) (ex 371 (by omega) (by omega)) (e0 69 (by omega)) (em 45 (by omega) (by omega))⟩
theorem RTape_len {X M : Mem} {n : Int} (h : RTape X M) (hn : 0 ≤ n ∧ n ≤ 1600) : RTape (upM X 1 1 n) (upM M 0 1 n) := by
  obtain ⟨h1, h2, h3, h4⟩ := h
  refine ⟨by rw [up_e, up_e], by rw [up_e]; omega, by rw [up_e]; omega, fun j hj => ?_⟩
  rw [up_k (by omega), up_k (by omega)]
  exact h4 j hj
theorem TapeOnly_len {X M : Mem} {n m : Int} : TapeOnly X M (upM X 1 1 n) (upM M 0 1 m) := ⟨fun a q1 q2 => upM_row q1, fun a q1 q2 => upM_row q1, fun j q => up_i q⟩
theorem sim_put {X M : Mem} {x : Int} (h : RTape X M) (hx : -2147483648 ≤ x ∧ x < 2147483648) (hl : X 1 1 + 4 ≤ 1600) : two (x_Tape_put x X) (m_put x M) (fun X1 M1 => RTape X1 M1 ∧ TapeOnly X M X1 M1 ∧ X1 1 1 = X 1 1 + 4) := by
  unfold x_Tape_put m_put
  refine two_bnd (two_itr22 (fun n i X1 j M1 => ∃ c : Nat, i = 8 * (c : Int) - 8 ∧ j = 8 * (c : Int) - 8 ∧ n = c ∧ c ≤ 4 ∧ RTape X1 M1 ∧ TapeOnly X M X1 M1 ∧ X1 1 1 = X 1 1 + 4 - c) (fun p q => RTape p.2 q.2 ∧ TapeOnly X M p.2 q.2 ∧ p.2 1 1 = X 1 1 + 4) ?_ FUEL 4 24 X 24 M (fuel_lt (by omega)) ⟨4, by omega, by omega, rfl, by omega, h, TapeOnly_refl X M, by omega⟩) ?_
  · rintro n i X1 j M1 ⟨c, rfl, rfl, rfl, hc, ⟨g1, g2, g3, g4⟩, gt, gl⟩ F G ih
    unfold x_Tape_put_L3 m_put_L3
    by_cases h0 : 0 < n
    · obtain ⟨z, hz⟩ := Int.eq_ofNat_of_zero_le g2
      have hb := byte_eq (n - 1) (by omega) x hx.1 hx.2
      rw [show 8 * ((n - 1 : Nat) : Int) = 8 * (n : Int) - 8 by omega] at hb
      repeat' (first | with_reducible refine two_lt_l ?_ | (with_reducible refine two_chk_l ?_ ?_; focus ((try simp (disch := omega) only [Bool.false_eq_true, not_true_eq_false, not_false_eq_true, Nat.reduceAdd, Nat.reduceMul, w32_eq, w64_eq, lc_eq, lc_lt, lc_le, lc_gt, lc_ge, up_k, up_i, up_e, Int.toNat_natCast, tn7, tn8, tn12, tn3, tn120, tn1600, w32_and, w32_or, w32_xor, w32_shl, w32_shr, has2_eq, hz]) <;> omega)) | (with_reducible refine two_ite_l (fun hcl => ?_) (fun hcl => ?_) <;> (try simp (disch := omega) only [Bool.false_eq_true, not_true_eq_false, not_false_eq_true, Nat.reduceAdd, Nat.reduceMul, w32_eq, w64_eq, lc_eq, lc_lt, lc_le, lc_gt, lc_ge, up_k, up_i, up_e, Int.toNat_natCast, tn7, tn8, tn12, tn3, tn120, tn1600, w32_and, w32_or, w32_xor, w32_shl, w32_shr, has2_eq, hz] at hcl) <;> (try (exfalso; first | omega | exact hcl rfl | exact hcl trivial | contradiction))))
      repeat' (first | with_reducible refine two_lt_r ?_ | (with_reducible refine two_chk_r ?_ ?_; focus ((try simp (disch := omega) only [Bool.false_eq_true, not_true_eq_false, not_false_eq_true, Nat.reduceAdd, Nat.reduceMul, w32_eq, w64_eq, lc_eq, lc_lt, lc_le, lc_gt, lc_ge, up_k, up_i, up_e, Int.toNat_natCast, tn7, tn8, tn12, tn3, tn120, tn1600, w32_and, w32_or, w32_xor, w32_shl, w32_shr, has2_eq, ← g1, hz]) <;> omega)) | (with_reducible refine two_ite_r (fun hcr => ?_) (fun hcr => ?_) <;> (try simp (disch := omega) only [Bool.false_eq_true, not_true_eq_false, not_false_eq_true, Nat.reduceAdd, Nat.reduceMul, w32_eq, w64_eq, lc_eq, lc_lt, lc_le, lc_gt, lc_ge, up_k, up_i, up_e, Int.toNat_natCast, tn7, tn8, tn12, tn3, tn120, tn1600, w32_and, w32_or, w32_xor, w32_shl, w32_shr, has2_eq, ← g1, hz] at hcr) <;> (try (exfalso; first | omega | exact hcr rfl | exact hcr trivial | contradiction))))
      simp (disch := omega) only [up_k, up_i, up_e, ← g1, hz, Int.toNat_natCast, hb.1]
      refine ih (n - 1) _ _ _ _ (by omega) ⟨n - 1, by omega, by omega, rfl, by omega, ⟨?_, ?_, ?_, fun j hj => ?_⟩, ?_, ?_⟩
      · rw [up_e, up_e]
      · rw [up_e]; omega
      · rw [up_e]; omega
      · by_cases e : j = z
        · subst e
          refine ⟨?_, ?_, ?_⟩ <;> simp (disch := omega) only [up_k, up_i, up_e]
          · exact hb.2.1
          · exact hb.2.2
        · obtain ⟨g5, g6, g7⟩ := g4 j hj
          refine ⟨?_, ?_, ?_⟩ <;> simp (disch := omega) only [up_k, up_i, up_e]
          · exact g5
          · exact g6
          · exact g7
      · refine TapeOnly_trans gt ⟨fun a q1 q2 => by rw [upM_row q1, upM_row q2], fun a q1 q2 => by rw [upM_row q1, upM_row q2], fun j q => by rw [up_i q, up_k (by omega)]⟩
      · rw [up_e]; omega
    · have : n = 0 := by omega
      subst this
      repeat' (first | with_reducible refine two_lt_l ?_ | (with_reducible refine two_chk_l ?_ ?_; focus ((try simp (disch := omega) only [Bool.false_eq_true, not_true_eq_false, not_false_eq_true, Nat.reduceAdd, Nat.reduceMul, w32_eq, w64_eq, lc_eq, lc_lt, lc_le, lc_gt, lc_ge, up_k, up_i, up_e, Int.toNat_natCast, tn7, tn8, tn12, tn3, tn120, tn1600, w32_and, w32_or, w32_xor, w32_shl, w32_shr, has2_eq]) <;> omega)) | (with_reducible refine two_ite_l (fun hcl => ?_) (fun hcl => ?_) <;> (try simp (disch := omega) only [Bool.false_eq_true, not_true_eq_false, not_false_eq_true, Nat.reduceAdd, Nat.reduceMul, w32_eq, w64_eq, lc_eq, lc_lt, lc_le, lc_gt, lc_ge, up_k, up_i, up_e, Int.toNat_natCast, tn7, tn8, tn12, tn3, tn120, tn1600, w32_and, w32_or, w32_xor, w32_shl, w32_shr, has2_eq] at hcl) <;> (try (exfalso; first | omega | exact hcl rfl | exact hcl trivial | contradiction))))
      repeat' (first | with_reducible refine two_lt_r ?_ | (with_reducible refine two_chk_r ?_ ?_; focus ((try simp (disch := omega) only [Bool.false_eq_true, not_true_eq_false, not_false_eq_true, Nat.reduceAdd, Nat.reduceMul, w32_eq, w64_eq, lc_eq, lc_lt, lc_le, lc_gt, lc_ge, up_k, up_i, up_e, Int.toNat_natCast, tn7, tn8, tn12, tn3, tn120, tn1600, w32_and, w32_or, w32_xor, w32_shl, w32_shr, has2_eq]) <;> omega)) | (with_reducible refine two_ite_r (fun hcr => ?_) (fun hcr => ?_) <;> (try simp (disch := omega) only [Bool.false_eq_true, not_true_eq_false, not_false_eq_true, Nat.reduceAdd, Nat.reduceMul, w32_eq, w64_eq, lc_eq, lc_lt, lc_le, lc_gt, lc_ge, up_k, up_i, up_e, Int.toNat_natCast, tn7, tn8, tn12, tn3, tn120, tn1600, w32_and, w32_or, w32_xor, w32_shl, w32_shr, has2_eq] at hcr) <;> (try (exfalso; first | omega | exact hcr rfl | exact hcr trivial | contradiction))))
      refine two_some ⟨⟨g1, g2, g3, g4⟩, gt, ?_⟩
      simp only
      omega
  · rintro ⟨a, X1⟩ ⟨b, M1⟩ h
    exact two_some h
theorem ls_feed : LS_feed RR := by
  rintro k X M a1 a2 a3 a4 a5 hk h1 h2 h3 h4 h5 ⟨nv, np, ns, bk, hR⟩
  apply ls_of
  unfold i32 at h1 h2 h3 h4 h5
  have hno := two_none (g := 0) hR (by omega)
  have hT := hR.2.2.2.2.1
  obtain ⟨t1, t2, t3, -⟩ := hT
  have hT := hR.2.2.2.2.1
  unfold x_X_feed m_feed
  rw [← t1]
  repeat' (first | with_reducible refine two_lt_l ?_ | (with_reducible refine two_chk_l ?_ ?_; focus ((try simp (disch := omega) only [Bool.false_eq_true, not_true_eq_false, not_false_eq_true, Nat.reduceAdd, Nat.reduceMul, w32_eq, w64_eq, lc_eq, lc_lt, lc_le, lc_gt, lc_ge, up_k, up_i, up_e, Int.toNat_natCast, tn7, tn8, tn12, tn3, tn120, tn1600, w32_and, w32_or, w32_xor, w32_shl, w32_shr, has2_eq]) <;> omega)) | (with_reducible refine two_ite_l (fun hcl => ?_) (fun hcl => ?_) <;> (try simp (disch := omega) only [Bool.false_eq_true, not_true_eq_false, not_false_eq_true, Nat.reduceAdd, Nat.reduceMul, w32_eq, w64_eq, lc_eq, lc_lt, lc_le, lc_gt, lc_ge, up_k, up_i, up_e, Int.toNat_natCast, tn7, tn8, tn12, tn3, tn120, tn1600, w32_and, w32_or, w32_xor, w32_shl, w32_shr, has2_eq] at hcl) <;> (try (exfalso; first | omega | exact hcl rfl | exact hcl trivial | contradiction))))
  · repeat' (first | with_reducible refine two_lt_r ?_ | (with_reducible refine two_chk_r ?_ ?_; focus ((try simp (disch := omega) only [Bool.false_eq_true, not_true_eq_false, not_false_eq_true, Nat.reduceAdd, Nat.reduceMul, w32_eq, w64_eq, lc_eq, lc_lt, lc_le, lc_gt, lc_ge, up_k, up_i, up_e, Int.toNat_natCast, tn7, tn8, tn12, tn3, tn120, tn1600, w32_and, w32_or, w32_xor, w32_shl, w32_shr, has2_eq]) <;> omega)) | (with_reducible refine two_ite_r (fun hcr => ?_) (fun hcr => ?_) <;> (try simp (disch := omega) only [Bool.false_eq_true, not_true_eq_false, not_false_eq_true, Nat.reduceAdd, Nat.reduceMul, w32_eq, w64_eq, lc_eq, lc_lt, lc_le, lc_gt, lc_ge, up_k, up_i, up_e, Int.toNat_natCast, tn7, tn8, tn12, tn3, tn120, tn1600, w32_and, w32_or, w32_xor, w32_shl, w32_shr, has2_eq] at hcr) <;> (try (exfalso; first | omega | exact hcr rfl | exact hcr trivial | contradiction))))
    refine two_bnd (sim_put hT h1 (by omega)) ?_
    rintro X1 M1 ⟨g1, g2, g3⟩
    refine two_bnd (sim_put g1 h2 (by omega)) ?_
    rintro X2 M2 ⟨q1, q2, q3⟩
    refine two_bnd (sim_put q1 h3 (by omega)) ?_
    rintro X3 M3 ⟨r1, r2, r3⟩
    refine two_bnd (sim_put r1 h4 (by omega)) ?_
    rintro X4 M4 ⟨s1, s2, s3⟩
    refine two_bnd (sim_put s1 h5 (by omega)) ?_
    rintro X5 M5 ⟨u1, u2, u3⟩
    refine two_some ⟨by rw [u1.1], nv, np, ns, bk, RAll_up (RAll_tape hR (TapeOnly_trans g2 (TapeOnly_trans q2 (TapeOnly_trans r2 (TapeOnly_trans s2 u2)))) u1)⟩
  · repeat' (first | with_reducible refine two_lt_r ?_ | (with_reducible refine two_chk_r ?_ ?_; focus ((try simp (disch := omega) only [Bool.false_eq_true, not_true_eq_false, not_false_eq_true, Nat.reduceAdd, Nat.reduceMul, w32_eq, w64_eq, lc_eq, lc_lt, lc_le, lc_gt, lc_ge, up_k, up_i, up_e, Int.toNat_natCast, tn7, tn8, tn12, tn3, tn120, tn1600, w32_and, w32_or, w32_xor, w32_shl, w32_shr, has2_eq]) <;> omega)) | (with_reducible refine two_ite_r (fun hcr => ?_) (fun hcr => ?_) <;> (try simp (disch := omega) only [Bool.false_eq_true, not_true_eq_false, not_false_eq_true, Nat.reduceAdd, Nat.reduceMul, w32_eq, w64_eq, lc_eq, lc_lt, lc_le, lc_gt, lc_ge, up_k, up_i, up_e, Int.toNat_natCast, tn7, tn8, tn12, tn3, tn120, tn1600, w32_and, w32_or, w32_xor, w32_shl, w32_shr, has2_eq] at hcr) <;> (try (exfalso; first | omega | exact hcr rfl | exact hcr trivial | contradiction))))
    exact hno
theorem ls_end : LS_end RR := by
  rintro k X M a1 hk h1 ⟨nv, np, ns, bk, hR⟩
  apply lb_of
  unfold i32 at h1
  have hno := two_no (g := 0) hR (by omega)
  have hT := hR.2.2.2.2.1
  obtain ⟨t1, t2, t3, -⟩ := hT
  have hT := hR.2.2.2.2.1
  unfold x_X_end m_end m_end_B12
  rw [← t1]
  repeat' (first | with_reducible refine two_lt_l ?_ | (with_reducible refine two_chk_l ?_ ?_; focus ((try simp (disch := omega) only [Bool.false_eq_true, not_true_eq_false, not_false_eq_true, Nat.reduceAdd, Nat.reduceMul, w32_eq, w64_eq, lc_eq, lc_lt, lc_le, lc_gt, lc_ge, up_k, up_i, up_e, Int.toNat_natCast, tn7, tn8, tn12, tn3, tn120, tn1600, w32_and, w32_or, w32_xor, w32_shl, w32_shr, has2_eq]) <;> omega)) | (with_reducible refine two_ite_l (fun hcl => ?_) (fun hcl => ?_) <;> (try simp (disch := omega) only [Bool.false_eq_true, not_true_eq_false, not_false_eq_true, Nat.reduceAdd, Nat.reduceMul, w32_eq, w64_eq, lc_eq, lc_lt, lc_le, lc_gt, lc_ge, up_k, up_i, up_e, Int.toNat_natCast, tn7, tn8, tn12, tn3, tn120, tn1600, w32_and, w32_or, w32_xor, w32_shl, w32_shr, has2_eq] at hcl) <;> (try (exfalso; first | omega | exact hcl rfl | exact hcl trivial | contradiction))))
  · repeat' (first | with_reducible refine two_lt_r ?_ | (with_reducible refine two_chk_r ?_ ?_; focus ((try simp (disch := omega) only [Bool.false_eq_true, not_true_eq_false, not_false_eq_true, Nat.reduceAdd, Nat.reduceMul, w32_eq, w64_eq, lc_eq, lc_lt, lc_le, lc_gt, lc_ge, up_k, up_i, up_e, Int.toNat_natCast, tn7, tn8, tn12, tn3, tn120, tn1600, w32_and, w32_or, w32_xor, w32_shl, w32_shr, has2_eq]) <;> omega)) | (with_reducible refine two_ite_r (fun hcr => ?_) (fun hcr => ?_) <;> (try simp (disch := omega) only [Bool.false_eq_true, not_true_eq_false, not_false_eq_true, Nat.reduceAdd, Nat.reduceMul, w32_eq, w64_eq, lc_eq, lc_lt, lc_le, lc_gt, lc_ge, up_k, up_i, up_e, Int.toNat_natCast, tn7, tn8, tn12, tn3, tn120, tn1600, w32_and, w32_or, w32_xor, w32_shl, w32_shr, has2_eq] at hcr) <;> (try (exfalso; first | omega | exact hcr rfl | exact hcr trivial | contradiction))))
    exact hno
  · repeat' (first | with_reducible refine two_lt_r ?_ | (with_reducible refine two_chk_r ?_ ?_; focus ((try simp (disch := omega) only [Bool.false_eq_true, not_true_eq_false, not_false_eq_true, Nat.reduceAdd, Nat.reduceMul, w32_eq, w64_eq, lc_eq, lc_lt, lc_le, lc_gt, lc_ge, up_k, up_i, up_e, Int.toNat_natCast, tn7, tn8, tn12, tn3, tn120, tn1600, w32_and, w32_or, w32_xor, w32_shl, w32_shr, has2_eq]) <;> omega)) | (with_reducible refine two_ite_r (fun hcr => ?_) (fun hcr => ?_) <;> (try simp (disch := omega) only [Bool.false_eq_true, not_true_eq_false, not_false_eq_true, Nat.reduceAdd, Nat.reduceMul, w32_eq, w64_eq, lc_eq, lc_lt, lc_le, lc_gt, lc_ge, up_k, up_i, up_e, Int.toNat_natCast, tn7, tn8, tn12, tn3, tn120, tn1600, w32_and, w32_or, w32_xor, w32_shl, w32_shr, has2_eq] at hcr) <;> (try (exfalso; first | omega | exact hcr rfl | exact hcr trivial | contradiction))))
    exact two_some ⟨rfl, nv, np, ns, bk, RAll_up (RAll_tape hR TapeOnly_len (RTape_len hT (by omega)))⟩
  · repeat' (first | with_reducible refine two_lt_r ?_ | (with_reducible refine two_chk_r ?_ ?_; focus ((try simp (disch := omega) only [Bool.false_eq_true, not_true_eq_false, not_false_eq_true, Nat.reduceAdd, Nat.reduceMul, w32_eq, w64_eq, lc_eq, lc_lt, lc_le, lc_gt, lc_ge, up_k, up_i, up_e, Int.toNat_natCast, tn7, tn8, tn12, tn3, tn120, tn1600, w32_and, w32_or, w32_xor, w32_shl, w32_shr, has2_eq]) <;> omega)) | (with_reducible refine two_ite_r (fun hcr => ?_) (fun hcr => ?_) <;> (try simp (disch := omega) only [Bool.false_eq_true, not_true_eq_false, not_false_eq_true, Nat.reduceAdd, Nat.reduceMul, w32_eq, w64_eq, lc_eq, lc_lt, lc_le, lc_gt, lc_ge, up_k, up_i, up_e, Int.toNat_natCast, tn7, tn8, tn12, tn3, tn120, tn1600, w32_and, w32_or, w32_xor, w32_shl, w32_shr, has2_eq] at hcr) <;> (try (exfalso; first | omega | exact hcr rfl | exact hcr trivial | contradiction))))
    exact hno
theorem RAll_len0 {nv np ns bk k : Nat} {X M : Mem} (h : RAll nv np ns bk k X M) : RAll nv np ns bk k (upM X 1 1 0) (upM M 0 1 0) := RAll_tape h TapeOnly_len (RTape_len h.2.2.2.2.1 (by omega))
theorem ls_undo : LS_undo RR := by
  rintro k X M hk ⟨nv, np, ns, bk, hR⟩
  apply lb_of
  have hno := two_no (g := 4) hR (by omega)
  have hRc := hR
  obtain ⟨h1, h2, h3, h4, h5, h6, h7, h8, h9, h10⟩ := hRc
  have hns := h1.1.2.2.2.2
  have hnv := h1.1.2.2.1
  obtain ⟨u, p, q, p1, p2, p3, p4, p5, p6, p7, p8⟩ := h4
  by_cases hu : u = 0
  · have ex : x_Past_giveBack 38 X = some (false, X) := by
      unfold x_Past_giveBack
      rw [p1, hu, if_neg (by simp [w32_0])]
    unfold x_X_undo m_undo
    rw [ex, bnd2_some, p2, hu, if_neg (by simp)]
    rw [if_neg (by simp [w32_0])]
    have hx4 : (bnd2 (x_X_no 4 X) (fun r2 M2 => (if r2 = true then some (true, M2) else some (false, M2)))) = bnd2 (x_X_no ((4 : Nat) : Int) X) (fun r1 M1 => some (r1, M1)) := by
      rw [x_no (by omega), show x_X_no 4 X = _ from x_no (g := 4) (by omega)]
      rfl
    rw [hx4]
    exact hno
  · -- the last one
    obtain ⟨g1, g2⟩ := p8 (u - 1) (by omega)
    obtain ⟨sl, hsl⟩ : ∃ sl, sl = (p + 19) % 20 := ⟨_, rfl⟩
    have epX : pX p u (u - 1) = 66 + 13 * sl := by unfold pX; rw [hsl]; omega
    have epM : pM q (u - 1) = 2 + (q + (u - 1)) % 20 := rfl
    rw [epX, epM] at g1
    rw [epX] at g2
    obtain ⟨Ma, hMa⟩ : ∃ Ma, Ma = upM M 0 57 ((u - 1 : Nat) : Int) := ⟨_, rfl⟩
    have ea : ∀ a, a ≠ 0 → Ma a = M a := fun a ha => by rw [hMa, upM_row ha]
    have ea0 : ∀ j, j ≠ 57 → Ma 0 j = M 0 j := fun j h1 => by rw [hMa, up_i h1]
    obtain ⟨Xa, hXa⟩ : ∃ Xa, Xa = upM X 64 2 (sl : Int) := ⟨_, rfl⟩
    have xa : ∀ a, a ≠ 64 → Xa a = X a := fun a ha => by rw [hXa, upM_row ha]
    have hSa : RS nv ns (66 + 13 * sl) (2 + (q + (u - 1)) % 20) Xa Ma := RS_of g1 (fun a q1 q2 => xa a (by omega)) (fun a q1 q2 => ea a (by omega))
    have hIa : SI nv ns (66 + 13 * sl) Xa := SI_of g2 (fun a q1 q2 => xa a (by omega))
    obtain ⟨X1, M1, e1, e2, k1, k2, k3, k4, k5⟩ := sim_copy (th := 38) (o := 66 + 13 * sl) (to := 0) (fr := 2 + (q + (u - 1)) % 20) hnv hns hSa hIa (by omega) (by omega) (by omega) (by omega)
    have hx : x_Past_giveBack 38 X = some (true, upM X1 64 0 ((u - 1 : Nat) : Int)) := by
      have hB : x_Past_giveBack_B28 38 (sl : Int) X = some (true, upM X1 64 0 ((u - 1 : Nat) : Int)) := by
        unfold x_Past_giveBack_B28 chk
        simp (disch := omega) only [lt_eq, ← hXa]
        have c2 : Xa 64 2 = (sl : Int) := by rw [hXa, up_e]
        have c64 : X1 64 0 = (u : Int) := by rw [k3 64 (by omega), hXa, up_i (by omega)]; exact p1
        rw [c2]
        simp (disch := omega) only [w32_eq, if_neg, if_pos, Int.toNat_natCast]
        rw [e1, bnd_some, c64, show (u : Int) - 1 = ((u - 1 : Nat) : Int) by omega]
      unfold x_Past_giveBack
      rw [p1, p4]
      rw [if_pos (by rw [w32_eq (by omega) (by omega)]; omega)]
      by_cases e : p = 0
      · rw [if_pos (by rw [w32_eq (by omega) (by omega)]; omega)]
        rw [show (19 : Int) = (sl : Int) by omega]
        exact hB
      · rw [if_neg (by rw [w32_eq (by omega) (by omega)]; omega)]
        rw [show (p : Int) - 1 = (sl : Int) by omega]
        exact hB
    have hm : m_undo M = some (true, M1) := by
      have s0 : Ma 0 56 = (q : Int) := by rw [ea0 56 (by omega)]; exact p6
      have s1 : Ma 0 57 = ((u - 1 : Nat) : Int) := by rw [hMa, up_e]
      unfold m_undo
      rw [p2, if_pos (by rw [w32_eq (by omega) (by omega)]; omega)]
      simp only [lt_eq]
      rw [show (u : Int) - 1 = ((u - 1 : Nat) : Int) by omega, ← hMa]
      unfold m_slot chk
      rw [s0, s1]
      simp (disch := omega) only [w32_eq, if_pos, bnd_some]
      have e : (2 + ((q : Int) + ((u - 1 : Nat) : Int)).tmod 20) = ((2 + (q + (u - 1)) % 20 : Nat) : Int) := by
        rw [show (q : Int) + ((u - 1 : Nat) : Int) = ((q + (u - 1) : Nat) : Int) by omega]
        show 2 + (((q + (u - 1)) % 20 : Nat) : Int) = _
        omega
      rw [e, show m_copies 0 ((2 + (q + (u - 1)) % 20 : Nat) : Int) Ma = some M1 from e2, bnd_some]
    unfold x_X_undo
    rw [hx, hm, bnd2_some]
    simp only [↓reduceIte]
    obtain ⟨X2, hX2⟩ : ∃ X2, X2 = upM X1 64 0 ((u - 1 : Nat) : Int) := ⟨_, rfl⟩
    rw [← hX2]
    have x2 : ∀ a, a ≠ 64 → (a < 38 ∨ 50 < a) → X2 a = X a := fun a q1 q2 => by rw [hX2, upM_row q1, k3 a (by omega), xa a q1]
    have x21 : ∀ a, a ≠ 64 → X2 a = X1 a := fun a q1 => by rw [hX2, upM_row q1]
    have m2 : ∀ a i, a ≠ 0 → (a < 25 ∨ 39 < a ∨ (25 ≤ a ∧ a ≤ 36 ∧ lay a i ≠ 0)) → M1 a i = M a i := fun a i q1 q2 => by rw [k4 a i q2, ea a q1]
    have m20 : ∀ j, j ≠ 57 → M1 0 j = M 0 j := fun j q1 => by rw [k4 0 j (by omega), ea0 j q1]
    suffices hfin : RAll nv np ns bk k X2 M1 from two_some ⟨rfl, nv, np, ns, bk, RAll_up hfin⟩
    refine ⟨?_, ?_, ?_, ?_, ?_, ?_, ?_, ?_, ?_, ?_⟩
    · exact RT_of h1 (fun a q1 q2 q3 => x2 a (by omega) (by omega)) (m20 13 (by omega)) (fun a q1 q2 => by funext i; exact m2 a i (by omega) (by omega))
    · exact RS_of k1 (fun a q1 q2 => x21 a (by omega)) (fun _ _ _ => rfl)
    · exact SI_of k2 (fun a q1 q2 => x21 a (by omega))
    · refine ⟨u - 1, sl, q, ?_, ?_, by omega, ?_, by omega, ?_, p7, fun i hi => ?_⟩
      · show X2 64 0 = _
        rw [hX2, up_e]
      · show M1 0 57 = _
        rw [k4 0 57 (by omega), hMa, up_e]
      · show X2 64 2 = _
        rw [hX2, up_i (by omega), k3 64 (by omega), hXa, up_e]
      · show M1 0 56 = _
        rw [m20 56 (by omega)]; exact p6
      · obtain ⟨y1, y2⟩ := p8 i (by omega)
        have ex : pX sl (u - 1) i = pX p u i := by unfold pX; rw [hsl]; omega
        rw [ex]
        have e : ∀ a, pX p u i ≤ a → a ≤ pX p u i + 12 → X2 a = X a := fun a q1 q2 => by unfold pX at q1 q2; exact x2 a (by omega) (by omega)
        exact ⟨RS_g y1 hnv hns (SI_kept2 y2 hns).2 e (fun a i1 q1 q2 q3 => m2 a i1 (by omega) (by unfold pM at q3; omega)), SI_of y2 e⟩
    · exact RTape_of h5 (by rw [x2 1 (by omega) (by omega)]) (x2 2 (by omega) (by omega)) (m20 1 (by omega)) (by funext i; exact m2 1 i (by omega) (by omega))
    · exact RFault_of h6 (x2 3 (by omega) (by omega)) (m20 10 (by omega)) (m20 11 (by omega))
    · exact RRef_of h7 (x2 372 (by omega) (by omega)) (by funext i; exact m2 24 i (by omega) (by omega))
    · exact RSeed_of h8 (by rw [x2 0 (by omega) (by omega)]) (m20 58 (by omega))
    · exact RHeard_of h9 (by rw [x2 354 (by omega) (by omega)]) (x2 355 (by omega) (by omega)) (x2 356 (by omega) (by omega)) (x2 357 (by omega) (by omega)) (m20 63 (by omega)) (by funext i; exact m2 41 i (by omega) (by omega)) (by funext i; exact m2 42 i (by omega) (by omega)) (by funext i; exact m2 43 i (by omega) (by omega))
    · exact RPic_of h10 (by rw [x2 370 (by omega) (by omega)]) (x2 371 (by omega) (by omega)) (m20 69 (by omega)) (by funext i; exact m2 45 i (by omega) (by omega))
