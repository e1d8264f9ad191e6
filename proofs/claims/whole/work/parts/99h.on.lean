/-! THE PURE PART: on: the picture read -/
theorem sim_read {nv np ns bk : Nat} {X M : Mem} (hT : RT nv np ns bk X M) (hS : RS nv ns 38 0 X M) (hI : SI nv ns 38 X) (hb : ∀ j, j < 1600 → X 2 j = M 1 j ∧ 0 ≤ X 2 j ∧ X 2 j ≤ 255) (hl : X 1 1 = ((2 + 3 * nv + 7 * ns + 1 : Nat) : Int)) :
    two (x_Picture_read X) (m_comesOn (X 1 1) M) (fun p q => p.1 = q.1 ∧ FrX X p.2 ∧ FMt 1 M q.2 ∧ (p.1 = true → RS nv ns 51 1 p.2 q.2 ∧ SI nv ns 51 p.2)) := by
  have hns := hT.1.2.2.2.2
  have hnv := hT.1.2.2.1
  have h0 := hT.2.1.1
  have h2 := hT.2.1.2.2
  have tb := hT.1.1
  have tb2 := hT.1.2.1
  have m0 := hT.2.2.1.1
  have m2 := hT.2.2.1.2.2
  obtain ⟨n, hn⟩ : ∃ n : Nat, n = 2 + 3 * nv + 7 * ns := ⟨_, rfl⟩
  have hl1 : X 1 1 = (n : Int) + 1 := by rw [hl, hn]; omega
  have z0 := hb 0 (by omega)
  have z1 := hb 1 (by omega)
  have zn := hb n (by omega)
  obtain ⟨q1, hq1⟩ := Int.eq_ofNat_of_zero_le z0.2.1
  obtain ⟨q2, hq2⟩ := Int.eq_ofNat_of_zero_le z1.2.1
  have pr : or32 (shl32 (X 2 0) 8) (X 2 1) = ((256 * q1 + q2 : Nat) : Int) := by rw [hq1, hq2]; exact pair_small q1 (by omega) q2 (by omega)
  obtain ⟨D, hD⟩ : ∃ D, D = or32 (shl32 (X 2 0) 8) (X 2 1) := ⟨_, rfl⟩
  have dr : 0 ≤ D ∧ D ≤ 70000 := by rw [hD, pr]; omega
  have hDm : or32 (shl32 (M 1 0) 8) (M 1 1) = D := by rw [← z0.1, ← z1.1, hD]
  obtain ⟨⟨a, i⟩, ⟨a', i'⟩, e1, f1, haa, ha0, ha1⟩ := tape_seal (n := n) (v2 := 2 + 3 * (nv : Int)) (X := X) (M := M) (by omega) hb
  simp only at haa ha0 ha1
  subst haa
  have hse : x_Picture_sealOf 2 1600 (n : Int) X = some a := by unfold x_Picture_sealOf; rw [e1]; rfl
  obtain ⟨X1, r1, r2, r3, r4, r5, r6⟩ := x_reset (X := X) (th := 51) (by omega)
  have tT : 2 + 3 * (nv : Int) + 7 * (ns : Int) + 1 = (n : Int) + 1 := by omega
  have tn : (n : Int) + 1 - 1 = (n : Int) := by omega
  have fail : two (some (false, X)) (some (false, M)) (fun p q => p.1 = q.1 ∧ FrX X p.2 ∧ FMt 1 M q.2 ∧ (p.1 = true → RS nv ns 51 1 p.2 q.2 ∧ SI nv ns 51 p.2)) := two_some ⟨rfl, FrX_refl X, FMt_refl 1 M, fun q => (by cases q)⟩
  unfold x_Picture_read m_comesOn
  dsimp only [lt]
  rw [h0, h2, tb, Int.toNat_natCast, m0, m2, tT, tn, hl1, tn, Int.toNat_natCast, hDm]
  rw [hse, f1]
  simp only [bnd_some]
  have w1 : w32 ((n : Int) + 1) = (n : Int) + 1 := w32_eq (by omega) (by omega)
  by_cases hs : a = X 2 n
  · -- the reading place is set up, the minute taken
    obtain ⟨Xr, hXr⟩ : ∃ Xr, Xr = upM (upM X1 370 5 (1 + 1)) 370 6 0 := ⟨_, rfl⟩
    have rd0 : Rd (n + 1) 0 Xr := by
      subst hXr
      refine ⟨?_, ?_, ?_, by omega⟩
      · rw [up_i (by omega), up_e]; rfl
      · rw [up_e]; rfl
      · rw [up_k (by omega), up_k (by omega), r2 1 (by omega), hl1]; omega
    have xr2 : Xr 2 = X 2 := by subst hXr; rw [upM_row (by omega), upM_row (by omega), r2 2 (by omega)]
    obtain ⟨Xa, c1, c2, c3, c4⟩ := x_takes rd0 (by omega)
    obtain ⟨Xb, d1, d2, d3, d4⟩ := x_takes c2 (by omega)
    rw [xr2] at c1
    rw [c3 2 (by omega), xr2] at d1
    have hp : x_Picture_takePair Xr = some (D, Xb) := by
      unfold x_Picture_takePair
      rw [c1, bnd2_some, d1, bnd2_some, hD]
    have rdb : Rd (n + 1) (2 + 3 * 0) (upM Xb 51 13 D) := Rd_up d2 (by omega) (by omega)
    have frb : FrX X (upM Xb 51 13 D) := by
      refine ⟨fun a y1 y2 => ?_, fun j y1 y2 => ?_⟩
      · rw [upM_row (by omega), d3 a y2, c3 a y2, hXr, upM_row y2, upM_row y2, r2 a (by omega)]
      · rw [upM_row (by omega), d4 j y2, c4 j y2, hXr, up_i y2, up_i y1, r2 370 (by omega)]
    by_cases hd : D ≤ 999
    · obtain ⟨Xf, M2, -, g2, -, -, -, g9, -⟩ := sim_copy (th := 51) (o := 38) (to := 1) (fr := 0) hnv hns hS hI (by omega) (by omega) (by omega) (by omega)
      have g2 : m_copies 1 0 M = some M2 := g2
      have mt1 : M2 1 = M 1 := by funext i; exact g9 1 i (by omega)
      obtain ⟨Mt, hMt⟩ : ∃ Mt, Mt = upM (upM (upM (upM M2 25 1 D) 28 1 0) 34 1 0) 35 1 0 := ⟨_, rfl⟩
      have hmt : FMt 1 M Mt := by
        rw [hMt]
        exact FMt_trans g9 (FMt_trans (FMt_trans (FMt_trans (FMt_up ⟨by omega, by omega, fun _ => lay1 (by omega)⟩) (FMt_up ⟨by omega, by omega, fun _ => lay1 (by omega)⟩)) (FMt_up ⟨by omega, by omega, fun _ => lay1 (by omega)⟩)) (FMt_up ⟨by omega, by omega, fun _ => lay1 (by omega)⟩))
      have t25 : Mt 25 1 = D := by rw [hMt]; simp (disch := omega) only [up_k, up_e]
      have t28 : Mt 28 1 = 0 := by rw [hMt]; simp (disch := omega) only [up_k, up_e]
      have t34 : Mt 34 1 = 0 := by rw [hMt]; simp (disch := omega) only [up_k, up_e]
      have t35 : Mt 35 1 = 0 := by rw [hMt]; simp (disch := omega) only [up_k, up_e]
      have xb : ∀ a, a ≠ 370 → Xb a = X1 a := fun a y2 => by rw [d3 a y2, c3 a y2, hXr, upM_row y2, upM_row y2]
      obtain ⟨st1, st2⟩ := RS_start (nv := nv) (ns := ns) (X := X) (X1 := upM Xb 51 13 D) (M1 := Mt) (fun j hj => by rw [upM_row (by omega), xb 55 (by omega)]; exact (r4 j hj).1) t28 t34
      obtain ⟨⟨g, j, X3⟩, qv, v1, v1', v2, v3, v4, v5⟩ := sim_vs (v2 := 2 + 3 * (nv : Int)) (L := n + 1) hT hb (by omega) (by omega) nv 0 (upM Xb 51 13 D) Mt FUEL FUEL (by omega) (fuel_lt (by omega)) (fuel_lt (by omega)) rdb frb hmt st1
      simp only at v2 v3 v4 v5
      repeat' (first | with_reducible refine two_lt_r ?_ | (with_reducible refine two_chk_r ?_ ?_; focus ((try simp (disch := omega) only [Bool.false_eq_true, not_true_eq_false, not_false_eq_true, Nat.reduceAdd, Nat.reduceMul, w32_eq, w64_eq, lc_eq, lc_lt, lc_le, lc_gt, lc_ge, up_k, up_i, up_e, Int.toNat_natCast, tn7, tn8, tn12, tn3, tn120, tn1600, w32_and, w32_or, w32_xor, w32_shl, w32_shr, has2_eq]) <;> omega)) | (with_reducible refine two_ite_r (fun hcr => ?_) (fun hcr => ?_) <;> (try simp (disch := omega) only [Bool.false_eq_true, not_true_eq_false, not_false_eq_true, Nat.reduceAdd, Nat.reduceMul, w32_eq, w64_eq, lc_eq, lc_lt, lc_le, lc_gt, lc_ge, up_k, up_i, up_e, Int.toNat_natCast, tn7, tn8, tn12, tn3, tn120, tn1600, w32_and, w32_or, w32_xor, w32_shl, w32_shr, has2_eq] at hcr) <;> (try (exfalso; first | omega | exact hcr rfl | exact hcr trivial | contradiction))))
      repeat' (first | with_reducible refine two_lt_l ?_ | (with_reducible refine two_chk_l ?_ ?_; focus ((try simp (disch := omega) only [Bool.false_eq_true, not_true_eq_false, not_false_eq_true, Nat.reduceAdd, Nat.reduceMul, w32_eq, w64_eq, lc_eq, lc_lt, lc_le, lc_gt, lc_ge, up_k, up_i, up_e, Int.toNat_natCast, tn7, tn8, tn12, tn3, tn120, tn1600, w32_and, w32_or, w32_xor, w32_shl, w32_shr, has2_eq, ← hs]) <;> omega)) | (with_reducible refine two_ite_l (fun hcl => ?_) (fun hcl => ?_) <;> (try simp (disch := omega) only [Bool.false_eq_true, not_true_eq_false, not_false_eq_true, Nat.reduceAdd, Nat.reduceMul, w32_eq, w64_eq, lc_eq, lc_lt, lc_le, lc_gt, lc_ge, up_k, up_i, up_e, Int.toNat_natCast, tn7, tn8, tn12, tn3, tn120, tn1600, w32_and, w32_or, w32_xor, w32_shl, w32_shr, has2_eq, ← hs] at hcl) <;> (try (exfalso; first | omega | exact hcl rfl | exact hcl trivial | contradiction))))
      refine two_bnd_l r1 ?_
      rw [← hXr]
      refine two_bnd2_l hp ?_
      rw [up_e]
      repeat' (first | with_reducible refine two_lt_l ?_ | (with_reducible refine two_chk_l ?_ ?_; focus ((try simp (disch := omega) only [Bool.false_eq_true, not_true_eq_false, not_false_eq_true, Nat.reduceAdd, Nat.reduceMul, w32_eq, w64_eq, lc_eq, lc_lt, lc_le, lc_gt, lc_ge, up_k, up_i, up_e, Int.toNat_natCast, tn7, tn8, tn12, tn3, tn120, tn1600, w32_and, w32_or, w32_xor, w32_shl, w32_shr, has2_eq]) <;> omega)) | (with_reducible refine two_ite_l (fun hcl => ?_) (fun hcl => ?_) <;> (try simp (disch := omega) only [Bool.false_eq_true, not_true_eq_false, not_false_eq_true, Nat.reduceAdd, Nat.reduceMul, w32_eq, w64_eq, lc_eq, lc_lt, lc_le, lc_gt, lc_ge, up_k, up_i, up_e, Int.toNat_natCast, tn7, tn8, tn12, tn3, tn120, tn1600, w32_and, w32_or, w32_xor, w32_shl, w32_shr, has2_eq] at hcl) <;> (try (exfalso; first | omega | exact hcl rfl | exact hcl trivial | contradiction))))
      unfold x_Picture_read_B113
      refine two_bnd_l v1 ?_
      repeat' (first | with_reducible refine two_lt_r ?_ | (with_reducible refine two_chk_r ?_ ?_; focus ((try simp (disch := omega) only [Bool.false_eq_true, not_true_eq_false, not_false_eq_true, Nat.reduceAdd, Nat.reduceMul, w32_eq, w64_eq, lc_eq, lc_lt, lc_le, lc_gt, lc_ge, up_k, up_i, up_e, Int.toNat_natCast, tn7, tn8, tn12, tn3, tn120, tn1600, w32_and, w32_or, w32_xor, w32_shl, w32_shr, has2_eq, ← zn.1, ← hs]) <;> omega)) | (with_reducible refine two_ite_r (fun hcr => ?_) (fun hcr => ?_) <;> (try simp (disch := omega) only [Bool.false_eq_true, not_true_eq_false, not_false_eq_true, Nat.reduceAdd, Nat.reduceMul, w32_eq, w64_eq, lc_eq, lc_lt, lc_le, lc_gt, lc_ge, up_k, up_i, up_e, Int.toNat_natCast, tn7, tn8, tn12, tn3, tn120, tn1600, w32_and, w32_or, w32_xor, w32_shl, w32_shr, has2_eq, ← zn.1, ← hs] at hcr) <;> (try (exfalso; first | omega | exact hcr rfl | exact hcr trivial | contradiction))))
      refine two_bnd_r g2 ?_
      rw [mt1, hDm, ← hMt]
      refine two_bnd_r v1' ?_
      rcases v5 with ⟨hg, u, M3, hq, k1, k2, k3⟩ | ⟨hg, M3, hq, k1⟩
      · subst hg
        subst hq
        have x55 : ∀ s, s < 12 → X3 55 s = 0 := fun s hs => by rw [v4 55 (by omega) (by omega), upM_row (by omega), xb 55 (by omega)]; exact (r4 s hs).1
        have m34 : M3 34 1 = 0 := by rw [k2 34 (by omega)]; exact t34
        have st3 : RSs nv ns 0 X X3 M3 := ⟨fun s hs => by omega, fun s hs => by omega, fun s hs => by omega, fun s t hs => by omega, fun s _ hs => x55 s hs, by omega, by rw [m34]; decide⟩
        obtain ⟨⟨g', j', X4⟩, qs, w1, w1', w2, w3⟩ := sim_ss (v2 := 2 + 3 * (nv : Int)) (L := n + 1) hT hb (by omega) (by omega) (by omega) ns 0 X3 M3 FUEL FUEL (by omega) (fuel_lt (by omega)) (fuel_lt (by omega)) v2 v3 k1 k3 st3
        simp only at w2 w3
        simp only
        refine two_bnd_l w1 ?_
        refine two_bnd_r w1' ?_
        rcases w3 with ⟨hg', u', M4, hq', n1, n2, n3, n4, n5, n6⟩ | ⟨hg', M4, hq', n1⟩
        · subst hg'
          subst hq'
          have x51 : X4 51 = (upM Xb 51 13 D) 51 := by rw [n4, v4 51 (by omega) (by omega)]
          have tr := RS_trial hnv hns n2 n3 (by rw [x51, up_i (by omega), xb 51 (by omega)]; exact r5) (by rw [n6, k2 35 (by omega)]; exact t35) (by rw [n5, k2 25 (by omega), t25, x51, up_e]) (by rw [x51, up_e]; omega)
          refine two_chk_l (by omega) ?_
          exact two_some ⟨rfl, w2, n1, fun _ => tr⟩
        · subst hg'
          subst hq'
          refine two_chk_l (by omega) ?_
          exact two_some ⟨rfl, w2, n1, fun q => (by cases q)⟩
      · subst hg
        subst hq
        obtain ⟨⟨g', j', X4⟩, y1, y2, y3⟩ := x_says0 hT (fun j hj => (hb j hj).2) (L := n + 1) (by omega) ns 0 X3 FUEL (by omega) (fuel_lt (by omega)) v2 v3
        simp only at y2 y3
        subst y2
        simp only
        refine two_bnd_l y1 ?_
        refine two_chk_l (by omega) ?_
        exact two_some ⟨rfl, y3, k1, fun q => (by cases q)⟩
    · obtain ⟨⟨g, j, X3⟩, v1, v2, v3, v4, v5⟩ := x_voices0 (L := n + 1) hnv h0 (fun j hj => (hb j hj).2) (by omega) nv 0 (upM Xb 51 13 D) FUEL (by omega) (fuel_lt (by omega)) rdb frb
      simp only at v2 v3 v4
      subst v2
      obtain ⟨⟨g', j', X4⟩, y1, y2, y3⟩ := x_says0 hT (fun j hj => (hb j hj).2) (L := n + 1) (by omega) ns 0 X3 FUEL (by omega) (fuel_lt (by omega)) v3 v4
      simp only at y2 y3
      subst y2
      repeat' (first | with_reducible refine two_lt_r ?_ | (with_reducible refine two_chk_r ?_ ?_; focus ((try simp (disch := omega) only [Bool.false_eq_true, not_true_eq_false, not_false_eq_true, Nat.reduceAdd, Nat.reduceMul, w32_eq, w64_eq, lc_eq, lc_lt, lc_le, lc_gt, lc_ge, up_k, up_i, up_e, Int.toNat_natCast, tn7, tn8, tn12, tn3, tn120, tn1600, w32_and, w32_or, w32_xor, w32_shl, w32_shr, has2_eq]) <;> omega)) | (with_reducible refine two_ite_r (fun hcr => ?_) (fun hcr => ?_) <;> (try simp (disch := omega) only [Bool.false_eq_true, not_true_eq_false, not_false_eq_true, Nat.reduceAdd, Nat.reduceMul, w32_eq, w64_eq, lc_eq, lc_lt, lc_le, lc_gt, lc_ge, up_k, up_i, up_e, Int.toNat_natCast, tn7, tn8, tn12, tn3, tn120, tn1600, w32_and, w32_or, w32_xor, w32_shl, w32_shr, has2_eq] at hcr) <;> (try (exfalso; first | omega | exact hcr rfl | exact hcr trivial | contradiction))))
      repeat' (first | with_reducible refine two_lt_l ?_ | (with_reducible refine two_chk_l ?_ ?_; focus ((try simp (disch := omega) only [Bool.false_eq_true, not_true_eq_false, not_false_eq_true, Nat.reduceAdd, Nat.reduceMul, w32_eq, w64_eq, lc_eq, lc_lt, lc_le, lc_gt, lc_ge, up_k, up_i, up_e, Int.toNat_natCast, tn7, tn8, tn12, tn3, tn120, tn1600, w32_and, w32_or, w32_xor, w32_shl, w32_shr, has2_eq, ← hs]) <;> omega)) | (with_reducible refine two_ite_l (fun hcl => ?_) (fun hcl => ?_) <;> (try simp (disch := omega) only [Bool.false_eq_true, not_true_eq_false, not_false_eq_true, Nat.reduceAdd, Nat.reduceMul, w32_eq, w64_eq, lc_eq, lc_lt, lc_le, lc_gt, lc_ge, up_k, up_i, up_e, Int.toNat_natCast, tn7, tn8, tn12, tn3, tn120, tn1600, w32_and, w32_or, w32_xor, w32_shl, w32_shr, has2_eq, ← hs] at hcl) <;> (try (exfalso; first | omega | exact hcl rfl | exact hcl trivial | contradiction))))
      refine two_bnd_l r1 ?_
      rw [← hXr]
      refine two_bnd2_l hp ?_
      rw [up_e]
      repeat' (first | with_reducible refine two_lt_l ?_ | (with_reducible refine two_chk_l ?_ ?_; focus ((try simp (disch := omega) only [Bool.false_eq_true, not_true_eq_false, not_false_eq_true, Nat.reduceAdd, Nat.reduceMul, w32_eq, w64_eq, lc_eq, lc_lt, lc_le, lc_gt, lc_ge, up_k, up_i, up_e, Int.toNat_natCast, tn7, tn8, tn12, tn3, tn120, tn1600, w32_and, w32_or, w32_xor, w32_shl, w32_shr, has2_eq]) <;> omega)) | (with_reducible refine two_ite_l (fun hcl => ?_) (fun hcl => ?_) <;> (try simp (disch := omega) only [Bool.false_eq_true, not_true_eq_false, not_false_eq_true, Nat.reduceAdd, Nat.reduceMul, w32_eq, w64_eq, lc_eq, lc_lt, lc_le, lc_gt, lc_ge, up_k, up_i, up_e, Int.toNat_natCast, tn7, tn8, tn12, tn3, tn120, tn1600, w32_and, w32_or, w32_xor, w32_shl, w32_shr, has2_eq] at hcl) <;> (try (exfalso; first | omega | exact hcl rfl | exact hcl trivial | contradiction))))
      unfold x_Picture_read_B113
      refine two_bnd_l v1 ?_
      refine two_bnd_l y1 ?_
      refine two_chk_l (by omega) ?_
      exact two_some ⟨rfl, y3, FMt_refl 1 M, fun q => (by cases q)⟩
  · repeat' (first | with_reducible refine two_lt_l ?_ | (with_reducible refine two_chk_l ?_ ?_; focus ((try simp (disch := omega) only [Bool.false_eq_true, not_true_eq_false, not_false_eq_true, Nat.reduceAdd, Nat.reduceMul, w32_eq, w64_eq, lc_eq, lc_lt, lc_le, lc_gt, lc_ge, up_k, up_i, up_e, Int.toNat_natCast, tn7, tn8, tn12, tn3, tn120, tn1600, w32_and, w32_or, w32_xor, w32_shl, w32_shr, has2_eq]) <;> omega)) | (with_reducible refine two_ite_l (fun hcl => ?_) (fun hcl => ?_) <;> (try simp (disch := omega) only [Bool.false_eq_true, not_true_eq_false, not_false_eq_true, Nat.reduceAdd, Nat.reduceMul, w32_eq, w64_eq, lc_eq, lc_lt, lc_le, lc_gt, lc_ge, up_k, up_i, up_e, Int.toNat_natCast, tn7, tn8, tn12, tn3, tn120, tn1600, w32_and, w32_or, w32_xor, w32_shl, w32_shr, has2_eq] at hcl) <;> (try (exfalso; first | omega | exact hcl rfl | exact hcl trivial | contradiction))))
    repeat' (first | with_reducible refine two_lt_r ?_ | (with_reducible refine two_chk_r ?_ ?_; focus ((try simp (disch := omega) only [Bool.false_eq_true, not_true_eq_false, not_false_eq_true, Nat.reduceAdd, Nat.reduceMul, w32_eq, w64_eq, lc_eq, lc_lt, lc_le, lc_gt, lc_ge, up_k, up_i, up_e, Int.toNat_natCast, tn7, tn8, tn12, tn3, tn120, tn1600, w32_and, w32_or, w32_xor, w32_shl, w32_shr, has2_eq, ← zn.1]) <;> omega)) | (with_reducible refine two_ite_r (fun hcr => ?_) (fun hcr => ?_) <;> (try simp (disch := omega) only [Bool.false_eq_true, not_true_eq_false, not_false_eq_true, Nat.reduceAdd, Nat.reduceMul, w32_eq, w64_eq, lc_eq, lc_lt, lc_le, lc_gt, lc_ge, up_k, up_i, up_e, Int.toNat_natCast, tn7, tn8, tn12, tn3, tn120, tn1600, w32_and, w32_or, w32_xor, w32_shl, w32_shr, has2_eq, ← zn.1] at hcr) <;> (try (exfalso; first | omega | exact hcr rfl | exact hcr trivial | contradiction))))
    all_goals exact fail
