/-! THE PURE PART: minutes, chance -/
theorem all_same {nv np ns bk : Nat} {X M : Mem} (hT : RT nv np ns bk X M) : m_all M = some (((2 ^ nv : Nat) : Int) - 1) := m_all_eq hT
theorem PassInv_now {nv np ns bk k c h d : Nat} {X M X1 M1 : Mem} (hR : RAll nv np ns bk k X M) (hp : PassInv nv ns 38 0 c h d X M X1 M1) : RAll nv np ns bk k X1 M1 := RAll_now hR hp.2.2.1 hp.2.2.2.1 hp.1 hp.2.1
theorem ls_minutes : LS_minutes RR := by
  rintro k X0 M0 a1 hk h1 ⟨nv, np, ns, bk, hR0⟩
  apply ls_of
  unfold i32 at h1
  have hno := two_none (g := 2) hR0 (by omega)
  obtain ⟨e2, f2⟩ := xm_comes (b := 1) (c := 60) hR0 h1 (by omega) (by omega)
  unfold x_X_minutes m_minutes
  refine two_bnd_l e2 ?_
  refine two_bnd_r f2 ?_
  by_cases c2 : 1 ≤ a1 ∧ a1 ≤ 60 ∧ X0 38 13 + a1 ≤ 999
  · simp only [decide_eq_true c2, ↓reduceIte]
    obtain ⟨n, rfl⟩ := Int.eq_ofNat_of_zero_le (show 0 ≤ a1 by omega)
    refine two_bnd (sim_keep hR0) ?_
    rintro X M ⟨hR, g2, g3, g4⟩
    have h13 : X 38 13 = X0 38 13 := by rw [g2 38 (by omega) (by omega)]
    have hT := hR.1
    have hns := hT.1.2.2.2.2
    have hnv := hT.1.2.2.1
    refine two_bnd_r (m_many (v := 0) hT hR.2.1 hR.2.2.1 (by omega) (by omega) (by omega)) ?_
    have hc3 : cnt (fun s => decide (X (38 + 4) s = 3 ∨ X (38 + 4) s = 3)) ns = cw ns 38 X 3 := cnt_ext (fun j hj => by simp)
    rw [hc3]
    unfold x_State_pass
    rw [bnd2_id]
    refine two_bnd (two_itr32 (fun m a i X1 j M1 => ∃ c h d : Nat, a = (d : Int) ∧ d ≤ 12 * c ∧ i = (c : Int) ∧ j = (c : Int) ∧ m = n - c ∧ c ≤ n ∧ PassInv nv ns 38 0 c h d X M X1 M1) (fun p q => ∃ h d : Nat, p.1 = (d : Int) ∧ d ≤ 12 * n ∧ PassInv nv ns 38 0 n h d X M p.2.2 q.2) ?_ FUEL n 0 0 X 0 M (fuel_lt (by omega)) ⟨0, 0, 0, rfl, by omega, rfl, rfl, rfl, by omega, hR.2.1, hR.2.2.1, FXt_refl _ _, FMt_refl _ _, Sem_refl, by simp⟩) ?_
    · rintro m a i X1 j M1 ⟨c, h, d, rfl, hd, rfl, rfl, rfl, hc, hp⟩ F G ih
      unfold x_State_pass_L4 m_minutes_L31
      by_cases hcn : c < n
      · have hp' := hp
        obtain ⟨p1, p2, p3, p4, p5, p6⟩ := hp'
        have hT1 := RT_t hT (th := 38) (by omega) p3 p4
        obtain ⟨h1, d1, Xm, X2, M2, e1, e2, e3, ht⟩ := sim_tick (v := 0) hT1 p1 p2 (by omega) (by omega) (same_all hnv) (by omega)
        have hd1 : d1 ≤ ns := ht.2.2.2.2.2.2.2.2.2.2
        repeat' (first | with_reducible refine two_lt_l ?_ | (with_reducible refine two_chk_l ?_ ?_; focus ((try simp (disch := omega) only [Bool.false_eq_true, not_true_eq_false, not_false_eq_true, Nat.reduceAdd, Nat.reduceMul, w32_eq, w64_eq, lc_eq, lc_lt, lc_le, lc_gt, lc_ge, up_k, up_i, up_e, Int.toNat_natCast, tn7, tn8, tn12, tn3, tn120, tn1600, w32_and, w32_or, w32_xor, w32_shl, w32_shr, has2_eq]) <;> omega)) | (with_reducible refine two_ite_l (fun hcl => ?_) (fun hcl => ?_) <;> (try simp (disch := omega) only [Bool.false_eq_true, not_true_eq_false, not_false_eq_true, Nat.reduceAdd, Nat.reduceMul, w32_eq, w64_eq, lc_eq, lc_lt, lc_le, lc_gt, lc_ge, up_k, up_i, up_e, Int.toNat_natCast, tn7, tn8, tn12, tn3, tn120, tn1600, w32_and, w32_or, w32_xor, w32_shl, w32_shr, has2_eq] at hcl) <;> (try (exfalso; first | omega | exact hcl rfl | exact hcl trivial | contradiction))))
        repeat' (first | with_reducible refine two_lt_r ?_ | (with_reducible refine two_chk_r ?_ ?_; focus ((try simp (disch := omega) only [Bool.false_eq_true, not_true_eq_false, not_false_eq_true, Nat.reduceAdd, Nat.reduceMul, w32_eq, w64_eq, lc_eq, lc_lt, lc_le, lc_gt, lc_ge, up_k, up_i, up_e, Int.toNat_natCast, tn7, tn8, tn12, tn3, tn120, tn1600, w32_and, w32_or, w32_xor, w32_shl, w32_shr, has2_eq]) <;> omega)) | (with_reducible refine two_ite_r (fun hcr => ?_) (fun hcr => ?_) <;> (try simp (disch := omega) only [Bool.false_eq_true, not_true_eq_false, not_false_eq_true, Nat.reduceAdd, Nat.reduceMul, w32_eq, w64_eq, lc_eq, lc_lt, lc_le, lc_gt, lc_ge, up_k, up_i, up_e, Int.toNat_natCast, tn7, tn8, tn12, tn3, tn120, tn1600, w32_and, w32_or, w32_xor, w32_shl, w32_shr, has2_eq] at hcr) <;> (try (exfalso; first | omega | exact hcr rfl | exact hcr trivial | contradiction))))
        refine two_bnd_r (m_all_eq hT1) ?_
        refine two_bnd2_l e1 ?_
        refine two_bnd2_l e2 ?_
        refine two_bnd_r e3 ?_
        exact ih (n - (c + 1)) _ _ _ _ _ (by omega) ⟨c + 1, h + h1, d + d1, by omega, by omega, rfl, rfl, rfl, by omega, PassInv_step hp ht⟩
      · have : c = n := by omega
        subst this
        repeat' (first | with_reducible refine two_lt_l ?_ | (with_reducible refine two_chk_l ?_ ?_; focus ((try simp (disch := omega) only [Bool.false_eq_true, not_true_eq_false, not_false_eq_true, Nat.reduceAdd, Nat.reduceMul, w32_eq, w64_eq, lc_eq, lc_lt, lc_le, lc_gt, lc_ge, up_k, up_i, up_e, Int.toNat_natCast, tn7, tn8, tn12, tn3, tn120, tn1600, w32_and, w32_or, w32_xor, w32_shl, w32_shr, has2_eq]) <;> omega)) | (with_reducible refine two_ite_l (fun hcl => ?_) (fun hcl => ?_) <;> (try simp (disch := omega) only [Bool.false_eq_true, not_true_eq_false, not_false_eq_true, Nat.reduceAdd, Nat.reduceMul, w32_eq, w64_eq, lc_eq, lc_lt, lc_le, lc_gt, lc_ge, up_k, up_i, up_e, Int.toNat_natCast, tn7, tn8, tn12, tn3, tn120, tn1600, w32_and, w32_or, w32_xor, w32_shl, w32_shr, has2_eq] at hcl) <;> (try (exfalso; first | omega | exact hcl rfl | exact hcl trivial | contradiction))))
        repeat' (first | with_reducible refine two_lt_r ?_ | (with_reducible refine two_chk_r ?_ ?_; focus ((try simp (disch := omega) only [Bool.false_eq_true, not_true_eq_false, not_false_eq_true, Nat.reduceAdd, Nat.reduceMul, w32_eq, w64_eq, lc_eq, lc_lt, lc_le, lc_gt, lc_ge, up_k, up_i, up_e, Int.toNat_natCast, tn7, tn8, tn12, tn3, tn120, tn1600, w32_and, w32_or, w32_xor, w32_shl, w32_shr, has2_eq]) <;> omega)) | (with_reducible refine two_ite_r (fun hcr => ?_) (fun hcr => ?_) <;> (try simp (disch := omega) only [Bool.false_eq_true, not_true_eq_false, not_false_eq_true, Nat.reduceAdd, Nat.reduceMul, w32_eq, w64_eq, lc_eq, lc_lt, lc_le, lc_gt, lc_ge, up_k, up_i, up_e, Int.toNat_natCast, tn7, tn8, tn12, tn3, tn120, tn1600, w32_and, w32_or, w32_xor, w32_shl, w32_shr, has2_eq] at hcr) <;> (try (exfalso; first | omega | exact hcr rfl | exact hcr trivial | contradiction))))
        exact two_some ⟨h, d, rfl, hd, hp⟩
    · rintro ⟨a, i, X1⟩ ⟨j, M1⟩ ⟨h, d, q1, q2, hp⟩
      simp only at q1 hp ⊢
      have hR1 := PassInv_now hR hp
      refine two_bnd_r (m_many (v := 0) hR1.1 hp.1 hp.2.1 (by omega) (by omega) (by omega)) ?_
      have hc31 : cnt (fun s => decide (X1 (38 + 4) s = 3 ∨ X1 (38 + 4) s = 3)) ns = cw ns 38 X1 3 := cnt_ext (fun j hj => by simp)
      rw [hc31, hp.2.2.2.2.1.2.2.1, q1]
      refine two_some ⟨?_, nv, np, ns, bk, RAll_up hR1⟩
      rw [show ((cw ns 38 X 3 + d : Nat) : Int) - (cw ns 38 X 3 : Int) = (d : Int) by omega]
  · simp only [decide_eq_false c2, Bool.false_eq_true, ↓reduceIte]
    exact hno
theorem and64_nat {n m : Nat} (hn : n < 9223372036854775808) : and64 (n : Int) (m : Int) = ((n &&& m : Nat) : Int) := by
  unfold and64
  rw [Int64.ofInt_eq_ofNat, Int64.ofInt_eq_ofNat]
  have e : Int64.ofNat n &&& Int64.ofNat m = Int64.ofNat (n &&& m) := by
    apply Int64.toBitVec_inj.mp
    rw [Int64.toBitVec_and]
    exact (BitVec.ofNat_and).symm
  rw [e, Int64.toInt_ofNat_of_lt]
  have := Nat.and_le_left (n := n) (m := m)
  omega
/-- the next seed -/
def nxs (n : Nat) : Nat := (1103515245 * n + 12345) % 2147483648
theorem sim_draw {nv np ns bk k m : Nat} {X M : Mem} (hR : RAll nv np ns bk k X M) (hm : 1 ≤ m ∧ m ≤ 100) : ∃ (r : Nat) (X1 M1 : Mem), x_X_draw (m : Int) X = some ((r : Int), X1) ∧ m_draw (m : Int) M = some ((r : Int), M1) ∧ r < m ∧ RAll nv np ns bk k X1 M1 ∧ (∀ a, a ≠ 0 → X1 a = X a) ∧ (∀ a, a ≠ 0 → M1 a = M a) := by
  obtain ⟨s1, s2, s3⟩ := hR.2.2.2.2.2.2.2.1
  obtain ⟨n, hn⟩ := Int.eq_ofNat_of_zero_le s2
  have hnb : n < 2147483648 := by omega
  have hx1 : nxs n < 2147483648 := Nat.mod_lt _ (by omega)
  refine ⟨(nxs n / 64) % m, upM X 0 10 (nxs n : Int), upM M 0 58 (nxs n : Int), ?_, ?_, Nat.mod_lt _ (by omega), RAll_seed hR (by omega), fun a ha => upM_row ha, fun a ha => upM_row ha⟩
  · unfold x_X_draw chk
    have e : and64 (1103515245 * (w32 (X 0 10)) + 12345) 2147483647 = (nxs n : Int) := by
      rw [hn, w32_eq (by omega) (by omega), show (1103515245 * (n : Int) + 12345) = ((1103515245 * n + 12345 : Nat) : Int) by omega]
      rw [show (2147483647 : Int) = ((2147483647 : Nat) : Int) from rfl, and64_nat (by omega)]
      have h : (1103515245 * n + 12345) &&& 2147483647 = (1103515245 * n + 12345) % 2147483648 := Nat.and_two_pow_sub_one_eq_mod _ 31
      rw [h]
      rfl
    simp only [lt_eq]
    rw [e]
    simp (disch := omega) only [up_e, w32_eq, if_neg, if_pos]
    have e6 := shr32_nat (n := nxs n) (k := 6) (by omega) (by omega)
    rw [show ((6 : Nat) : Int) = 6 from rfl] at e6
    rw [e6, w32_eq (by have := Nat.shiftRight_le (nxs n) 6; omega) (by have := Nat.shiftRight_le (nxs n) 6; omega), Nat.shiftRight_eq_div_pow]
    rfl
  · unfold m_draw chk
    rw [← s1, hn]
    rw [if_pos (by decide)]
    have e : ((w64 (1103515245 * (n : Int) + 12345)).tmod (w64 2147483648)) = (nxs n : Int) := by
      rw [w64_eq (by omega) (by omega), w64_eq (by omega) (by omega), show (1103515245 * (n : Int) + 12345) = ((1103515245 * n + 12345 : Nat) : Int) by omega]
      rfl
    simp only [lt_eq, e, up_e]
    rw [if_pos (by decide), w32_eq (x := (m : Int)) (by omega) (by omega), w64_eq (x := (m : Int)) (by omega) (by omega), if_pos (by omega)]
    have e2 : (w64 (nxs n : Int)).tdiv (w64 64) = ((nxs n / 64 : Nat) : Int) := by
      rw [w64_eq (by omega) (by omega), w64_eq (by omega) (by omega)]
      rfl
    rw [e2, w64_eq (by have := Nat.div_le_self (nxs n) 64; omega) (by have := Nat.div_le_self (nxs n) 64; omega)]
    rfl
theorem stroke_both {nv np ns bk k : Nat} {X M : Mem} (hR : RAll nv np ns bk k X M) (f : Int → Mem → Option (Int × Int × Mem)) (v1 v2 v3 : Int) (F : Int → Int → Mem → Option (Int × Int × Mem)) (n : Nat) (hv1 : v1 = n) (c : Nat) (hv3 : v3 = c) (hcn : c < n) (hn : n ≤ 60) (st : Nat) (hv2 : v2 = st) (hst : st ≤ 60) {Q : Int × Int × Mem → Int × Int × Mem → Prop}
    (hend : ∀ (s : Nat) X1 M1, s ≤ 1 → RAll nv np ns bk k X1 M1 → X1 38 13 = X 38 13 → two (f s X1) (m_chance_L25_B118 F v1 ((st + s : Nat) : Int) v3 M1) Q) :
    two (bnd2 (x_X_strokeByDraw X) f) (m_chance_L25 v1 F v2 v3 M) Q := by
  subst hv1 hv3 hv2
  have hT := hR.1
  obtain ⟨r, X1, M1, d1, d2, d3, hR1, d4, d5⟩ := sim_draw (m := 100) hR (by omega)
  obtain ⟨⟨tb, tb2, tnv, tnp, tns⟩, ⟨x0, x1, x2⟩, ⟨m0, m1, m2⟩, ⟨t3, t3a, t3b⟩, -⟩ := hR1.1
  have e13 : X1 38 13 = X 38 13 := by rw [d4 38 (by omega)]
  have hs0 : X1 23 3 = M1 11 bk := t3.symm
  have fin0 : ∀ X2 M2, RAll nv np ns bk k X2 M2 → X2 38 13 = X 38 13 → two (f 0 X2) (m_chance_L25_B118 F (n : Int) (st : Int) (c : Int) M2) Q := fun X2 M2 h1 h2 => by
    have := hend 0 X2 M2 (by omega) h1 h2
    simpa using this
  unfold x_X_strokeByDraw m_chance_L25
  rw [bnd2_bnd2]
  repeat' (first | with_reducible refine two_lt_r ?_ | (with_reducible refine two_chk_r ?_ ?_; focus ((try simp (disch := omega) only [Bool.false_eq_true, not_true_eq_false, not_false_eq_true, Nat.reduceAdd, Nat.reduceMul, w32_eq, w64_eq, lc_eq, lc_lt, lc_le, lc_gt, lc_ge, up_k, up_i, up_e, Int.toNat_natCast, tn7, tn8, tn12, tn3, tn120, tn1600, w32_and, w32_or, w32_xor, w32_shl, w32_shr, has2_eq]) <;> omega)) | (with_reducible refine two_ite_r (fun hcr => ?_) (fun hcr => ?_) <;> (try simp (disch := omega) only [Bool.false_eq_true, not_true_eq_false, not_false_eq_true, Nat.reduceAdd, Nat.reduceMul, w32_eq, w64_eq, lc_eq, lc_lt, lc_le, lc_gt, lc_ge, up_k, up_i, up_e, Int.toNat_natCast, tn7, tn8, tn12, tn3, tn120, tn1600, w32_and, w32_or, w32_xor, w32_shl, w32_shr, has2_eq] at hcr) <;> (try (exfalso; first | omega | exact hcr rfl | exact hcr trivial | contradiction))))
  refine two_bnd2_l d1 ?_
  refine two_bnd2_r d2 ?_
  by_cases g1 : X1 23 3 ≤ (r : Int)
  · rw [if_pos (by rw [w32_eq (by omega) (by omega), w32_eq (by omega) (by omega)]; exact g1), bnd2_some]
    repeat' (first | with_reducible refine two_lt_r ?_ | (with_reducible refine two_chk_r ?_ ?_; focus ((try simp (disch := omega) only [Bool.false_eq_true, not_true_eq_false, not_false_eq_true, Nat.reduceAdd, Nat.reduceMul, w32_eq, w64_eq, lc_eq, lc_lt, lc_le, lc_gt, lc_ge, up_k, up_i, up_e, Int.toNat_natCast, tn7, tn8, tn12, tn3, tn120, tn1600, w32_and, w32_or, w32_xor, w32_shl, w32_shr, has2_eq, tb, t3]) <;> omega)) | (with_reducible refine two_ite_r (fun hcr => ?_) (fun hcr => ?_) <;> (try simp (disch := omega) only [Bool.false_eq_true, not_true_eq_false, not_false_eq_true, Nat.reduceAdd, Nat.reduceMul, w32_eq, w64_eq, lc_eq, lc_lt, lc_le, lc_gt, lc_ge, up_k, up_i, up_e, Int.toNat_natCast, tn7, tn8, tn12, tn3, tn120, tn1600, w32_and, w32_or, w32_xor, w32_shl, w32_shr, has2_eq, tb, t3] at hcr) <;> (try (exfalso; first | omega | exact hcr rfl | exact hcr trivial | contradiction))))
    exact fin0 X1 M1 hR1 e13
  · repeat' (first | with_reducible refine two_lt_r ?_ | (with_reducible refine two_chk_r ?_ ?_; focus ((try simp (disch := omega) only [Bool.false_eq_true, not_true_eq_false, not_false_eq_true, Nat.reduceAdd, Nat.reduceMul, w32_eq, w64_eq, lc_eq, lc_lt, lc_le, lc_gt, lc_ge, up_k, up_i, up_e, Int.toNat_natCast, tn7, tn8, tn12, tn3, tn120, tn1600, w32_and, w32_or, w32_xor, w32_shl, w32_shr, has2_eq, tb, t3, m0]) <;> omega)) | (with_reducible refine two_ite_r (fun hcr => ?_) (fun hcr => ?_) <;> (try simp (disch := omega) only [Bool.false_eq_true, not_true_eq_false, not_false_eq_true, Nat.reduceAdd, Nat.reduceMul, w32_eq, w64_eq, lc_eq, lc_lt, lc_le, lc_gt, lc_ge, up_k, up_i, up_e, Int.toNat_natCast, tn7, tn8, tn12, tn3, tn120, tn1600, w32_and, w32_or, w32_xor, w32_shl, w32_shr, has2_eq, tb, t3, m0] at hcr) <;> (try (exfalso; first | omega | exact hcr rfl | exact hcr trivial | contradiction))))
    · rw [if_neg (by rw [w32_eq (by omega) (by omega), w32_eq (by omega) (by omega)]; exact g1), if_neg (by rw [x0, w32_eq (by omega) (by omega)]; omega), bnd2_some]
      exact fin0 X1 M1 hR1 e13
    · have hv1 : 1 ≤ nv := by omega
      rw [if_neg (by rw [w32_eq (by omega) (by omega), w32_eq (by omega) (by omega)]; exact g1), if_pos (by rw [x0, w32_eq (by omega) (by omega)]; omega), x0, bnd2_bnd2]
      obtain ⟨u, X2, M2, y1, y2, y3, hR2, y4, y5⟩ := sim_draw (m := nv) hR1 (by omega)
      simp only [tb, Int.toNat_natCast, m0]
      refine two_bnd2_l y1 ?_
      refine two_bnd2_r y2 ?_
      have e132 : X2 38 13 = X 38 13 := by rw [y4 38 (by omega)]; exact e13
      obtain ⟨q1, q2⟩ := xm_isVoice (a := (u : Int)) hR2.1 (by omega)
      rw [q1, bnd_some, decide_eq_true (by omega)]
      simp only [↓reduceIte]
      have r2 : and32 (shr32 (M2 28 0) (u : Int)) 1 = X2 40 u := hR2.2.1.2.1 u y3
      have i2 : 0 ≤ X2 40 u ∧ X2 40 u ≤ 1 := hR2.2.2.1.2.1 u y3
      refine two_bnd_r has2_eq ?_
      rw [r2]
      unfold m_chance_L25_B95
      by_cases z : X2 40 u = 0
      · rw [decide_eq_false (by omega)]
        simp only [Bool.false_eq_true, ↓reduceIte]
        repeat' (first | with_reducible refine two_lt_r ?_ | (with_reducible refine two_chk_r ?_ ?_; focus ((try simp (disch := omega) only [Bool.false_eq_true, not_true_eq_false, not_false_eq_true, Nat.reduceAdd, Nat.reduceMul, w32_eq, w64_eq, lc_eq, lc_lt, lc_le, lc_gt, lc_ge, up_k, up_i, up_e, Int.toNat_natCast, tn7, tn8, tn12, tn3, tn120, tn1600, w32_and, w32_or, w32_xor, w32_shl, w32_shr, has2_eq]) <;> omega)) | (with_reducible refine two_ite_r (fun hcr => ?_) (fun hcr => ?_) <;> (try simp (disch := omega) only [Bool.false_eq_true, not_true_eq_false, not_false_eq_true, Nat.reduceAdd, Nat.reduceMul, w32_eq, w64_eq, lc_eq, lc_lt, lc_le, lc_gt, lc_ge, up_k, up_i, up_e, Int.toNat_natCast, tn7, tn8, tn12, tn3, tn120, tn1600, w32_and, w32_or, w32_xor, w32_shl, w32_shr, has2_eq] at hcr) <;> (try (exfalso; first | omega | exact hcr rfl | exact hcr trivial | contradiction))))
        refine two_bnd_r has2_eq ?_
        rw [r2, decide_eq_false (by omega)]
        simp only [Bool.false_eq_true, ↓reduceIte]
        obtain ⟨X3, M3, k1, k2, s1, s2, s3, s4, s5, -⟩ := sim_strike (v := 0) (k := u) hR2.1 hR2.2.1 hR2.2.2.1 (by omega) (by omega) y3 z
        refine two_bnd_r k2 ?_
        unfold chk
        rw [if_pos (by omega), if_pos (by rw [Int.toNat_natCast, z]; exact w32_0), k1, bnd_some, bnd2_some]
        exact hend 1 X3 M3 (by omega) (RAll_now hR2 s3 s4 s1 s2) (by rw [s5]; exact e132)
      · rw [decide_eq_true (by omega)]
        simp only [↓reduceIte]
        repeat' (first | with_reducible refine two_lt_r ?_ | (with_reducible refine two_chk_r ?_ ?_; focus ((try simp (disch := omega) only [Bool.false_eq_true, not_true_eq_false, not_false_eq_true, Nat.reduceAdd, Nat.reduceMul, w32_eq, w64_eq, lc_eq, lc_lt, lc_le, lc_gt, lc_ge, up_k, up_i, up_e, Int.toNat_natCast, tn7, tn8, tn12, tn3, tn120, tn1600, w32_and, w32_or, w32_xor, w32_shl, w32_shr, has2_eq]) <;> omega)) | (with_reducible refine two_ite_r (fun hcr => ?_) (fun hcr => ?_) <;> (try simp (disch := omega) only [Bool.false_eq_true, not_true_eq_false, not_false_eq_true, Nat.reduceAdd, Nat.reduceMul, w32_eq, w64_eq, lc_eq, lc_lt, lc_le, lc_gt, lc_ge, up_k, up_i, up_e, Int.toNat_natCast, tn7, tn8, tn12, tn3, tn120, tn1600, w32_and, w32_or, w32_xor, w32_shl, w32_shr, has2_eq] at hcr) <;> (try (exfalso; first | omega | exact hcr rfl | exact hcr trivial | contradiction))))
        refine two_bnd_r has2_eq ?_
        rw [r2, decide_eq_true (by omega)]
        simp only [↓reduceIte, Int.add_zero]
        unfold chk
        rw [if_pos (by omega), if_neg (by rw [Int.toNat_natCast, w32_eq (by omega) (by omega)]; exact z), bnd2_some]
        exact fin0 X2 M2 hR2 e132
theorem ls_chance : LS_chance RR := by
  rintro k X0 M0 a1 hk h1 ⟨nv, np, ns, bk, hR0⟩
  apply ls_of
  unfold i32 at h1
  have hno := two_none (g := 2) hR0 (by omega)
  obtain ⟨e2, f2⟩ := xm_comes (b := 1) (c := 60) hR0 h1 (by omega) (by omega)
  unfold x_X_chance m_chance
  refine two_bnd_l e2 ?_
  refine two_bnd_r f2 ?_
  by_cases c2 : 1 ≤ a1 ∧ a1 ≤ 60 ∧ X0 38 13 + a1 ≤ 999
  · simp only [decide_eq_true c2, ↓reduceIte]
    obtain ⟨n, rfl⟩ := Int.eq_ofNat_of_zero_le (show 0 ≤ a1 by omega)
    refine two_bnd (sim_keep hR0) ?_
    rintro X M ⟨hR, g2, g3, g4⟩
    have h13 : X 38 13 = X0 38 13 := by rw [g2 38 (by omega) (by omega)]
    have hnv := hR.1.1.2.2.1
    refine two_bnd (two_itr33 (fun m a i X1 b j M1 => ∃ c st : Nat, a = (st : Int) ∧ b = (st : Int) ∧ st ≤ c ∧ i = (c : Int) ∧ j = (c : Int) ∧ m = n - c ∧ c ≤ n ∧ RAll nv np ns bk k X1 M1 ∧ X1 38 13 = X 38 13 + c) (fun p q => p.1 = q.1 ∧ RAll nv np ns bk k p.2.2 q.2.2) ?_ FUEL n 0 0 X 0 0 M (fuel_lt (by omega)) ⟨0, 0, rfl, rfl, by omega, rfl, rfl, rfl, by omega, hR, by simp⟩) ?_
    · rintro m a i X1 b j M1 ⟨c, st, rfl, rfl, hst, rfl, rfl, rfl, hc, hR1, h131⟩ F G ih
      by_cases hcn : c < n
      · unfold x_X_chance_L32
        repeat' (first | with_reducible refine two_lt_l ?_ | (with_reducible refine two_chk_l ?_ ?_; focus ((try simp (disch := omega) only [Bool.false_eq_true, not_true_eq_false, not_false_eq_true, Nat.reduceAdd, Nat.reduceMul, w32_eq, w64_eq, lc_eq, lc_lt, lc_le, lc_gt, lc_ge, up_k, up_i, up_e, Int.toNat_natCast, tn7, tn8, tn12, tn3, tn120, tn1600, w32_and, w32_or, w32_xor, w32_shl, w32_shr, has2_eq]) <;> omega)) | (with_reducible refine two_ite_l (fun hcl => ?_) (fun hcl => ?_) <;> (try simp (disch := omega) only [Bool.false_eq_true, not_true_eq_false, not_false_eq_true, Nat.reduceAdd, Nat.reduceMul, w32_eq, w64_eq, lc_eq, lc_lt, lc_le, lc_gt, lc_ge, up_k, up_i, up_e, Int.toNat_natCast, tn7, tn8, tn12, tn3, tn120, tn1600, w32_and, w32_or, w32_xor, w32_shl, w32_shr, has2_eq] at hcl) <;> (try (exfalso; first | omega | exact hcl rfl | exact hcl trivial | contradiction))))
        refine stroke_both hR1 _ (n : Int) (st : Int) (c : Int) G n rfl c rfl hcn (by omega) st rfl (by omega) ?_
        intro s X2 M2 hs hR2 h132
        unfold m_chance_L25_B118
        repeat' (first | with_reducible refine two_lt_l ?_ | (with_reducible refine two_chk_l ?_ ?_; focus ((try simp (disch := omega) only [Bool.false_eq_true, not_true_eq_false, not_false_eq_true, Nat.reduceAdd, Nat.reduceMul, w32_eq, w64_eq, lc_eq, lc_lt, lc_le, lc_gt, lc_ge, up_k, up_i, up_e, Int.toNat_natCast, tn7, tn8, tn12, tn3, tn120, tn1600, w32_and, w32_or, w32_xor, w32_shl, w32_shr, has2_eq]) <;> omega)) | (with_reducible refine two_ite_l (fun hcl => ?_) (fun hcl => ?_) <;> (try simp (disch := omega) only [Bool.false_eq_true, not_true_eq_false, not_false_eq_true, Nat.reduceAdd, Nat.reduceMul, w32_eq, w64_eq, lc_eq, lc_lt, lc_le, lc_gt, lc_ge, up_k, up_i, up_e, Int.toNat_natCast, tn7, tn8, tn12, tn3, tn120, tn1600, w32_and, w32_or, w32_xor, w32_shl, w32_shr, has2_eq] at hcl) <;> (try (exfalso; first | omega | exact hcl rfl | exact hcl trivial | contradiction))))
        refine two_bnd_r (m_all_eq hR2.1) ?_
        obtain ⟨h, d, Xm, X3, M3, y1, y2, y3⟩ := pass1' hR2.1 hR2.2.1 hR2.2.2.1 (th := 38) (v := 0) (by omega) (by omega) (same_all hnv) (by omega)
        refine two_bnd2_l y1 ?_
        refine two_bnd_r y2 ?_
        obtain ⟨t0, t1, t2, t3, t4, t5, t6, t7, t8⟩ := y3
        exact ih (n - (c + 1)) _ _ _ _ _ _ (by omega) ⟨c + 1, st + s, by omega, rfl, by omega, rfl, rfl, rfl, by omega, RAll_now hR2 (FXt_trans t1 t2) t3 t4 t5, by rw [t7, h132, h131]; omega⟩
      · have : c = n := by omega
        subst this
        unfold x_X_chance_L32 m_chance_L25
        repeat' (first | with_reducible refine two_lt_l ?_ | (with_reducible refine two_chk_l ?_ ?_; focus ((try simp (disch := omega) only [Bool.false_eq_true, not_true_eq_false, not_false_eq_true, Nat.reduceAdd, Nat.reduceMul, w32_eq, w64_eq, lc_eq, lc_lt, lc_le, lc_gt, lc_ge, up_k, up_i, up_e, Int.toNat_natCast, tn7, tn8, tn12, tn3, tn120, tn1600, w32_and, w32_or, w32_xor, w32_shl, w32_shr, has2_eq]) <;> omega)) | (with_reducible refine two_ite_l (fun hcl => ?_) (fun hcl => ?_) <;> (try simp (disch := omega) only [Bool.false_eq_true, not_true_eq_false, not_false_eq_true, Nat.reduceAdd, Nat.reduceMul, w32_eq, w64_eq, lc_eq, lc_lt, lc_le, lc_gt, lc_ge, up_k, up_i, up_e, Int.toNat_natCast, tn7, tn8, tn12, tn3, tn120, tn1600, w32_and, w32_or, w32_xor, w32_shl, w32_shr, has2_eq] at hcl) <;> (try (exfalso; first | omega | exact hcl rfl | exact hcl trivial | contradiction))))
        repeat' (first | with_reducible refine two_lt_r ?_ | (with_reducible refine two_chk_r ?_ ?_; focus ((try simp (disch := omega) only [Bool.false_eq_true, not_true_eq_false, not_false_eq_true, Nat.reduceAdd, Nat.reduceMul, w32_eq, w64_eq, lc_eq, lc_lt, lc_le, lc_gt, lc_ge, up_k, up_i, up_e, Int.toNat_natCast, tn7, tn8, tn12, tn3, tn120, tn1600, w32_and, w32_or, w32_xor, w32_shl, w32_shr, has2_eq]) <;> omega)) | (with_reducible refine two_ite_r (fun hcr => ?_) (fun hcr => ?_) <;> (try simp (disch := omega) only [Bool.false_eq_true, not_true_eq_false, not_false_eq_true, Nat.reduceAdd, Nat.reduceMul, w32_eq, w64_eq, lc_eq, lc_lt, lc_le, lc_gt, lc_ge, up_k, up_i, up_e, Int.toNat_natCast, tn7, tn8, tn12, tn3, tn120, tn1600, w32_and, w32_or, w32_xor, w32_shl, w32_shr, has2_eq] at hcr) <;> (try (exfalso; first | omega | exact hcr rfl | exact hcr trivial | contradiction))))
        exact two_some ⟨rfl, hR1⟩
    · rintro ⟨a, i, X1⟩ ⟨b, j, M1⟩ ⟨q1, q2⟩
      exact two_some ⟨by rw [show a = b from q1], nv, np, ns, bk, RAll_up q2⟩
  · simp only [decide_eq_false c2, Bool.false_eq_true, ↓reduceIte]
    exact hno
