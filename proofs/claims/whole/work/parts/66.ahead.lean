/-! THE PURE PART: calls that look ahead -/
theorem ls_of {k : Nat} {x y : Option (Int × Mem)} (h : two x y (fun p q => w32 p.1 = w32 q.1 ∧ RR (k + 1) p.2 q.2)) : ∃ (r r' : Int) (X1 M1 : Mem), x = some (r, X1) ∧ y = some (r', M1) ∧ w32 r = w32 r' ∧ RR (k + 1) X1 M1 := by
  obtain ⟨⟨r, X1⟩, ⟨r', M1⟩, h1, h2, h3, h4⟩ := h
  exact ⟨r, r', X1, M1, h1, h2, h3, h4⟩
/-- the state for trials, made as it is now -/
theorem sim_fresh {nv np ns bk k : Nat} {X M : Mem} (h : RAll nv np ns bk k X M) :
    two (x_X_fresh X) (m_copies 1 0 M) (fun X1 M1 => RT nv np ns bk X1 M1 ∧ RS nv ns 51 1 X1 M1 ∧ SI nv ns 51 X1 ∧ QX X X1 ∧ QM M M1 ∧ Copied ns 51 38 X X1 ∧ (∀ a, (a < 51 ∨ 51 + 12 < a) → X1 a = X a) ∧ FMt 1 M M1) := by
  obtain ⟨h1, h2, h3, -⟩ := h
  have hns := h1.1.2.2.2.2
  have hnv := h1.1.2.2.1
  unfold x_X_fresh
  rw [bnd_id]
  refine two_mono (sim_copy (th := 51) (o := 38) (to := 1) (fr := 0) hnv hns h2 h3 (by omega) (by omega) (by omega) (by omega)) ?_
  rintro X1 M1 ⟨g1, g2, g3, g4, g5⟩
  exact ⟨RT_t h1 (th := 51) (by omega) (fun a _ _ h => g3 a h) g4, g1, g2, QX_c g3, QM_t g4, g5, g3, g4⟩
theorem ls_later : LS_later RR := by
  rintro k X M a1 a2 a3 hk h1 h2 h3 ⟨nv, np, ns, bk, hR⟩
  apply ls_of
  unfold i32 at h1 h2 h3
  have hT := hR.1
  have hns := hT.1.2.2.2.2
  have hnv := hT.1.2.2.1
  obtain ⟨e1, f1⟩ := xm_isSaying hT h1
  obtain ⟨e2, f2⟩ := xm_comes (b := 0) (c := 60) hR h2 (by omega) (by omega)
  have done : ∀ r : Int, two (some (r, X)) (some (r, M)) (fun p q => w32 p.1 = w32 q.1 ∧ RR (k + 1) p.2 q.2) := fun r => two_some ⟨rfl, nv, np, ns, bk, RAll_up hR⟩
  unfold x_X_later m_later
  refine two_bnd_l e1 ?_
  refine two_bnd_r f1 ?_
  by_cases c1 : 0 ≤ a1 ∧ a1 < (ns : Int)
  · simp only [decide_eq_true c1, ↓reduceIte]
    refine two_bnd_l e2 ?_
    refine two_bnd_r f2 ?_
    by_cases c2 : 0 ≤ a2 ∧ a2 ≤ 60 ∧ X 38 13 + a2 ≤ 999
    · simp only [decide_eq_true c2, ↓reduceIte]
      refine two_bnd_r (m_is_eq h3 (by omega) (by omega)) ?_
      by_cases c3 : 0 ≤ a3 ∧ a3 ≤ 2
      · simp only [decide_eq_true c3, ↓reduceIte]
        repeat' (first | with_reducible refine two_lt_l ?_ | (with_reducible refine two_chk_l ?_ ?_; focus ((try simp (disch := omega) only [Bool.false_eq_true, not_true_eq_false, not_false_eq_true, Nat.reduceAdd, Nat.reduceMul, w32_eq, w64_eq, lc_eq, lc_lt, lc_le, lc_gt, lc_ge, up_k, up_i, up_e, Int.toNat_natCast, tn7, tn8, tn12, tn3, tn120, tn1600, w32_and, w32_or, w32_xor, w32_shl, w32_shr, has2_eq]) <;> omega)) | (with_reducible refine two_ite_l (fun hcl => ?_) (fun hcl => ?_) <;> (try simp (disch := omega) only [Bool.false_eq_true, not_true_eq_false, not_false_eq_true, Nat.reduceAdd, Nat.reduceMul, w32_eq, w64_eq, lc_eq, lc_lt, lc_le, lc_gt, lc_ge, up_k, up_i, up_e, Int.toNat_natCast, tn7, tn8, tn12, tn3, tn120, tn1600, w32_and, w32_or, w32_xor, w32_shl, w32_shr, has2_eq] at hcl) <;> (try (exfalso; first | omega | exact hcl rfl | exact hcl trivial | contradiction))))
        refine two_bnd (sim_fresh hR) ?_
        rintro X1 M1 ⟨g1, g2, g3, g4, g5, g6, g7, g8⟩
        refine two_bnd_r (m_all_eq g1) ?_
        obtain ⟨n, rfl⟩ := Int.eq_ofNat_of_zero_le c2.1
        obtain ⟨s, rfl⟩ := Int.eq_ofNat_of_zero_le c1.1
        refine two_bnd21 (sim_pass g1 g2 g3 (by omega) (same_all hnv) (by omega) (by rw [g6.2.2]; omega)) ?_
        rintro d X2 M2 ⟨hh, dd, k1, k2, p1, p2, p3, p4, p5, p6⟩
        have hf : RR (k + 1) X2 M2 := ⟨nv, np, ns, bk, RAll_up (RAll_q hR (QX_trans g4 (QX_t p3)) (QM_trans g5 (QM_t p4)))⟩
        have w4 : M2 29 (12 + s) = X2 55 s := p1.2.2.2.1 s (by omega)
        have w7 : M2 32 (12 + s) = X2 58 s := p1.2.2.2.2.2.2.1 s (by omega)
        have w9 : and32 (shr32 (M2 34 1) (s : Int)) 1 = X2 60 s := p1.2.2.2.2.2.2.2.2.1 s (by omega)
        have r9 : 0 ≤ X2 60 s ∧ X2 60 s ≤ 1 := p2.2.2.2.2.2.2.2.2.1 s (by omega)
        have n1 : (12 + (s : Int)).toNat = 12 + s := by omega
        repeat' (first | with_reducible refine two_lt_l ?_ | (with_reducible refine two_chk_l ?_ ?_; focus ((try simp (disch := omega) only [Bool.false_eq_true, not_true_eq_false, not_false_eq_true, Nat.reduceAdd, Nat.reduceMul, w32_eq, w64_eq, lc_eq, lc_lt, lc_le, lc_gt, lc_ge, up_k, up_i, up_e, Int.toNat_natCast, tn7, tn8, tn12, tn3, tn120, tn1600, w32_and, w32_or, w32_xor, w32_shl, w32_shr, has2_eq]) <;> omega)) | (with_reducible refine two_ite_l (fun hcl => ?_) (fun hcl => ?_) <;> (try simp (disch := omega) only [Bool.false_eq_true, not_true_eq_false, not_false_eq_true, Nat.reduceAdd, Nat.reduceMul, w32_eq, w64_eq, lc_eq, lc_lt, lc_le, lc_gt, lc_ge, up_k, up_i, up_e, Int.toNat_natCast, tn7, tn8, tn12, tn3, tn120, tn1600, w32_and, w32_or, w32_xor, w32_shl, w32_shr, has2_eq] at hcl) <;> (try (exfalso; first | omega | exact hcl rfl | exact hcl trivial | contradiction))))
        · repeat' (first | with_reducible refine two_lt_r ?_ | (with_reducible refine two_chk_r ?_ ?_; focus ((try simp (disch := omega) only [Bool.false_eq_true, not_true_eq_false, not_false_eq_true, Nat.reduceAdd, Nat.reduceMul, w32_eq, w64_eq, lc_eq, lc_lt, lc_le, lc_gt, lc_ge, up_k, up_i, up_e, Int.toNat_natCast, tn7, tn8, tn12, tn3, tn120, tn1600, w32_and, w32_or, w32_xor, w32_shl, w32_shr, has2_eq, n1]) <;> omega)) | (with_reducible refine two_ite_r (fun hcr => ?_) (fun hcr => ?_) <;> (try simp (disch := omega) only [Bool.false_eq_true, not_true_eq_false, not_false_eq_true, Nat.reduceAdd, Nat.reduceMul, w32_eq, w64_eq, lc_eq, lc_lt, lc_le, lc_gt, lc_ge, up_k, up_i, up_e, Int.toNat_natCast, tn7, tn8, tn12, tn3, tn120, tn1600, w32_and, w32_or, w32_xor, w32_shl, w32_shr, has2_eq, n1] at hcr) <;> (try (exfalso; first | omega | exact hcr rfl | exact hcr trivial | contradiction))))
          refine two_bnd_r has2_eq ?_
          rw [w9]
          repeat' (first | with_reducible refine two_lt_r ?_ | (with_reducible refine two_chk_r ?_ ?_; focus ((try simp (disch := omega) only [Bool.false_eq_true, not_true_eq_false, not_false_eq_true, Nat.reduceAdd, Nat.reduceMul, w32_eq, w64_eq, lc_eq, lc_lt, lc_le, lc_gt, lc_ge, up_k, up_i, up_e, Int.toNat_natCast, tn7, tn8, tn12, tn3, tn120, tn1600, w32_and, w32_or, w32_xor, w32_shl, w32_shr, has2_eq]) <;> omega)) | (with_reducible refine two_ite_r (fun hcr => ?_) (fun hcr => ?_) <;> (try simp (disch := omega) only [Bool.false_eq_true, not_true_eq_false, not_false_eq_true, Nat.reduceAdd, Nat.reduceMul, w32_eq, w64_eq, lc_eq, lc_lt, lc_le, lc_gt, lc_ge, up_k, up_i, up_e, Int.toNat_natCast, tn7, tn8, tn12, tn3, tn120, tn1600, w32_and, w32_or, w32_xor, w32_shl, w32_shr, has2_eq] at hcr) <;> (try (exfalso; first | omega | exact hcr rfl | exact hcr trivial | contradiction))))
          · exact two_some ⟨by simp only [Int.toNat_natCast]; rw [show X2 60 s = 1 by simpa using hcr], hf⟩
          · exact two_some ⟨by simp only [Int.toNat_natCast]; rw [show X2 60 s = 0 by have : ¬ X2 60 s = 1 := by simpa using hcr
                                                                                      omega], hf⟩
        · repeat' (first | with_reducible refine two_lt_r ?_ | (with_reducible refine two_chk_r ?_ ?_; focus ((try simp (disch := omega) only [Bool.false_eq_true, not_true_eq_false, not_false_eq_true, Nat.reduceAdd, Nat.reduceMul, w32_eq, w64_eq, lc_eq, lc_lt, lc_le, lc_gt, lc_ge, up_k, up_i, up_e, Int.toNat_natCast, tn7, tn8, tn12, tn3, tn120, tn1600, w32_and, w32_or, w32_xor, w32_shl, w32_shr, has2_eq, n1]) <;> omega)) | (with_reducible refine two_ite_r (fun hcr => ?_) (fun hcr => ?_) <;> (try simp (disch := omega) only [Bool.false_eq_true, not_true_eq_false, not_false_eq_true, Nat.reduceAdd, Nat.reduceMul, w32_eq, w64_eq, lc_eq, lc_lt, lc_le, lc_gt, lc_ge, up_k, up_i, up_e, Int.toNat_natCast, tn7, tn8, tn12, tn3, tn120, tn1600, w32_and, w32_or, w32_xor, w32_shl, w32_shr, has2_eq, n1] at hcr) <;> (try (exfalso; first | omega | exact hcr rfl | exact hcr trivial | contradiction))))
          exact two_some ⟨by simp only [Int.toNat_natCast, n1, w7], hf⟩
        · repeat' (first | with_reducible refine two_lt_r ?_ | (with_reducible refine two_chk_r ?_ ?_; focus ((try simp (disch := omega) only [Bool.false_eq_true, not_true_eq_false, not_false_eq_true, Nat.reduceAdd, Nat.reduceMul, w32_eq, w64_eq, lc_eq, lc_lt, lc_le, lc_gt, lc_ge, up_k, up_i, up_e, Int.toNat_natCast, tn7, tn8, tn12, tn3, tn120, tn1600, w32_and, w32_or, w32_xor, w32_shl, w32_shr, has2_eq, n1]) <;> omega)) | (with_reducible refine two_ite_r (fun hcr => ?_) (fun hcr => ?_) <;> (try simp (disch := omega) only [Bool.false_eq_true, not_true_eq_false, not_false_eq_true, Nat.reduceAdd, Nat.reduceMul, w32_eq, w64_eq, lc_eq, lc_lt, lc_le, lc_gt, lc_ge, up_k, up_i, up_e, Int.toNat_natCast, tn7, tn8, tn12, tn3, tn120, tn1600, w32_and, w32_or, w32_xor, w32_shl, w32_shr, has2_eq, n1] at hcr) <;> (try (exfalso; first | omega | exact hcr rfl | exact hcr trivial | contradiction))))
          exact two_some ⟨by simp only [Int.toNat_natCast, n1, w4], hf⟩
      · simp only [decide_eq_false c3, Bool.false_eq_true, ↓reduceIte]
        repeat' (first | with_reducible refine two_lt_l ?_ | (with_reducible refine two_chk_l ?_ ?_; focus ((try simp (disch := omega) only [Bool.false_eq_true, not_true_eq_false, not_false_eq_true, Nat.reduceAdd, Nat.reduceMul, w32_eq, w64_eq, lc_eq, lc_lt, lc_le, lc_gt, lc_ge, up_k, up_i, up_e, Int.toNat_natCast, tn7, tn8, tn12, tn3, tn120, tn1600, w32_and, w32_or, w32_xor, w32_shl, w32_shr, has2_eq]) <;> omega)) | (with_reducible refine two_ite_l (fun hcl => ?_) (fun hcl => ?_) <;> (try simp (disch := omega) only [Bool.false_eq_true, not_true_eq_false, not_false_eq_true, Nat.reduceAdd, Nat.reduceMul, w32_eq, w64_eq, lc_eq, lc_lt, lc_le, lc_gt, lc_ge, up_k, up_i, up_e, Int.toNat_natCast, tn7, tn8, tn12, tn3, tn120, tn1600, w32_and, w32_or, w32_xor, w32_shl, w32_shr, has2_eq] at hcl) <;> (try (exfalso; first | omega | exact hcl rfl | exact hcl trivial | contradiction))))
        all_goals exact done _
    · simp only [decide_eq_false c2, Bool.false_eq_true, ↓reduceIte]
      exact done _
  · simp only [decide_eq_false c1, Bool.false_eq_true, ↓reduceIte]
    exact done _
theorem ls_busy : LS_busy RR := by
  rintro k X M a1 hk h1 ⟨nv, np, ns, bk, hR⟩
  apply ls_of
  unfold i32 at h1
  have hT := hR.1
  have hns := hT.1.2.2.2.2
  have hnv := hT.1.2.2.1
  obtain ⟨e2, f2⟩ := xm_comes (b := 0) (c := 60) hR h1 (by omega) (by omega)
  have done : ∀ r : Int, two (some (r, X)) (some (r, M)) (fun p q => w32 p.1 = w32 q.1 ∧ RR (k + 1) p.2 q.2) := fun r => two_some ⟨rfl, nv, np, ns, bk, RAll_up hR⟩
  unfold x_X_busy m_busy
  refine two_bnd_l e2 ?_
  refine two_bnd_r f2 ?_
  by_cases c2 : 0 ≤ a1 ∧ a1 ≤ 60 ∧ X 38 13 + a1 ≤ 999
  · simp only [decide_eq_true c2, ↓reduceIte]
    refine two_bnd (sim_fresh hR) ?_
    rintro X1 M1 ⟨g1, g2, g3, g4, g5, g6, g7, g8⟩
    refine two_bnd_r (m_all_eq g1) ?_
    obtain ⟨n, rfl⟩ := Int.eq_ofNat_of_zero_le c2.1
    refine two_bnd21 (sim_pass g1 g2 g3 (by omega) (same_all hnv) (by omega) (by rw [g6.2.2]; omega)) ?_
    rintro d X2 M2 ⟨hh, dd, k1, k2, p1, p2, p3, p4, p5, p6⟩
    have hf : RR (k + 1) X2 M2 := ⟨nv, np, ns, bk, RAll_up (RAll_q hR (QX_trans g4 (QX_t p3)) (QM_trans g5 (QM_t p4)))⟩
    have hT2 := RT_t g1 (th := 51) (by omega) p3 p4
    unfold x_State_busyCount
    rw [x_count hT2.2.1.2.2 hns p2.2.2.2.1 (by omega)]
    simp only [bnd_some]
    refine two_bnd_r (m_busy_eq (v := 1) hT2 p1 p2 (by omega)) ?_
    exact two_some ⟨rfl, hf⟩
  · simp only [decide_eq_false c2, Bool.false_eq_true, ↓reduceIte]
    exact done _
theorem cnt_pair {p q : Nat → Bool} {n : Nat} (h : ∀ j, j < n → ¬ (p j = true ∧ q j = true)) : cnt (fun j => p j || q j) n = cnt p n + cnt q n := by
  induction n with
  | zero => rfl
  | succ n ih =>
    unfold cnt
    rw [ih (fun j hj => h j (by omega))]
    have := h n (by omega)
    cases hp : p n <;> cases hq : q n <;> simp [hp, hq] at this ⊢ <;> omega
/-- a STROKE, in both -/
theorem sim_strike {nv np ns bk th v k : Nat} {X M : Mem} (hT : RT nv np ns bk X M) (hS : RS nv ns th v X M) (hI : SI nv ns th X) (hth : 38 ≤ th) (hv : v < 22) (hk : k < nv) (h0 : X (th + 2) k = 0) :
    two (x_State_breakVoice th (k : Int) X) (m_strikes (v : Int) (k : Int) M) (fun X1 M1 => RS nv ns th v X1 M1 ∧ SI nv ns th X1 ∧ FXt th X X1 ∧ FMt v M M1 ∧ X1 th 13 = X th 13 ∧ (∀ j, j < ns → (X1 (th + 4) j = 5 ↔ X (th + 4) j = 5 ∨ (X (th + 4) j = 2 ∧ X (th + 7) j = (k : Int)))) ∧ (∀ j, j < ns → 3 ≤ X (th + 4) j → X1 (th + 4) j = X (th + 4) j)) := by
  have hns := hT.1.2.2.2.2
  have hnv := hT.1.2.2.1
  have hS' := hS
  obtain ⟨rp, rs, rb, rw, rd, rt, rv, rl, rx, rk, rm, rk1, rk2, rk3, rz1, rz2⟩ := hS
  have hI' := hI
  obtain ⟨ip, is, ib, iw, id, it, iv, il, ix, isnd, inm, iin, im, ik⟩ := hI
  have hlt : ((2 ^ nv : Nat) : Int) ≤ 128 := by
    have := Nat.pow_le_pow_right (n := 2) (by omega) hnv
    omega
  obtain ⟨r, q, hr1, hr2, rfl, hby⟩ := sim_by hT hS' hI' hv (show k < 7 by omega)
  have hSa : RS nv ns th v (upM X (th + 2) k 1) (upM M 28 v (or32 (M 28 v) (shl32 1 (k : Int)))) := by
    refine ⟨?_, ?_, ?_, ?_, ?_, ?_, ?_, ?_, ?_, ?_, ?_, ?_, ?_, ?_, ?_, ?_⟩
    · intro j hj; simp (disch := omega) only [Bool.false_eq_true, not_true_eq_false, not_false_eq_true, Nat.reduceAdd, Nat.reduceMul, w32_eq, w64_eq, lc_eq, lc_lt, lc_le, lc_gt, lc_ge, up_k, up_i, up_e, Int.toNat_natCast, tn7, tn8, tn12, tn3, tn120, tn1600, w32_and, w32_or, w32_xor, w32_shl, w32_shr, has2_eq]; exact rp j hj
    · intro j hj
      rw [up_e, bit_set rz1.1 (by omega) (by omega) (by omega)]
      by_cases e : j = k
      · subst e; rw [if_pos rfl, up_e]
      · rw [if_neg e, up_i e]; exact rs j hj
    · intro j hj; simp (disch := omega) only [Bool.false_eq_true, not_true_eq_false, not_false_eq_true, Nat.reduceAdd, Nat.reduceMul, w32_eq, w64_eq, lc_eq, lc_lt, lc_le, lc_gt, lc_ge, up_k, up_i, up_e, Int.toNat_natCast, tn7, tn8, tn12, tn3, tn120, tn1600, w32_and, w32_or, w32_xor, w32_shl, w32_shr, has2_eq]; exact rb j hj
    · intro j hj; simp (disch := omega) only [Bool.false_eq_true, not_true_eq_false, not_false_eq_true, Nat.reduceAdd, Nat.reduceMul, w32_eq, w64_eq, lc_eq, lc_lt, lc_le, lc_gt, lc_ge, up_k, up_i, up_e, Int.toNat_natCast, tn7, tn8, tn12, tn3, tn120, tn1600, w32_and, w32_or, w32_xor, w32_shl, w32_shr, has2_eq]; exact rw j hj
    · intro j hj; simp (disch := omega) only [Bool.false_eq_true, not_true_eq_false, not_false_eq_true, Nat.reduceAdd, Nat.reduceMul, w32_eq, w64_eq, lc_eq, lc_lt, lc_le, lc_gt, lc_ge, up_k, up_i, up_e, Int.toNat_natCast, tn7, tn8, tn12, tn3, tn120, tn1600, w32_and, w32_or, w32_xor, w32_shl, w32_shr, has2_eq]; exact rd j hj
    · intro j hj; simp (disch := omega) only [Bool.false_eq_true, not_true_eq_false, not_false_eq_true, Nat.reduceAdd, Nat.reduceMul, w32_eq, w64_eq, lc_eq, lc_lt, lc_le, lc_gt, lc_ge, up_k, up_i, up_e, Int.toNat_natCast, tn7, tn8, tn12, tn3, tn120, tn1600, w32_and, w32_or, w32_xor, w32_shl, w32_shr, has2_eq]; exact rt j hj
    · intro j hj; simp (disch := omega) only [Bool.false_eq_true, not_true_eq_false, not_false_eq_true, Nat.reduceAdd, Nat.reduceMul, w32_eq, w64_eq, lc_eq, lc_lt, lc_le, lc_gt, lc_ge, up_k, up_i, up_e, Int.toNat_natCast, tn7, tn8, tn12, tn3, tn120, tn1600, w32_and, w32_or, w32_xor, w32_shl, w32_shr, has2_eq]; exact rv j hj
    · intro j hj; simp (disch := omega) only [Bool.false_eq_true, not_true_eq_false, not_false_eq_true, Nat.reduceAdd, Nat.reduceMul, w32_eq, w64_eq, lc_eq, lc_lt, lc_le, lc_gt, lc_ge, up_k, up_i, up_e, Int.toNat_natCast, tn7, tn8, tn12, tn3, tn120, tn1600, w32_and, w32_or, w32_xor, w32_shl, w32_shr, has2_eq]; exact rl j hj
    · intro j hj; simp (disch := omega) only [Bool.false_eq_true, not_true_eq_false, not_false_eq_true, Nat.reduceAdd, Nat.reduceMul, w32_eq, w64_eq, lc_eq, lc_lt, lc_le, lc_gt, lc_ge, up_k, up_i, up_e, Int.toNat_natCast, tn7, tn8, tn12, tn3, tn120, tn1600, w32_and, w32_or, w32_xor, w32_shl, w32_shr, has2_eq]; exact rx j hj
    · simp (disch := omega) only [Bool.false_eq_true, not_true_eq_false, not_false_eq_true, Nat.reduceAdd, Nat.reduceMul, w32_eq, w64_eq, lc_eq, lc_lt, lc_le, lc_gt, lc_ge, up_k, up_i, up_e, Int.toNat_natCast, tn7, tn8, tn12, tn3, tn120, tn1600, w32_and, w32_or, w32_xor, w32_shl, w32_shr, has2_eq]; exact rk
    · simp (disch := omega) only [Bool.false_eq_true, not_true_eq_false, not_false_eq_true, Nat.reduceAdd, Nat.reduceMul, w32_eq, w64_eq, lc_eq, lc_lt, lc_le, lc_gt, lc_ge, up_k, up_i, up_e, Int.toNat_natCast, tn7, tn8, tn12, tn3, tn120, tn1600, w32_and, w32_or, w32_xor, w32_shl, w32_shr, has2_eq]; exact rm
    · intro j hj; simp (disch := omega) only [up_k] at hj; simp (disch := omega) only [Bool.false_eq_true, not_true_eq_false, not_false_eq_true, Nat.reduceAdd, Nat.reduceMul, w32_eq, w64_eq, lc_eq, lc_lt, lc_le, lc_gt, lc_ge, up_k, up_i, up_e, Int.toNat_natCast, tn7, tn8, tn12, tn3, tn120, tn1600, w32_and, w32_or, w32_xor, w32_shl, w32_shr, has2_eq]; exact rk1 j hj
    · intro j hj; simp (disch := omega) only [up_k] at hj; simp (disch := omega) only [Bool.false_eq_true, not_true_eq_false, not_false_eq_true, Nat.reduceAdd, Nat.reduceMul, w32_eq, w64_eq, lc_eq, lc_lt, lc_le, lc_gt, lc_ge, up_k, up_i, up_e, Int.toNat_natCast, tn7, tn8, tn12, tn3, tn120, tn1600, w32_and, w32_or, w32_xor, w32_shl, w32_shr, has2_eq]; exact rk2 j hj
    · intro j hj; simp (disch := omega) only [up_k] at hj; simp (disch := omega) only [Bool.false_eq_true, not_true_eq_false, not_false_eq_true, Nat.reduceAdd, Nat.reduceMul, w32_eq, w64_eq, lc_eq, lc_lt, lc_le, lc_gt, lc_ge, up_k, up_i, up_e, Int.toNat_natCast, tn7, tn8, tn12, tn3, tn120, tn1600, w32_and, w32_or, w32_xor, w32_shl, w32_shr, has2_eq]; exact rk3 j hj
    · rw [up_e]; exact or_rng rz1.1 rz1.2 (by omega) hk
    · simp (disch := omega) only [Bool.false_eq_true, not_true_eq_false, not_false_eq_true, Nat.reduceAdd, Nat.reduceMul, w32_eq, w64_eq, lc_eq, lc_lt, lc_le, lc_gt, lc_ge, up_k, up_i, up_e, Int.toNat_natCast, tn7, tn8, tn12, tn3, tn120, tn1600, w32_and, w32_or, w32_xor, w32_shl, w32_shr, has2_eq]; exact rz2
  have hfx : FXt th X (upM X (th + 2) k 1) := FXt_up (by omega)
  have hfm : FMt v M (upM M 28 v (or32 (M 28 v) (shl32 1 (k : Int)))) := FMt_up ⟨by omega, by omega, fun _ => lay1 (by omega)⟩
  have hTa := RT_t hT hth hfx hfm
  have hbya : m_soundingBy (v : Int) (k : Int) (upM M 28 v (or32 (M 28 v) (shl32 1 (k : Int)))) = m_soundingBy (v : Int) (k : Int) M := by
    unfold m_soundingBy
    have : m_soundingBy_L2 (v : Int) (k : Int) (upM M 28 v (or32 (M 28 v) (shl32 1 (k : Int)))) = m_soundingBy_L2 (v : Int) (k : Int) M := by
      funext rec v3
      unfold m_soundingBy_L2
      simp (disch := omega) only [upM_row]
    rw [this]
  have hrr : -1 ≤ r ∧ r ≤ 12 := by rcases hby with ⟨h1, -⟩ | ⟨s, h1, h2, -⟩ <;> omega
  unfold x_State_breakVoice m_strikes
  refine two_bnd_l hr1 ?_
  repeat' (first | with_reducible refine two_lt_l ?_ | (with_reducible refine two_chk_l ?_ ?_; focus ((try simp (disch := omega) only [Bool.false_eq_true, not_true_eq_false, not_false_eq_true, Nat.reduceAdd, Nat.reduceMul, w32_eq, w64_eq, lc_eq, lc_lt, lc_le, lc_gt, lc_ge, up_k, up_i, up_e, Int.toNat_natCast, tn7, tn8, tn12, tn3, tn120, tn1600, w32_and, w32_or, w32_xor, w32_shl, w32_shr, has2_eq]) <;> omega)) | (with_reducible refine two_ite_l (fun hcl => ?_) (fun hcl => ?_) <;> (try simp (disch := omega) only [Bool.false_eq_true, not_true_eq_false, not_false_eq_true, Nat.reduceAdd, Nat.reduceMul, w32_eq, w64_eq, lc_eq, lc_lt, lc_le, lc_gt, lc_ge, up_k, up_i, up_e, Int.toNat_natCast, tn7, tn8, tn12, tn3, tn120, tn1600, w32_and, w32_or, w32_xor, w32_shl, w32_shr, has2_eq] at hcl) <;> (try (exfalso; first | omega | exact hcl rfl | exact hcl trivial | contradiction))))
  · repeat' (first | with_reducible refine two_lt_r ?_ | (with_reducible refine two_chk_r ?_ ?_; focus ((try simp (disch := omega) only [Bool.false_eq_true, not_true_eq_false, not_false_eq_true, Nat.reduceAdd, Nat.reduceMul, w32_eq, w64_eq, lc_eq, lc_lt, lc_le, lc_gt, lc_ge, up_k, up_i, up_e, Int.toNat_natCast, tn7, tn8, tn12, tn3, tn120, tn1600, w32_and, w32_or, w32_xor, w32_shl, w32_shr, has2_eq]) <;> omega)) | (with_reducible refine two_ite_r (fun hcr => ?_) (fun hcr => ?_) <;> (try simp (disch := omega) only [Bool.false_eq_true, not_true_eq_false, not_false_eq_true, Nat.reduceAdd, Nat.reduceMul, w32_eq, w64_eq, lc_eq, lc_lt, lc_le, lc_gt, lc_ge, up_k, up_i, up_e, Int.toNat_natCast, tn7, tn8, tn12, tn3, tn120, tn1600, w32_and, w32_or, w32_xor, w32_shl, w32_shr, has2_eq] at hcr) <;> (try (exfalso; first | omega | exact hcr rfl | exact hcr trivial | contradiction))))
    simp only [Int.toNat_natCast]
    refine two_bnd_r (hbya.trans hr2) ?_
    rcases hby with ⟨g1, g2⟩ | ⟨s, g1, g2, g3, g4⟩
    · subst g1
      repeat' (first | with_reducible refine two_lt_r ?_ | (with_reducible refine two_chk_r ?_ ?_; focus ((try simp (disch := omega) only [Bool.false_eq_true, not_true_eq_false, not_false_eq_true, Nat.reduceAdd, Nat.reduceMul, w32_eq, w64_eq, lc_eq, lc_lt, lc_le, lc_gt, lc_ge, up_k, up_i, up_e, Int.toNat_natCast, tn7, tn8, tn12, tn3, tn120, tn1600, w32_and, w32_or, w32_xor, w32_shl, w32_shr, has2_eq]) <;> omega)) | (with_reducible refine two_ite_r (fun hcr => ?_) (fun hcr => ?_) <;> (try simp (disch := omega) only [Bool.false_eq_true, not_true_eq_false, not_false_eq_true, Nat.reduceAdd, Nat.reduceMul, w32_eq, w64_eq, lc_eq, lc_lt, lc_le, lc_gt, lc_ge, up_k, up_i, up_e, Int.toNat_natCast, tn7, tn8, tn12, tn3, tn120, tn1600, w32_and, w32_or, w32_xor, w32_shl, w32_shr, has2_eq] at hcr) <;> (try (exfalso; first | omega | exact hcr rfl | exact hcr trivial | contradiction))))
      refine two_some ⟨hSa, ⟨?_, ?_, ?_, ?_, ?_, ?_, ?_, ?_, ?_, ?_, ?_, ?_, ?_, ?_⟩, hfx, hfm, by rw [up_k (by omega)], fun j hj => ?_, fun j hj _ => by rw [up_k (by omega)]⟩
      · intro j hj; simp (disch := omega) only [Bool.false_eq_true, not_true_eq_false, not_false_eq_true, Nat.reduceAdd, Nat.reduceMul, w32_eq, w64_eq, lc_eq, lc_lt, lc_le, lc_gt, lc_ge, up_k, up_i, up_e, Int.toNat_natCast, tn7, tn8, tn12, tn3, tn120, tn1600, w32_and, w32_or, w32_xor, w32_shl, w32_shr, has2_eq]; exact ip j hj
      · intro j hj; by_cases e : j = k
        · subst e; simp (disch := omega) only [Bool.false_eq_true, not_true_eq_false, not_false_eq_true, Nat.reduceAdd, Nat.reduceMul, w32_eq, w64_eq, lc_eq, lc_lt, lc_le, lc_gt, lc_ge, up_k, up_i, up_e, Int.toNat_natCast, tn7, tn8, tn12, tn3, tn120, tn1600, w32_and, w32_or, w32_xor, w32_shl, w32_shr, has2_eq]; omega
        · simp (disch := omega) only [Bool.false_eq_true, not_true_eq_false, not_false_eq_true, Nat.reduceAdd, Nat.reduceMul, w32_eq, w64_eq, lc_eq, lc_lt, lc_le, lc_gt, lc_ge, up_k, up_i, up_e, Int.toNat_natCast, tn7, tn8, tn12, tn3, tn120, tn1600, w32_and, w32_or, w32_xor, w32_shl, w32_shr, has2_eq]; exact is j hj
      · intro j hj; simp (disch := omega) only [Bool.false_eq_true, not_true_eq_false, not_false_eq_true, Nat.reduceAdd, Nat.reduceMul, w32_eq, w64_eq, lc_eq, lc_lt, lc_le, lc_gt, lc_ge, up_k, up_i, up_e, Int.toNat_natCast, tn7, tn8, tn12, tn3, tn120, tn1600, w32_and, w32_or, w32_xor, w32_shl, w32_shr, has2_eq]; exact ib j hj
      · intro j hj; simp (disch := omega) only [Bool.false_eq_true, not_true_eq_false, not_false_eq_true, Nat.reduceAdd, Nat.reduceMul, w32_eq, w64_eq, lc_eq, lc_lt, lc_le, lc_gt, lc_ge, up_k, up_i, up_e, Int.toNat_natCast, tn7, tn8, tn12, tn3, tn120, tn1600, w32_and, w32_or, w32_xor, w32_shl, w32_shr, has2_eq]; exact iw j hj
      · intro j hj; simp (disch := omega) only [Bool.false_eq_true, not_true_eq_false, not_false_eq_true, Nat.reduceAdd, Nat.reduceMul, w32_eq, w64_eq, lc_eq, lc_lt, lc_le, lc_gt, lc_ge, up_k, up_i, up_e, Int.toNat_natCast, tn7, tn8, tn12, tn3, tn120, tn1600, w32_and, w32_or, w32_xor, w32_shl, w32_shr, has2_eq]; exact id j hj
      · intro j hj; simp (disch := omega) only [Bool.false_eq_true, not_true_eq_false, not_false_eq_true, Nat.reduceAdd, Nat.reduceMul, w32_eq, w64_eq, lc_eq, lc_lt, lc_le, lc_gt, lc_ge, up_k, up_i, up_e, Int.toNat_natCast, tn7, tn8, tn12, tn3, tn120, tn1600, w32_and, w32_or, w32_xor, w32_shl, w32_shr, has2_eq]; exact it j hj
      · intro j hj; simp (disch := omega) only [Bool.false_eq_true, not_true_eq_false, not_false_eq_true, Nat.reduceAdd, Nat.reduceMul, w32_eq, w64_eq, lc_eq, lc_lt, lc_le, lc_gt, lc_ge, up_k, up_i, up_e, Int.toNat_natCast, tn7, tn8, tn12, tn3, tn120, tn1600, w32_and, w32_or, w32_xor, w32_shl, w32_shr, has2_eq]; exact iv j hj
      · intro j hj; simp (disch := omega) only [Bool.false_eq_true, not_true_eq_false, not_false_eq_true, Nat.reduceAdd, Nat.reduceMul, w32_eq, w64_eq, lc_eq, lc_lt, lc_le, lc_gt, lc_ge, up_k, up_i, up_e, Int.toNat_natCast, tn7, tn8, tn12, tn3, tn120, tn1600, w32_and, w32_or, w32_xor, w32_shl, w32_shr, has2_eq]; exact il j hj
      · intro j hj; simp (disch := omega) only [Bool.false_eq_true, not_true_eq_false, not_false_eq_true, Nat.reduceAdd, Nat.reduceMul, w32_eq, w64_eq, lc_eq, lc_lt, lc_le, lc_gt, lc_ge, up_k, up_i, up_e, Int.toNat_natCast, tn7, tn8, tn12, tn3, tn120, tn1600, w32_and, w32_or, w32_xor, w32_shl, w32_shr, has2_eq]; exact ix j hj
      · intro j hj; simp (disch := omega) only [Bool.false_eq_true, not_true_eq_false, not_false_eq_true, Nat.reduceAdd, Nat.reduceMul, w32_eq, w64_eq, lc_eq, lc_lt, lc_le, lc_gt, lc_ge, up_k, up_i, up_e, Int.toNat_natCast, tn7, tn8, tn12, tn3, tn120, tn1600, w32_and, w32_or, w32_xor, w32_shl, w32_shr, has2_eq]; intro h
        obtain ⟨q1, q2, q3⟩ := isnd j hj h
        have hne : (X (th + 7) j).toNat ≠ k := fun e => g2 j hj ⟨h, by omega⟩
        exact ⟨q1, q2, by rw [up_i hne]; exact q3⟩
      · intro j hj; simp (disch := omega) only [Bool.false_eq_true, not_true_eq_false, not_false_eq_true, Nat.reduceAdd, Nat.reduceMul, w32_eq, w64_eq, lc_eq, lc_lt, lc_le, lc_gt, lc_ge, up_k, up_i, up_e, Int.toNat_natCast, tn7, tn8, tn12, tn3, tn120, tn1600, w32_and, w32_or, w32_xor, w32_shl, w32_shr, has2_eq]; exact inm j hj
      · intro j t hj ht; simp (disch := omega) only [Bool.false_eq_true, not_true_eq_false, not_false_eq_true, Nat.reduceAdd, Nat.reduceMul, w32_eq, w64_eq, lc_eq, lc_lt, lc_le, lc_gt, lc_ge, up_k, up_i, up_e, Int.toNat_natCast, tn7, tn8, tn12, tn3, tn120, tn1600, w32_and, w32_or, w32_xor, w32_shl, w32_shr, has2_eq]; exact iin j t hj ht
      · simp (disch := omega) only [Bool.false_eq_true, not_true_eq_false, not_false_eq_true, Nat.reduceAdd, Nat.reduceMul, w32_eq, w64_eq, lc_eq, lc_lt, lc_le, lc_gt, lc_ge, up_k, up_i, up_e, Int.toNat_natCast, tn7, tn8, tn12, tn3, tn120, tn1600, w32_and, w32_or, w32_xor, w32_shl, w32_shr, has2_eq]; exact im
      · simp (disch := omega) only [Bool.false_eq_true, not_true_eq_false, not_false_eq_true, Nat.reduceAdd, Nat.reduceMul, w32_eq, w64_eq, lc_eq, lc_lt, lc_le, lc_gt, lc_ge, up_k, up_i, up_e, Int.toNat_natCast, tn7, tn8, tn12, tn3, tn120, tn1600, w32_and, w32_or, w32_xor, w32_shl, w32_shr, has2_eq]; exact ik
      · rw [up_k (by omega)]
        constructor
        · intro h; exact Or.inl h
        · intro h; rcases h with h | h
          · exact h
          · exact absurd h (g2 j hj)
    · subst g2; omega
  · rcases hby with ⟨g1, g2⟩ | ⟨s, g1, g2, g3, g4⟩
    · omega
    · subst g2
      repeat' (first | with_reducible refine two_lt_r ?_ | (with_reducible refine two_chk_r ?_ ?_; focus ((try simp (disch := omega) only [Bool.false_eq_true, not_true_eq_false, not_false_eq_true, Nat.reduceAdd, Nat.reduceMul, w32_eq, w64_eq, lc_eq, lc_lt, lc_le, lc_gt, lc_ge, up_k, up_i, up_e, Int.toNat_natCast, tn7, tn8, tn12, tn3, tn120, tn1600, w32_and, w32_or, w32_xor, w32_shl, w32_shr, has2_eq]) <;> omega)) | (with_reducible refine two_ite_r (fun hcr => ?_) (fun hcr => ?_) <;> (try simp (disch := omega) only [Bool.false_eq_true, not_true_eq_false, not_false_eq_true, Nat.reduceAdd, Nat.reduceMul, w32_eq, w64_eq, lc_eq, lc_lt, lc_le, lc_gt, lc_ge, up_k, up_i, up_e, Int.toNat_natCast, tn7, tn8, tn12, tn3, tn120, tn1600, w32_and, w32_or, w32_xor, w32_shl, w32_shr, has2_eq] at hcr) <;> (try (exfalso; first | omega | exact hcr rfl | exact hcr trivial | contradiction))))
      simp only [Int.toNat_natCast]
      refine two_bnd_r (hbya.trans hr2) ?_
      repeat' (first | with_reducible refine two_lt_r ?_ | (with_reducible refine two_chk_r ?_ ?_; focus ((try simp (disch := omega) only [Bool.false_eq_true, not_true_eq_false, not_false_eq_true, Nat.reduceAdd, Nat.reduceMul, w32_eq, w64_eq, lc_eq, lc_lt, lc_le, lc_gt, lc_ge, up_k, up_i, up_e, Int.toNat_natCast, tn7, tn8, tn12, tn3, tn120, tn1600, w32_and, w32_or, w32_xor, w32_shl, w32_shr, has2_eq]) <;> omega)) | (with_reducible refine two_ite_r (fun hcr => ?_) (fun hcr => ?_) <;> (try simp (disch := omega) only [Bool.false_eq_true, not_true_eq_false, not_false_eq_true, Nat.reduceAdd, Nat.reduceMul, w32_eq, w64_eq, lc_eq, lc_lt, lc_le, lc_gt, lc_ge, up_k, up_i, up_e, Int.toNat_natCast, tn7, tn8, tn12, tn3, tn120, tn1600, w32_and, w32_or, w32_xor, w32_shl, w32_shr, has2_eq] at hcr) <;> (try (exfalso; first | omega | exact hcr rfl | exact hcr trivial | contradiction))))
      have hIx : SIx nv ns th s (upM X (th + 2) k 1) := by
        refine ⟨?_, ?_, ?_, ?_, ?_, ?_, ?_, ?_, ?_, ?_, ?_, ?_, ?_, ?_⟩
        · intro j hj; simp (disch := omega) only [Bool.false_eq_true, not_true_eq_false, not_false_eq_true, Nat.reduceAdd, Nat.reduceMul, w32_eq, w64_eq, lc_eq, lc_lt, lc_le, lc_gt, lc_ge, up_k, up_i, up_e, Int.toNat_natCast, tn7, tn8, tn12, tn3, tn120, tn1600, w32_and, w32_or, w32_xor, w32_shl, w32_shr, has2_eq]; exact ip j hj
        · intro j hj; by_cases e : j = k
          · subst e; simp (disch := omega) only [Bool.false_eq_true, not_true_eq_false, not_false_eq_true, Nat.reduceAdd, Nat.reduceMul, w32_eq, w64_eq, lc_eq, lc_lt, lc_le, lc_gt, lc_ge, up_k, up_i, up_e, Int.toNat_natCast, tn7, tn8, tn12, tn3, tn120, tn1600, w32_and, w32_or, w32_xor, w32_shl, w32_shr, has2_eq]; omega
          · simp (disch := omega) only [Bool.false_eq_true, not_true_eq_false, not_false_eq_true, Nat.reduceAdd, Nat.reduceMul, w32_eq, w64_eq, lc_eq, lc_lt, lc_le, lc_gt, lc_ge, up_k, up_i, up_e, Int.toNat_natCast, tn7, tn8, tn12, tn3, tn120, tn1600, w32_and, w32_or, w32_xor, w32_shl, w32_shr, has2_eq]; exact is j hj
        · intro j hj; simp (disch := omega) only [Bool.false_eq_true, not_true_eq_false, not_false_eq_true, Nat.reduceAdd, Nat.reduceMul, w32_eq, w64_eq, lc_eq, lc_lt, lc_le, lc_gt, lc_ge, up_k, up_i, up_e, Int.toNat_natCast, tn7, tn8, tn12, tn3, tn120, tn1600, w32_and, w32_or, w32_xor, w32_shl, w32_shr, has2_eq]; exact ib j hj
        · intro j hj; simp (disch := omega) only [Bool.false_eq_true, not_true_eq_false, not_false_eq_true, Nat.reduceAdd, Nat.reduceMul, w32_eq, w64_eq, lc_eq, lc_lt, lc_le, lc_gt, lc_ge, up_k, up_i, up_e, Int.toNat_natCast, tn7, tn8, tn12, tn3, tn120, tn1600, w32_and, w32_or, w32_xor, w32_shl, w32_shr, has2_eq]; exact iw j hj
        · intro j hj; simp (disch := omega) only [Bool.false_eq_true, not_true_eq_false, not_false_eq_true, Nat.reduceAdd, Nat.reduceMul, w32_eq, w64_eq, lc_eq, lc_lt, lc_le, lc_gt, lc_ge, up_k, up_i, up_e, Int.toNat_natCast, tn7, tn8, tn12, tn3, tn120, tn1600, w32_and, w32_or, w32_xor, w32_shl, w32_shr, has2_eq]; exact id j hj
        · intro j hj; simp (disch := omega) only [Bool.false_eq_true, not_true_eq_false, not_false_eq_true, Nat.reduceAdd, Nat.reduceMul, w32_eq, w64_eq, lc_eq, lc_lt, lc_le, lc_gt, lc_ge, up_k, up_i, up_e, Int.toNat_natCast, tn7, tn8, tn12, tn3, tn120, tn1600, w32_and, w32_or, w32_xor, w32_shl, w32_shr, has2_eq]; exact it j hj
        · intro j hj; simp (disch := omega) only [Bool.false_eq_true, not_true_eq_false, not_false_eq_true, Nat.reduceAdd, Nat.reduceMul, w32_eq, w64_eq, lc_eq, lc_lt, lc_le, lc_gt, lc_ge, up_k, up_i, up_e, Int.toNat_natCast, tn7, tn8, tn12, tn3, tn120, tn1600, w32_and, w32_or, w32_xor, w32_shl, w32_shr, has2_eq]; exact iv j hj
        · intro j hj; simp (disch := omega) only [Bool.false_eq_true, not_true_eq_false, not_false_eq_true, Nat.reduceAdd, Nat.reduceMul, w32_eq, w64_eq, lc_eq, lc_lt, lc_le, lc_gt, lc_ge, up_k, up_i, up_e, Int.toNat_natCast, tn7, tn8, tn12, tn3, tn120, tn1600, w32_and, w32_or, w32_xor, w32_shl, w32_shr, has2_eq]; exact il j hj
        · intro j hj; simp (disch := omega) only [Bool.false_eq_true, not_true_eq_false, not_false_eq_true, Nat.reduceAdd, Nat.reduceMul, w32_eq, w64_eq, lc_eq, lc_lt, lc_le, lc_gt, lc_ge, up_k, up_i, up_e, Int.toNat_natCast, tn7, tn8, tn12, tn3, tn120, tn1600, w32_and, w32_or, w32_xor, w32_shl, w32_shr, has2_eq]; exact ix j hj
        · intro j hj hjs; simp (disch := omega) only [Bool.false_eq_true, not_true_eq_false, not_false_eq_true, Nat.reduceAdd, Nat.reduceMul, w32_eq, w64_eq, lc_eq, lc_lt, lc_le, lc_gt, lc_ge, up_k, up_i, up_e, Int.toNat_natCast, tn7, tn8, tn12, tn3, tn120, tn1600, w32_and, w32_or, w32_xor, w32_shl, w32_shr, has2_eq]; intro h
          obtain ⟨q1, q2, q3⟩ := isnd j hj h
          have hne : (X (th + 7) j).toNat ≠ k := fun e => hjs (iin j s hj g1 h g3 (by omega))
          exact ⟨q1, q2, by rw [up_i hne]; exact q3⟩
        · intro j hj; simp (disch := omega) only [Bool.false_eq_true, not_true_eq_false, not_false_eq_true, Nat.reduceAdd, Nat.reduceMul, w32_eq, w64_eq, lc_eq, lc_lt, lc_le, lc_gt, lc_ge, up_k, up_i, up_e, Int.toNat_natCast, tn7, tn8, tn12, tn3, tn120, tn1600, w32_and, w32_or, w32_xor, w32_shl, w32_shr, has2_eq]; exact inm j hj
        · intro j t hj ht; simp (disch := omega) only [Bool.false_eq_true, not_true_eq_false, not_false_eq_true, Nat.reduceAdd, Nat.reduceMul, w32_eq, w64_eq, lc_eq, lc_lt, lc_le, lc_gt, lc_ge, up_k, up_i, up_e, Int.toNat_natCast, tn7, tn8, tn12, tn3, tn120, tn1600, w32_and, w32_or, w32_xor, w32_shl, w32_shr, has2_eq]; exact iin j t hj ht
        · simp (disch := omega) only [Bool.false_eq_true, not_true_eq_false, not_false_eq_true, Nat.reduceAdd, Nat.reduceMul, w32_eq, w64_eq, lc_eq, lc_lt, lc_le, lc_gt, lc_ge, up_k, up_i, up_e, Int.toNat_natCast, tn7, tn8, tn12, tn3, tn120, tn1600, w32_and, w32_or, w32_xor, w32_shl, w32_shr, has2_eq]; exact im
        · simp (disch := omega) only [Bool.false_eq_true, not_true_eq_false, not_false_eq_true, Nat.reduceAdd, Nat.reduceMul, w32_eq, w64_eq, lc_eq, lc_lt, lc_le, lc_gt, lc_ge, up_k, up_i, up_e, Int.toNat_natCast, tn7, tn8, tn12, tn3, tn120, tn1600, w32_and, w32_or, w32_xor, w32_shl, w32_shr, has2_eq]; exact ik
      rw [bnd_id, bnd_id]
      refine two_mono (sim_conclx hTa hSa hIx hth hv g1 (by omega) (by rw [up_k (by omega)]; omega)) ?_
      rintro X1 M1 ⟨k1, k2, k3, k4, ⟨k5, k6⟩, k7, k8, k9⟩
      refine ⟨k1, k2, FXt_trans hfx k3, FMt_trans hfm k4, by rw [k8, up_k (by omega)], fun j hj => ?_, fun j hj h3 => ?_⟩
      · by_cases e : j = s
        · subst e
          rw [k5]
          exact ⟨fun _ => Or.inr ⟨g3, g4⟩, fun _ => rfl⟩
        · rw [(k6 j hj e).1, up_k (by omega)]
          constructor
          · intro h; exact Or.inl h
          · intro h; rcases h with h | ⟨h, h'⟩
            · exact h
            · exact absurd (iin j s hj g1 h g3 (by omega)) e
      · have e : j ≠ s := fun e => by subst e; omega
        rw [(k6 j hj e).1, up_k (by omega)]
