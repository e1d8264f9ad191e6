/-! THE PURE PART: a rule's value, in both -/
theorem x_told {w : Nat} {X : Mem} (hw : w < 3) (h1 : 0 ≤ X 36 w ∧ X 36 w ≤ 1600) (h2 : 0 ≤ X 35 w ∧ X 35 w ≤ 1600) : x_Rules_isTold 32 (w : Int) X = some (decide (X 35 w < X 36 w)) := by
  unfold x_Rules_isTold chk
  simp (disch := omega) only [Nat.reduceAdd, w32_eq, if_neg, if_pos, Int.toNat_natCast]
  by_cases h : X 36 w ≤ X 35 w
  · rw [if_pos h]; simp; omega
  · rw [if_neg h]; simp; omega
theorem m_told {w bk : Nat} {M : Mem} (hw : w < 3) (hb : M 0 13 = (bk : Int)) (hb2 : bk < 2) (h1 : -1 ≤ M 12 (3 * bk + w) ∧ M 12 (3 * bk + w) ≤ 1600) : m_isTold (w : Int) M = some (decide (M 12 (3 * bk + w) ≠ -1)) := by
  unfold m_isTold chk
  simp (disch := omega) only [hb, tn3, w32_eq, if_pos]
  by_cases h : M 12 (3 * bk + w) = -1
  · rw [if_pos h]; simp [h]
  · rw [if_neg h]; simp [h]
theorem asks_rng {w : Nat} {so : Int} (h : asks w so = true) : 1 ≤ so ∧ so ≤ 8 := by
  unfold asks at h
  simp only [Bool.or_eq_true, Bool.and_eq_true, decide_eq_true_eq] at h
  omega
theorem code_cls {x so va : Int} (hc : CodeEq x so va) : (so = 0 ∧ x = va ∧ 0 ≤ va ∧ va ≤ 9999) ∨ (1 ≤ so ∧ so ≤ 8 ∧ 10007 ≤ x ∧ x ≤ 10015 ∧ CodeEq x so 0) ∨ (so = 30 ∧ x = 1) ∨ (31 ≤ so ∧ so ≤ 42 ∧ 20000 ≤ x ∧ x ≤ 20062 ∧ x ≠ 20019 ∧ x ≠ 20016) ∨ (so = 43 ∧ x = 20019) ∨ (so = 44 ∧ x = 20016) := by
  have hc2 := hc
  unfold CodeEq at hc2
  rcases hc2 with h | h | h | h | h | h | h | h | h | h | h | h | h | h | h | h | h | h | h | h | h | h | h | h
  · exact Or.inl h
  iterate 8
    · obtain ⟨rfl, rfl⟩ := h
      exact Or.inr (Or.inl ⟨by omega, by omega, by omega, by omega, by unfold CodeEq; decide⟩)
  · exact Or.inr (Or.inr (Or.inl h))
  iterate 12
    · obtain ⟨rfl, rfl⟩ := h
      exact Or.inr (Or.inr (Or.inr (Or.inl ⟨by omega, by omega, by omega, by omega, by omega, by omega⟩)))
  · exact Or.inr (Or.inr (Or.inr (Or.inr (Or.inl h))))
  · exact Or.inr (Or.inr (Or.inr (Or.inr (Or.inr h))))
theorem tstep_push {w : Nat} {so : Int} {st st2 : List Bool} (h : tstep w so st = some st2) (g : 0 ≤ so ∧ so ≤ 8 ∨ so = 30) : st2 = decide (so = 30) :: st ∧ (so = 0 ∨ so = 30 ∨ asks w so = true) := by
  unfold tstep at h
  by_cases h0 : so = 0
  · subst h0; rw [if_pos rfl] at h; cases h; exact ⟨rfl, Or.inl rfl⟩
  · rw [if_neg h0] at h
    by_cases h1 : so = 30
    · subst h1; rw [if_pos rfl] at h; cases h; exact ⟨rfl, Or.inr (Or.inl rfl)⟩
    · rw [if_neg h1, if_pos (by omega)] at h
      by_cases h2 : asks w so = true
      · rw [if_pos h2] at h; cases h; exact ⟨by simp [h1], Or.inr (Or.inr h2)⟩
      · rw [if_neg h2] at h; cases h
theorem tstep_two {w : Nat} {so : Int} {st st2 : List Bool} (h : tstep w so st = some st2) (g : 31 ≤ so ∧ so ≤ 42) : ∃ r, st = decide (41 ≤ so) :: decide (41 ≤ so) :: r ∧ st2 = decide (38 ≤ so) :: r := by
  unfold tstep at h
  rw [if_neg (by omega), if_neg (by omega), if_neg (by omega)] at h
  by_cases h1 : so ≤ 37
  · rw [if_pos h1] at h
    split at h
    · cases h
      exact ⟨_, by rw [decide_eq_false (p := 41 ≤ so) (by omega)], by rw [decide_eq_false (p := 38 ≤ so) (by omega)]⟩
    · cases h
  · rw [if_neg h1] at h
    by_cases h2 : so ≤ 40
    · rw [if_pos h2] at h
      split at h
      · cases h
        exact ⟨_, by rw [decide_eq_false (p := 41 ≤ so) (by omega)], by rw [decide_eq_true (p := 38 ≤ so) (by omega)]⟩
      · cases h
    · rw [if_neg h2, if_pos (by omega)] at h
      split at h
      · cases h
        exact ⟨_, by rw [decide_eq_true (p := 41 ≤ so) (by omega)], by rw [decide_eq_true (p := 38 ≤ so) (by omega)]⟩
      · cases h
theorem tstep_not {w : Nat} {st st2 : List Bool} (h : tstep w 43 st = some st2) : ∃ r, st = true :: r ∧ st2 = true :: r := by
  unfold tstep at h
  rw [if_neg (by omega), if_neg (by omega), if_neg (by omega), if_neg (by omega), if_neg (by omega), if_neg (by omega), if_pos rfl] at h
  split at h
  · cases h; exact ⟨_, rfl, rfl⟩
  · cases h
theorem tstep_if {w : Nat} {st st2 : List Bool} (h : tstep w 44 st = some st2) : ∃ r, st = false :: false :: true :: r ∧ st2 = false :: r := by
  unfold tstep at h
  rw [if_neg (by omega), if_neg (by omega), if_neg (by omega), if_neg (by omega), if_neg (by omega), if_neg (by omega), if_neg (by omega)] at h
  split at h
  · cases h; exact ⟨_, rfl, rfl⟩
  · cases h
theorem sim_value {nv np ns bk w : Nat} {X M : Mem} (hT : RT nv np ns bk X M) (hw : w < 3) (htold : X 35 w < X 36 w) (hF : FactEq w X M) :
    two (x_Rules_value 32 (w : Int) X) (m_reckons (w : Int) M) (fun r q => r.1 = q.1 ∧ -1000000 ≤ r.1 ∧ r.1 ≤ 1000000 ∧ (w ≠ 0 → r.1 = 0 ∨ r.1 = 1) ∧ (∀ a, a ≠ 37 → r.2 a = X a) ∧ (∀ a, a ≠ 37 → q.2 a = M a)) := by
  obtain ⟨⟨tb, tb2, tnv, tnp, tns⟩, ⟨x0, x1, x2⟩, ⟨m0, m1, m2⟩, ⟨t3, t3a, t3b⟩, tpit, tper, tsay, trul⟩ := hT
  rcases trul w hw with ⟨z, -⟩ | ⟨f, N, hf, ht, hN, hfN, mf, mt, hcode, hrun⟩
  · omega
  have htx := x_told (X := X) hw (by omega) (by omega)
  unfold x_Rules_value m_reckons
  refine two_bnd_l (a := true) (by rw [htx]; simp [htold]) ?_
  repeat' (first | with_reducible refine two_lt_l ?_ | (with_reducible refine two_chk_l ?_ ?_; focus ((try simp (disch := omega) only [Bool.false_eq_true, not_true_eq_false, not_false_eq_true, Nat.reduceAdd, Nat.reduceMul, w32_eq, w64_eq, lc_eq, lc_lt, lc_le, lc_gt, lc_ge, up_k, up_i, up_e, Int.toNat_natCast, tn7, tn8, tn12, tn3, tn120, tn1600, w32_and, w32_or, w32_xor, w32_shl, w32_shr, has2_eq]) <;> omega)) | (with_reducible refine two_ite_l (fun hcl => ?_) (fun hcl => ?_) <;> (try simp (disch := omega) only [Bool.false_eq_true, not_true_eq_false, not_false_eq_true, Nat.reduceAdd, Nat.reduceMul, w32_eq, w64_eq, lc_eq, lc_lt, lc_le, lc_gt, lc_ge, up_k, up_i, up_e, Int.toNat_natCast, tn7, tn8, tn12, tn3, tn120, tn1600, w32_and, w32_or, w32_xor, w32_shl, w32_shr, has2_eq] at hcl) <;> (try (exfalso; first | omega | exact hcl rfl | exact hcl trivial | contradiction))))
  · repeat' (first | with_reducible refine two_lt_r ?_ | (with_reducible refine two_chk_r ?_ ?_; focus ((try simp (disch := omega) only [Bool.false_eq_true, not_true_eq_false, not_false_eq_true, Nat.reduceAdd, Nat.reduceMul, w32_eq, w64_eq, lc_eq, lc_lt, lc_le, lc_gt, lc_ge, up_k, up_i, up_e, Int.toNat_natCast, tn7, tn8, tn12, tn3, tn120, tn1600, w32_and, w32_or, w32_xor, w32_shl, w32_shr, has2_eq, tb]) <;> omega)) | (with_reducible refine two_ite_r (fun hcr => ?_) (fun hcr => ?_) <;> (try simp (disch := omega) only [Bool.false_eq_true, not_true_eq_false, not_false_eq_true, Nat.reduceAdd, Nat.reduceMul, w32_eq, w64_eq, lc_eq, lc_lt, lc_le, lc_gt, lc_ge, up_k, up_i, up_e, Int.toNat_natCast, tn7, tn8, tn12, tn3, tn120, tn1600, w32_and, w32_or, w32_xor, w32_shl, w32_shr, has2_eq, tb] at hcr) <;> (try (exfalso; first | omega | exact hcr rfl | exact hcr trivial | contradiction))))
    simp only [Int.toNat_natCast, hf, tb, tn3, mf]
    refine two_bnd (two_itr33 (fun n v2 v3 X1 u2 u3 M1 => ∃ (c : Nat) (st : List Bool), v2 = (st.length : Int) ∧ v3 = (c : Int) ∧ u2 = (st.length : Int) ∧ u3 = 1600 * (bk : Int) + (c : Int) ∧ f ≤ c ∧ c + n = f + N ∧ TRun w (fun c => M 14 (1600 * bk + c)) n c st [decide (w ≠ 0)] ∧ st.length ≤ 41 ∧ StkOK X1 M1 st ∧ (∀ a, a ≠ 37 → X1 a = X a) ∧ (∀ a, a ≠ 37 → M1 a = M a))
      (fun a b => ∃ (X1 M1 : Mem) (u v : Int), a = .inr (1, u, X1) ∧ b = (1, v, M1) ∧ StkOK X1 M1 [decide (w ≠ 0)] ∧ (∀ a, a ≠ 37 → X1 a = X a) ∧ (∀ a, a ≠ 37 → M1 a = M a)) ?_ FUEL N 0 f X 0 (1600 * (bk : Int) + (f : Int)) M (fuel_lt (by omega)) ⟨f, [], rfl, rfl, rfl, rfl, by omega, by omega, hrun, by simp, trivial, fun _ _ => rfl, fun _ _ => rfl⟩) ?_
    · rintro n v2 v3 X1 u2 u3 M1 ⟨c, st, rfl, rfl, rfl, rfl, hfc, hcn, hrn, h41, hst, hX1, hM1⟩ F G ih
      have a1 : X1 (32 + 4) = X 36 := hX1 36 (by omega)
      have a2 : X1 (32 + 2) = X 34 := hX1 34 (by omega)
      have a3 : X1 (32 + 1) = X 33 := hX1 33 (by omega)
      have b0 : M1 0 = M 0 := hM1 0 (by omega)
      have b1 : M1 13 = M 13 := hM1 13 (by omega)
      have b2 : M1 14 = M 14 := hM1 14 (by omega)
      have b3 : M1 15 = M 15 := hM1 15 (by omega)
      have b4 : M1 38 = M 38 := hM1 38 (by omega)
      unfold x_Rules_value_L19 m_reckons_L25
      cases n with
      | zero =>
        have hst1 : st = [decide (w ≠ 0)] := hrn
        subst hst1
        repeat' (first | with_reducible refine two_lt_l ?_ | (with_reducible refine two_chk_l ?_ ?_; focus ((try simp (disch := omega) only [Bool.false_eq_true, not_true_eq_false, not_false_eq_true, Nat.reduceAdd, Nat.reduceMul, w32_eq, w64_eq, lc_eq, lc_lt, lc_le, lc_gt, lc_ge, up_k, up_i, up_e, Int.toNat_natCast, tn7, tn8, tn12, tn3, tn120, tn1600, w32_and, w32_or, w32_xor, w32_shl, w32_shr, has2_eq, a1, ht]) <;> omega)) | (with_reducible refine two_ite_l (fun hcl => ?_) (fun hcl => ?_) <;> (try simp (disch := omega) only [Bool.false_eq_true, not_true_eq_false, not_false_eq_true, Nat.reduceAdd, Nat.reduceMul, w32_eq, w64_eq, lc_eq, lc_lt, lc_le, lc_gt, lc_ge, up_k, up_i, up_e, Int.toNat_natCast, tn7, tn8, tn12, tn3, tn120, tn1600, w32_and, w32_or, w32_xor, w32_shl, w32_shr, has2_eq, a1, ht] at hcl) <;> (try (exfalso; first | omega | exact hcl rfl | exact hcl trivial | contradiction))))
        repeat' (first | with_reducible refine two_lt_r ?_ | (with_reducible refine two_chk_r ?_ ?_; focus ((try simp (disch := omega) only [Bool.false_eq_true, not_true_eq_false, not_false_eq_true, Nat.reduceAdd, Nat.reduceMul, w32_eq, w64_eq, lc_eq, lc_lt, lc_le, lc_gt, lc_ge, up_k, up_i, up_e, Int.toNat_natCast, tn7, tn8, tn12, tn3, tn120, tn1600, w32_and, w32_or, w32_xor, w32_shl, w32_shr, has2_eq, b0, b1, tb, mt]) <;> omega)) | (with_reducible refine two_ite_r (fun hcr => ?_) (fun hcr => ?_) <;> (try simp (disch := omega) only [Bool.false_eq_true, not_true_eq_false, not_false_eq_true, Nat.reduceAdd, Nat.reduceMul, w32_eq, w64_eq, lc_eq, lc_lt, lc_le, lc_gt, lc_ge, up_k, up_i, up_e, Int.toNat_natCast, tn7, tn8, tn12, tn3, tn120, tn1600, w32_and, w32_or, w32_xor, w32_shl, w32_shr, has2_eq, b0, b1, tb, mt] at hcr) <;> (try (exfalso; first | omega | exact hcr rfl | exact hcr trivial | contradiction))))
        exact two_some ⟨X1, M1, _, _, rfl, rfl, hst, hX1, hM1⟩
      | succ n =>
        obtain ⟨st2, hts, h41b, hrn2⟩ := hrn
        have hc := hcode c hfc (by omega)
        simp only at hts
        obtain ⟨so, hso⟩ : ∃ so, M 14 (1600 * bk + c) = so := ⟨_, rfl⟩
        obtain ⟨va, hva⟩ : ∃ va, M 15 (1600 * bk + c) = va := ⟨_, rfl⟩
        obtain ⟨x, hx⟩ : ∃ x, X 34 c = x := ⟨_, rfl⟩
        rw [hso] at hts hc
        rw [hva, hx] at hc
        have hnext : ∀ (b : Bool) (u : Int) (X2 M2 : Mem) (st0 : List Bool) (i j k l : Int), st2 = b :: st0 → StkOK X1 M1 st0 → -1000000 ≤ u ∧ u ≤ 1000000 → (b = true → u = 0 ∨ u = 1) → X2 = upM X1 37 st0.length u → M2 = upM M1 37 st0.length u → i = st0.length + 1 → j = c + 1 → k = st0.length + 1 → l = 1600 * bk + c + 1 →
            two (F i j X2) (G k l M2) (fun a b => ∃ (X1 M1 : Mem) (u v : Int), a = .inr (1, u, X1) ∧ b = (1, v, M1) ∧ StkOK X1 M1 [decide (w ≠ 0)] ∧ (∀ a, a ≠ 37 → X1 a = X a) ∧ (∀ a, a ≠ 37 → M1 a = M a)) := by
          rintro b u X2 M2 st0 i j k l rfl h0 hu hb rfl rfl rfl rfl rfl rfl
          refine ih n _ _ _ _ _ _ (by omega) ⟨c + 1, b :: st0, ?_, by omega, ?_, by omega, by omega, by omega, hrn2, h41b, StkOK_push h0 hu hb, fun a ha => ?_, fun a ha => ?_⟩
          · rw [List.length_cons]; omega
          · rw [List.length_cons]; omega
          · rw [upM_row ha]; exact hX1 a ha
          · rw [upM_row ha]; exact hM1 a ha
        have hcc : w32 (M 13 (3 * bk + w)) = (f + N : Nat) := by rw [mt]; exact w32_eq (by omega) (by omega)
        rcases code_cls hc with ⟨rfl, rfl, g3, g4⟩ | ⟨g1, g2, g3, g4, g5⟩ | ⟨rfl, rfl⟩ | ⟨g1, g2, g3, g4, g5, g6⟩ | ⟨rfl, rfl⟩ | ⟨rfl, rfl⟩
        · obtain ⟨e2, -⟩ := tstep_push hts (by omega)
          repeat' (first | with_reducible refine two_lt_l ?_ | (with_reducible refine two_chk_l ?_ ?_; focus ((try simp (disch := omega) only [Bool.false_eq_true, not_true_eq_false, not_false_eq_true, Nat.reduceAdd, Nat.reduceMul, w32_eq, w64_eq, lc_eq, lc_lt, lc_le, lc_gt, lc_ge, up_k, up_i, up_e, Int.toNat_natCast, tn7, tn8, tn12, tn3, tn120, tn1600, w32_and, w32_or, w32_xor, w32_shl, w32_shr, has2_eq, a1, a2, ht, hx]) <;> omega)) | (with_reducible refine two_ite_l (fun hcl => ?_) (fun hcl => ?_) <;> (try simp (disch := omega) only [Bool.false_eq_true, not_true_eq_false, not_false_eq_true, Nat.reduceAdd, Nat.reduceMul, w32_eq, w64_eq, lc_eq, lc_lt, lc_le, lc_gt, lc_ge, up_k, up_i, up_e, Int.toNat_natCast, tn7, tn8, tn12, tn3, tn120, tn1600, w32_and, w32_or, w32_xor, w32_shl, w32_shr, has2_eq, a1, a2, ht, hx] at hcl) <;> (try (exfalso; first | omega | exact hcl rfl | exact hcl trivial | contradiction))))
          repeat' (first | with_reducible refine two_lt_r ?_ | (with_reducible refine two_chk_r ?_ ?_; focus ((try simp (disch := omega) only [Bool.false_eq_true, not_true_eq_false, not_false_eq_true, Nat.reduceAdd, Nat.reduceMul, w32_eq, w64_eq, lc_eq, lc_lt, lc_le, lc_gt, lc_ge, up_k, up_i, up_e, Int.toNat_natCast, tn7, tn8, tn12, tn3, tn120, tn1600, w32_and, w32_or, w32_xor, w32_shl, w32_shr, has2_eq, b0, b1, b2, b3, tb, mt, hso, hva]) <;> omega)) | (with_reducible refine two_ite_r (fun hcr => ?_) (fun hcr => ?_) <;> (try simp (disch := omega) only [Bool.false_eq_true, not_true_eq_false, not_false_eq_true, Nat.reduceAdd, Nat.reduceMul, w32_eq, w64_eq, lc_eq, lc_lt, lc_le, lc_gt, lc_ge, up_k, up_i, up_e, Int.toNat_natCast, tn7, tn8, tn12, tn3, tn120, tn1600, w32_and, w32_or, w32_xor, w32_shl, w32_shr, has2_eq, b0, b1, b2, b3, tb, mt, hso, hva] at hcr) <;> (try (exfalso; first | omega | exact hcr rfl | exact hcr trivial | contradiction))))
          simp (disch := omega) only [Bool.false_eq_true, not_true_eq_false, not_false_eq_true, Nat.reduceAdd, Nat.reduceMul, w32_eq, w64_eq, lc_eq, lc_lt, lc_le, lc_gt, lc_ge, up_k, up_i, up_e, Int.toNat_natCast, tn7, tn8, tn12, tn3, tn120, tn1600, w32_and, w32_or, w32_xor, w32_shl, w32_shr, has2_eq, a1, a2, ht, hx, b0, b1, b2, b3, tb, mt, hso, hva]
          exact hnext _ x _ _ st _ _ _ _ e2 hst (by omega) (fun h => by simp at h) rfl rfl rfl rfl rfl rfl
        · obtain ⟨e2, hf2⟩ := tstep_push hts (by omega)
          obtain ⟨k1, k2, k3⟩ := hF so x (by rcases hf2 with h | h | h; omega; omega; exact h) g5
          repeat' (first | with_reducible refine two_lt_l ?_ | (with_reducible refine two_chk_l ?_ ?_; focus ((try simp (disch := omega) only [Bool.false_eq_true, not_true_eq_false, not_false_eq_true, Nat.reduceAdd, Nat.reduceMul, w32_eq, w64_eq, lc_eq, lc_lt, lc_le, lc_gt, lc_ge, up_k, up_i, up_e, Int.toNat_natCast, tn7, tn8, tn12, tn3, tn120, tn1600, w32_and, w32_or, w32_xor, w32_shl, w32_shr, has2_eq, a1, a2, ht, hx]) <;> omega)) | (with_reducible refine two_ite_l (fun hcl => ?_) (fun hcl => ?_) <;> (try simp (disch := omega) only [Bool.false_eq_true, not_true_eq_false, not_false_eq_true, Nat.reduceAdd, Nat.reduceMul, w32_eq, w64_eq, lc_eq, lc_lt, lc_le, lc_gt, lc_ge, up_k, up_i, up_e, Int.toNat_natCast, tn7, tn8, tn12, tn3, tn120, tn1600, w32_and, w32_or, w32_xor, w32_shl, w32_shr, has2_eq, a1, a2, ht, hx] at hcl) <;> (try (exfalso; first | omega | exact hcl rfl | exact hcl trivial | contradiction))))
          unfold x_Rules_factOf
          refine two_bnd_l (a := M 38 so.toNat) ?_ ?_
          · simp (disch := omega) only [a2, a3, hx, w32_eq, if_neg, chk, if_pos, Int.toNat_natCast]
            rw [k1]
          · repeat' (first | with_reducible refine two_lt_l ?_ | (with_reducible refine two_chk_l ?_ ?_; focus ((try simp (disch := omega) only [Bool.false_eq_true, not_true_eq_false, not_false_eq_true, Nat.reduceAdd, Nat.reduceMul, w32_eq, w64_eq, lc_eq, lc_lt, lc_le, lc_gt, lc_ge, up_k, up_i, up_e, Int.toNat_natCast, tn7, tn8, tn12, tn3, tn120, tn1600, w32_and, w32_or, w32_xor, w32_shl, w32_shr, has2_eq]) <;> omega)) | (with_reducible refine two_ite_l (fun hcl => ?_) (fun hcl => ?_) <;> (try simp (disch := omega) only [Bool.false_eq_true, not_true_eq_false, not_false_eq_true, Nat.reduceAdd, Nat.reduceMul, w32_eq, w64_eq, lc_eq, lc_lt, lc_le, lc_gt, lc_ge, up_k, up_i, up_e, Int.toNat_natCast, tn7, tn8, tn12, tn3, tn120, tn1600, w32_and, w32_or, w32_xor, w32_shl, w32_shr, has2_eq] at hcl) <;> (try (exfalso; first | omega | exact hcl rfl | exact hcl trivial | contradiction))))
            repeat' (first | with_reducible refine two_lt_r ?_ | (with_reducible refine two_chk_r ?_ ?_; focus ((try simp (disch := omega) only [Bool.false_eq_true, not_true_eq_false, not_false_eq_true, Nat.reduceAdd, Nat.reduceMul, w32_eq, w64_eq, lc_eq, lc_lt, lc_le, lc_gt, lc_ge, up_k, up_i, up_e, Int.toNat_natCast, tn7, tn8, tn12, tn3, tn120, tn1600, w32_and, w32_or, w32_xor, w32_shl, w32_shr, has2_eq, b0, b1, b2, b3, b4, tb, mt, hso, hva]) <;> omega)) | (with_reducible refine two_ite_r (fun hcr => ?_) (fun hcr => ?_) <;> (try simp (disch := omega) only [Bool.false_eq_true, not_true_eq_false, not_false_eq_true, Nat.reduceAdd, Nat.reduceMul, w32_eq, w64_eq, lc_eq, lc_lt, lc_le, lc_gt, lc_ge, up_k, up_i, up_e, Int.toNat_natCast, tn7, tn8, tn12, tn3, tn120, tn1600, w32_and, w32_or, w32_xor, w32_shl, w32_shr, has2_eq, b0, b1, b2, b3, b4, tb, mt, hso, hva] at hcr) <;> (try (exfalso; first | omega | exact hcr rfl | exact hcr trivial | contradiction))))
            simp (disch := omega) only [Bool.false_eq_true, not_true_eq_false, not_false_eq_true, Nat.reduceAdd, Nat.reduceMul, w32_eq, w64_eq, lc_eq, lc_lt, lc_le, lc_gt, lc_ge, up_k, up_i, up_e, Int.toNat_natCast, tn7, tn8, tn12, tn3, tn120, tn1600, w32_and, w32_or, w32_xor, w32_shl, w32_shr, has2_eq, a1, a2, ht, hx, b0, b1, b2, b3, b4, tb, mt, hso, hva]
            exact hnext _ (M 38 so.toNat) _ _ st _ _ _ _ e2 hst ⟨k2, k3⟩ (fun h => by simp at h; omega) rfl rfl rfl rfl rfl rfl
        · obtain ⟨e2, -⟩ := tstep_push hts (by omega)
          repeat' (first | with_reducible refine two_lt_l ?_ | (with_reducible refine two_chk_l ?_ ?_; focus ((try simp (disch := omega) only [Bool.false_eq_true, not_true_eq_false, not_false_eq_true, Nat.reduceAdd, Nat.reduceMul, w32_eq, w64_eq, lc_eq, lc_lt, lc_le, lc_gt, lc_ge, up_k, up_i, up_e, Int.toNat_natCast, tn7, tn8, tn12, tn3, tn120, tn1600, w32_and, w32_or, w32_xor, w32_shl, w32_shr, has2_eq, a1, a2, ht, hx]) <;> omega)) | (with_reducible refine two_ite_l (fun hcl => ?_) (fun hcl => ?_) <;> (try simp (disch := omega) only [Bool.false_eq_true, not_true_eq_false, not_false_eq_true, Nat.reduceAdd, Nat.reduceMul, w32_eq, w64_eq, lc_eq, lc_lt, lc_le, lc_gt, lc_ge, up_k, up_i, up_e, Int.toNat_natCast, tn7, tn8, tn12, tn3, tn120, tn1600, w32_and, w32_or, w32_xor, w32_shl, w32_shr, has2_eq, a1, a2, ht, hx] at hcl) <;> (try (exfalso; first | omega | exact hcl rfl | exact hcl trivial | contradiction))))
          repeat' (first | with_reducible refine two_lt_r ?_ | (with_reducible refine two_chk_r ?_ ?_; focus ((try simp (disch := omega) only [Bool.false_eq_true, not_true_eq_false, not_false_eq_true, Nat.reduceAdd, Nat.reduceMul, w32_eq, w64_eq, lc_eq, lc_lt, lc_le, lc_gt, lc_ge, up_k, up_i, up_e, Int.toNat_natCast, tn7, tn8, tn12, tn3, tn120, tn1600, w32_and, w32_or, w32_xor, w32_shl, w32_shr, has2_eq, b0, b1, b2, b3, tb, mt, hso, hva]) <;> omega)) | (with_reducible refine two_ite_r (fun hcr => ?_) (fun hcr => ?_) <;> (try simp (disch := omega) only [Bool.false_eq_true, not_true_eq_false, not_false_eq_true, Nat.reduceAdd, Nat.reduceMul, w32_eq, w64_eq, lc_eq, lc_lt, lc_le, lc_gt, lc_ge, up_k, up_i, up_e, Int.toNat_natCast, tn7, tn8, tn12, tn3, tn120, tn1600, w32_and, w32_or, w32_xor, w32_shl, w32_shr, has2_eq, b0, b1, b2, b3, tb, mt, hso, hva] at hcr) <;> (try (exfalso; first | omega | exact hcr rfl | exact hcr trivial | contradiction))))
          simp (disch := omega) only [Bool.false_eq_true, not_true_eq_false, not_false_eq_true, Nat.reduceAdd, Nat.reduceMul, w32_eq, w64_eq, lc_eq, lc_lt, lc_le, lc_gt, lc_ge, up_k, up_i, up_e, Int.toNat_natCast, tn7, tn8, tn12, tn3, tn120, tn1600, w32_and, w32_or, w32_xor, w32_shl, w32_shr, has2_eq, a1, a2, ht, hx, b0, b1, b2, b3, tb, mt, hso, hva]
          exact hnext _ 1 _ _ st _ _ _ _ e2 hst (by omega) (fun h => by omega) rfl rfl rfl rfl rfl rfl
        · obtain ⟨r, rfl, e2⟩ := tstep_two hts (by omega)
          obtain ⟨s1, s2, s3, s4, s5, s6, s7, s8, s9⟩ := hst
          simp only [List.length_cons] at s1 s2 s3 s4 h41
          obtain ⟨u, c1, c2, c3, c4, c5⟩ := sim_two (X := X1) (M := M1) hc ⟨g1, g2⟩ ⟨s6, s7⟩ ⟨s2, s3⟩ (fun h => ⟨s8 (by simp [h]), s4 (by simp [h])⟩)
          simp only [List.length_cons]
          have n1 : ((↑(r.length + 1 + 1) : Int) + -1 - 1).toNat = r.length := by omega
          have n2 : ((↑(r.length + 1 + 1) : Int) + -1).toNat = r.length + 1 := by omega
          repeat' (first | with_reducible refine two_lt_l ?_ | (with_reducible refine two_chk_l ?_ ?_; focus ((try simp (disch := omega) only [Bool.false_eq_true, not_true_eq_false, not_false_eq_true, Nat.reduceAdd, Nat.reduceMul, w32_eq, w64_eq, lc_eq, lc_lt, lc_le, lc_gt, lc_ge, up_k, up_i, up_e, Int.toNat_natCast, tn7, tn8, tn12, tn3, tn120, tn1600, w32_and, w32_or, w32_xor, w32_shl, w32_shr, has2_eq, a1, a2, ht, hx]) <;> omega)) | (with_reducible refine two_ite_l (fun hcl => ?_) (fun hcl => ?_) <;> (try simp (disch := omega) only [Bool.false_eq_true, not_true_eq_false, not_false_eq_true, Nat.reduceAdd, Nat.reduceMul, w32_eq, w64_eq, lc_eq, lc_lt, lc_le, lc_gt, lc_ge, up_k, up_i, up_e, Int.toNat_natCast, tn7, tn8, tn12, tn3, tn120, tn1600, w32_and, w32_or, w32_xor, w32_shl, w32_shr, has2_eq, a1, a2, ht, hx] at hcl) <;> (try (exfalso; first | omega | exact hcl rfl | exact hcl trivial | contradiction))))
          refine two_bnd_l (a := u) ?_ ?_
          · simp only [n1, n2, a2, hx, Int.toNat_natCast, Nat.reduceAdd, s1, s5]
            exact c1
          · repeat' (first | with_reducible refine two_lt_l ?_ | (with_reducible refine two_chk_l ?_ ?_; focus ((try simp (disch := omega) only [Bool.false_eq_true, not_true_eq_false, not_false_eq_true, Nat.reduceAdd, Nat.reduceMul, w32_eq, w64_eq, lc_eq, lc_lt, lc_le, lc_gt, lc_ge, up_k, up_i, up_e, Int.toNat_natCast, tn7, tn8, tn12, tn3, tn120, tn1600, w32_and, w32_or, w32_xor, w32_shl, w32_shr, has2_eq]) <;> omega)) | (with_reducible refine two_ite_l (fun hcl => ?_) (fun hcl => ?_) <;> (try simp (disch := omega) only [Bool.false_eq_true, not_true_eq_false, not_false_eq_true, Nat.reduceAdd, Nat.reduceMul, w32_eq, w64_eq, lc_eq, lc_lt, lc_le, lc_gt, lc_ge, up_k, up_i, up_e, Int.toNat_natCast, tn7, tn8, tn12, tn3, tn120, tn1600, w32_and, w32_or, w32_xor, w32_shl, w32_shr, has2_eq] at hcl) <;> (try (exfalso; first | omega | exact hcl rfl | exact hcl trivial | contradiction))))
            repeat' (first | with_reducible refine two_lt_r ?_ | (with_reducible refine two_chk_r ?_ ?_; focus ((try simp (disch := omega) only [Bool.false_eq_true, not_true_eq_false, not_false_eq_true, Nat.reduceAdd, Nat.reduceMul, w32_eq, w64_eq, lc_eq, lc_lt, lc_le, lc_gt, lc_ge, up_k, up_i, up_e, Int.toNat_natCast, tn7, tn8, tn12, tn3, tn120, tn1600, w32_and, w32_or, w32_xor, w32_shl, w32_shr, has2_eq, b0, b1, b2, b3, tb, mt, hso, hva]) <;> omega)) | (with_reducible refine two_ite_r (fun hcr => ?_) (fun hcr => ?_) <;> (try simp (disch := omega) only [Bool.false_eq_true, not_true_eq_false, not_false_eq_true, Nat.reduceAdd, Nat.reduceMul, w32_eq, w64_eq, lc_eq, lc_lt, lc_le, lc_gt, lc_ge, up_k, up_i, up_e, Int.toNat_natCast, tn7, tn8, tn12, tn3, tn120, tn1600, w32_and, w32_or, w32_xor, w32_shl, w32_shr, has2_eq, b0, b1, b2, b3, tb, mt, hso, hva] at hcr) <;> (try (exfalso; first | omega | exact hcr rfl | exact hcr trivial | contradiction))))
            refine two_bnd_r (a := u) ?_ ?_
            · simp only [n1, n2, b2, tn1600, hso]
              exact c2
            · repeat' (first | with_reducible refine two_lt_r ?_ | (with_reducible refine two_chk_r ?_ ?_; focus ((try simp (disch := omega) only [Bool.false_eq_true, not_true_eq_false, not_false_eq_true, Nat.reduceAdd, Nat.reduceMul, w32_eq, w64_eq, lc_eq, lc_lt, lc_le, lc_gt, lc_ge, up_k, up_i, up_e, Int.toNat_natCast, tn7, tn8, tn12, tn3, tn120, tn1600, w32_and, w32_or, w32_xor, w32_shl, w32_shr, has2_eq]) <;> omega)) | (with_reducible refine two_ite_r (fun hcr => ?_) (fun hcr => ?_) <;> (try simp (disch := omega) only [Bool.false_eq_true, not_true_eq_false, not_false_eq_true, Nat.reduceAdd, Nat.reduceMul, w32_eq, w64_eq, lc_eq, lc_lt, lc_le, lc_gt, lc_ge, up_k, up_i, up_e, Int.toNat_natCast, tn7, tn8, tn12, tn3, tn120, tn1600, w32_and, w32_or, w32_xor, w32_shl, w32_shr, has2_eq] at hcr) <;> (try (exfalso; first | omega | exact hcr rfl | exact hcr trivial | contradiction))))
              simp only [n1]
              exact hnext _ u _ _ r _ _ _ _ e2 s9 ⟨c3, c4⟩ (fun h => c5 (by simpa using h)) rfl rfl (by omega) rfl (by omega) rfl
        · obtain ⟨r, rfl, e2⟩ := tstep_not hts
          obtain ⟨s1, s2, s3, s4, s5⟩ := hst
          simp only [List.length_cons] at h41
          simp only [List.length_cons]
          have n1 : ((↑(r.length + 1) : Int) - 1).toNat = r.length := by omega
          repeat' (first | with_reducible refine two_lt_l ?_ | (with_reducible refine two_chk_l ?_ ?_; focus ((try simp (disch := omega) only [Bool.false_eq_true, not_true_eq_false, not_false_eq_true, Nat.reduceAdd, Nat.reduceMul, w32_eq, w64_eq, lc_eq, lc_lt, lc_le, lc_gt, lc_ge, up_k, up_i, up_e, Int.toNat_natCast, tn7, tn8, tn12, tn3, tn120, tn1600, w32_and, w32_or, w32_xor, w32_shl, w32_shr, has2_eq, a1, a2, ht, hx]) <;> omega)) | (with_reducible refine two_ite_l (fun hcl => ?_) (fun hcl => ?_) <;> (try simp (disch := omega) only [Bool.false_eq_true, not_true_eq_false, not_false_eq_true, Nat.reduceAdd, Nat.reduceMul, w32_eq, w64_eq, lc_eq, lc_lt, lc_le, lc_gt, lc_ge, up_k, up_i, up_e, Int.toNat_natCast, tn7, tn8, tn12, tn3, tn120, tn1600, w32_and, w32_or, w32_xor, w32_shl, w32_shr, has2_eq, a1, a2, ht, hx] at hcl) <;> (try (exfalso; first | omega | exact hcl rfl | exact hcl trivial | contradiction))))
          repeat' (first | with_reducible refine two_lt_r ?_ | (with_reducible refine two_chk_r ?_ ?_; focus ((try simp (disch := omega) only [Bool.false_eq_true, not_true_eq_false, not_false_eq_true, Nat.reduceAdd, Nat.reduceMul, w32_eq, w64_eq, lc_eq, lc_lt, lc_le, lc_gt, lc_ge, up_k, up_i, up_e, Int.toNat_natCast, tn7, tn8, tn12, tn3, tn120, tn1600, w32_and, w32_or, w32_xor, w32_shl, w32_shr, has2_eq, b0, b1, b2, b3, tb, mt, hso, hva]) <;> omega)) | (with_reducible refine two_ite_r (fun hcr => ?_) (fun hcr => ?_) <;> (try simp (disch := omega) only [Bool.false_eq_true, not_true_eq_false, not_false_eq_true, Nat.reduceAdd, Nat.reduceMul, w32_eq, w64_eq, lc_eq, lc_lt, lc_le, lc_gt, lc_ge, up_k, up_i, up_e, Int.toNat_natCast, tn7, tn8, tn12, tn3, tn120, tn1600, w32_and, w32_or, w32_xor, w32_shl, w32_shr, has2_eq, b0, b1, b2, b3, tb, mt, hso, hva] at hcr) <;> (try (exfalso; first | omega | exact hcr rfl | exact hcr trivial | contradiction))))
          simp only [n1]
          exact hnext _ (1 - M1 37 r.length) _ _ r _ _ _ _ e2 s5 (by have := s4 rfl; omega) (fun _ => by have := s4 rfl; omega) (by rw [← s1]) rfl (by omega) rfl (by omega) rfl
        · obtain ⟨r, rfl, e2⟩ := tstep_if hts
          obtain ⟨s1, s2, s3, s4, s5, s6, s7, s8, p1, p2, p3, p4, p5⟩ := hst
          simp only [List.length_cons] at h41 s1 s2 s3 s4 s5 s6 s7 s8
          simp only [List.length_cons]
          have q4 := p4 rfl
          have n1 : ((↑(r.length + 1 + 1 + 1) : Int) + -2 - 1).toNat = r.length := by omega
          have n2 : ((↑(r.length + 1 + 1 + 1) : Int) + -2).toNat = r.length + 1 := by omega
          have n3 : ((↑(r.length + 1 + 1 + 1) : Int) + -2 + 1).toNat = r.length + 1 + 1 := by omega
          repeat' (first | with_reducible refine two_lt_l ?_ | (with_reducible refine two_chk_l ?_ ?_; focus ((try simp (disch := omega) only [Bool.false_eq_true, not_true_eq_false, not_false_eq_true, Nat.reduceAdd, Nat.reduceMul, w32_eq, w64_eq, lc_eq, lc_lt, lc_le, lc_gt, lc_ge, up_k, up_i, up_e, Int.toNat_natCast, tn7, tn8, tn12, tn3, tn120, tn1600, w32_and, w32_or, w32_xor, w32_shl, w32_shr, has2_eq, a1, a2, ht, hx, n1, n2, n3]) <;> omega)) | (with_reducible refine two_ite_l (fun hcl => ?_) (fun hcl => ?_) <;> (try simp (disch := omega) only [Bool.false_eq_true, not_true_eq_false, not_false_eq_true, Nat.reduceAdd, Nat.reduceMul, w32_eq, w64_eq, lc_eq, lc_lt, lc_le, lc_gt, lc_ge, up_k, up_i, up_e, Int.toNat_natCast, tn7, tn8, tn12, tn3, tn120, tn1600, w32_and, w32_or, w32_xor, w32_shl, w32_shr, has2_eq, a1, a2, ht, hx, n1, n2, n3] at hcl) <;> (try (exfalso; first | omega | exact hcl rfl | exact hcl trivial | contradiction))))
          · repeat' (first | with_reducible refine two_lt_r ?_ | (with_reducible refine two_chk_r ?_ ?_; focus ((try simp (disch := omega) only [Bool.false_eq_true, not_true_eq_false, not_false_eq_true, Nat.reduceAdd, Nat.reduceMul, w32_eq, w64_eq, lc_eq, lc_lt, lc_le, lc_gt, lc_ge, up_k, up_i, up_e, Int.toNat_natCast, tn7, tn8, tn12, tn3, tn120, tn1600, w32_and, w32_or, w32_xor, w32_shl, w32_shr, has2_eq, b0, b1, b2, b3, tb, mt, hso, hva, n1, n2, n3]) <;> omega)) | (with_reducible refine two_ite_r (fun hcr => ?_) (fun hcr => ?_) <;> (try simp (disch := omega) only [Bool.false_eq_true, not_true_eq_false, not_false_eq_true, Nat.reduceAdd, Nat.reduceMul, w32_eq, w64_eq, lc_eq, lc_lt, lc_le, lc_gt, lc_ge, up_k, up_i, up_e, Int.toNat_natCast, tn7, tn8, tn12, tn3, tn120, tn1600, w32_and, w32_or, w32_xor, w32_shl, w32_shr, has2_eq, b0, b1, b2, b3, tb, mt, hso, hva, n1, n2, n3] at hcr) <;> (try (exfalso; first | omega | exact hcr rfl | exact hcr trivial | contradiction))))
            simp only [n1, n2, n3]
            exact hnext _ (M1 37 (r.length + 1 + 1)) _ _ r _ _ _ _ e2 p5 ⟨s2, s3⟩ (fun h => by simp at h) (by rw [← s1]) rfl (by omega) rfl (by omega) rfl
          · repeat' (first | with_reducible refine two_lt_r ?_ | (with_reducible refine two_chk_r ?_ ?_; focus ((try simp (disch := omega) only [Bool.false_eq_true, not_true_eq_false, not_false_eq_true, Nat.reduceAdd, Nat.reduceMul, w32_eq, w64_eq, lc_eq, lc_lt, lc_le, lc_gt, lc_ge, up_k, up_i, up_e, Int.toNat_natCast, tn7, tn8, tn12, tn3, tn120, tn1600, w32_and, w32_or, w32_xor, w32_shl, w32_shr, has2_eq, b0, b1, b2, b3, tb, mt, hso, hva, n1, n2, n3]) <;> omega)) | (with_reducible refine two_ite_r (fun hcr => ?_) (fun hcr => ?_) <;> (try simp (disch := omega) only [Bool.false_eq_true, not_true_eq_false, not_false_eq_true, Nat.reduceAdd, Nat.reduceMul, w32_eq, w64_eq, lc_eq, lc_lt, lc_le, lc_gt, lc_ge, up_k, up_i, up_e, Int.toNat_natCast, tn7, tn8, tn12, tn3, tn120, tn1600, w32_and, w32_or, w32_xor, w32_shl, w32_shr, has2_eq, b0, b1, b2, b3, tb, mt, hso, hva, n1, n2, n3] at hcr) <;> (try (exfalso; first | omega | exact hcr rfl | exact hcr trivial | contradiction))))
            simp only [n1, n2, n3]
            exact hnext _ (M1 37 (r.length + 1)) _ _ r _ _ _ _ e2 p5 ⟨s6, s7⟩ (fun h => by simp at h) (by rw [← s5]) rfl (by omega) rfl (by omega) rfl
    · rintro a b ⟨X1, M1, u, v, rfl, rfl, ⟨s1, s2, s3, s4, -⟩, hX1, hM1⟩
      show two (if ¬ w32 1 = w32 1 then _ else _) _ _
      refine two_ite_l (fun h => absurd rfl h) (fun _ => ?_)
      refine two_some ⟨s1, ?_, ?_, ?_, hX1, hM1⟩
      · show -1000000 ≤ X1 37 0
        have : X1 37 0 = M1 37 0 := s1
        have : -1000000 ≤ M1 37 0 := s2
        omega
      · show X1 37 0 ≤ 1000000
        have : X1 37 0 = M1 37 0 := s1
        have : M1 37 0 ≤ 1000000 := s3
        omega
      · intro h0
        have : X1 37 0 = M1 37 0 := s1
        have : M1 37 0 = 0 ∨ M1 37 0 = 1 := s4 (by simp [h0])
        show X1 37 0 = 0 ∨ X1 37 0 = 1
        omega
