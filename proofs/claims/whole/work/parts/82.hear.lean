/-! THE PURE PART: hear -/
/-- the i-th row of the tape is a row of what was heard -/
def RowOk (nv ns : Nat) (X : Mem) (i : Nat) : Prop := X 2 (3 * i) < 31 ∧ X 2 (3 * i + 1) < (ns : Int) ∧ (X 2 (3 * i + 2) < (nv : Int) ∨ X 2 (3 * i + 2) = 255)
theorem x_isRow_is {nv np ns bk i : Nat} {X M : Mem} (hT : RT nv np ns bk X M) (ht : RTape X M) (hi : i < 16) : post (x_Heard_isRow 2 1600 (3 * (i : Int)) X) (fun b => b = true ↔ RowOk nv ns X i) := by
  obtain ⟨⟨tb, tb2, tnv, tnp, tns⟩, ⟨x0, x1, x2⟩, ⟨m0, m1, m2⟩, ⟨t3, t3a, t3b⟩, tpit, tper, tsay, trul⟩ := hT
  obtain ⟨-, -, -, h4⟩ := ht
  have a0 := (h4 (3 * i) (by omega)).2
  have a1 := (h4 (3 * i + 1) (by omega)).2
  have a2 := (h4 (3 * i + 2) (by omega)).2
  have t0 : (3 * (i : Int)).toNat = 3 * i := by omega
  have t1 : (3 * (i : Int) + 1).toNat = 3 * i + 1 := by omega
  have t2 : (3 * (i : Int) + 2).toNat = 3 * i + 2 := by omega
  have t3 : ((1600 : Nat) : Int) = 1600 := rfl
  unfold x_Heard_isRow x_Heard_isRow_B40 x_Heard_isRow_B45
  unfold RowOk
  repeat' (first | with_reducible refine post_lt ?_ | (with_reducible refine post_chk ?_ ?_; focus ((try simp (disch := omega) only [Bool.false_eq_true, not_true_eq_false, not_false_eq_true, Nat.reduceAdd, Nat.reduceMul, w32_eq, w64_eq, lc_eq, lc_lt, lc_le, lc_gt, lc_ge, up_k, up_i, up_e, Int.toNat_natCast, tn7, tn8, tn12, tn3, tn120, tn1600, w32_and, w32_or, w32_xor, w32_shl, w32_shr, has2_eq, t0, t1, t2, t3, x0, x2]) <;> omega)) | (with_reducible refine post_ite (fun hcp => ?_) (fun hcp => ?_) <;> (try simp (disch := omega) only [Bool.false_eq_true, not_true_eq_false, not_false_eq_true, Nat.reduceAdd, Nat.reduceMul, w32_eq, w64_eq, lc_eq, lc_lt, lc_le, lc_gt, lc_ge, up_k, up_i, up_e, Int.toNat_natCast, tn7, tn8, tn12, tn3, tn120, tn1600, w32_and, w32_or, w32_xor, w32_shl, w32_shr, has2_eq, t0, t1, t2, t3, x0, x2] at hcp) <;> (try (exfalso; first | omega | exact hcp rfl | exact hcp trivial | contradiction))))
  all_goals first
    | exact post_some ⟨fun q => (by cases q), fun q => (by exfalso; obtain ⟨q1, q2, q3⟩ := q; omega)⟩
    | exact post_some ⟨fun q => ⟨by omega, by omega, by omega⟩, fun q => rfl⟩
    | skip
theorem x_rows_is {nv np ns bk n : Nat} {X M : Mem} (hT : RT nv np ns bk X M) (ht : RTape X M) (hn : n ≤ 16) :
    post (itr1 (x_Heard_take_L32 (n : Int) X) FUEL 0) (fun p => (p = .inl (-1, X) ∧ ¬ ∀ i, i < n → RowOk nv ns X i) ∨ (p = .inr (n : Int) ∧ ∀ i, i < n → RowOk nv ns X i)) := by
  refine post_itr1 (fun m (i : Int) => ∃ c : Nat, i = (c : Int) ∧ c ≤ n ∧ m = n - c ∧ ∀ j, j < c → RowOk nv ns X j) _ ?_ FUEL n 0 (fuel_lt (by omega)) ⟨0, rfl, by omega, rfl, fun v hv => by omega⟩
  rintro m i ⟨c, rfl, hc, rfl, hall⟩ F ih
  unfold x_Heard_take_L32
  by_cases h : c < n
  · repeat' (first | with_reducible refine post_lt ?_ | (with_reducible refine post_chk ?_ ?_; focus ((try simp (disch := omega) only [Bool.false_eq_true, not_true_eq_false, not_false_eq_true, Nat.reduceAdd, Nat.reduceMul, w32_eq, w64_eq, lc_eq, lc_lt, lc_le, lc_gt, lc_ge, up_k, up_i, up_e, Int.toNat_natCast, tn7, tn8, tn12, tn3, tn120, tn1600, w32_and, w32_or, w32_xor, w32_shl, w32_shr, has2_eq]) <;> omega)) | (with_reducible refine post_ite (fun hcp => ?_) (fun hcp => ?_) <;> (try simp (disch := omega) only [Bool.false_eq_true, not_true_eq_false, not_false_eq_true, Nat.reduceAdd, Nat.reduceMul, w32_eq, w64_eq, lc_eq, lc_lt, lc_le, lc_gt, lc_ge, up_k, up_i, up_e, Int.toNat_natCast, tn7, tn8, tn12, tn3, tn120, tn1600, w32_and, w32_or, w32_xor, w32_shl, w32_shr, has2_eq] at hcp) <;> (try (exfalso; first | omega | exact hcp rfl | exact hcp trivial | contradiction))))
    refine post_bnd (x_isRow_is hT ht (show c < 16 by omega)) ?_
    intro b hb
    cases b with
    | true =>
      rw [if_pos rfl]
      refine post_lt ?_
      refine ih (n - (c + 1)) _ (by omega) ⟨c + 1, rfl, by omega, rfl, fun j hj => ?_⟩
      by_cases e : j = c
      · subst e; exact hb.mp rfl
      · exact hall j (by omega)
    | false =>
      rw [if_neg (by simp)]
      exact post_some (Or.inl ⟨rfl, fun q => by have := hb.mpr (q c h); cases this⟩)
  · have e : c = n := by omega
    subst e
    repeat' (first | with_reducible refine post_lt ?_ | (with_reducible refine post_chk ?_ ?_; focus ((try simp (disch := omega) only [Bool.false_eq_true, not_true_eq_false, not_false_eq_true, Nat.reduceAdd, Nat.reduceMul, w32_eq, w64_eq, lc_eq, lc_lt, lc_le, lc_gt, lc_ge, up_k, up_i, up_e, Int.toNat_natCast, tn7, tn8, tn12, tn3, tn120, tn1600, w32_and, w32_or, w32_xor, w32_shl, w32_shr, has2_eq]) <;> omega)) | (with_reducible refine post_ite (fun hcp => ?_) (fun hcp => ?_) <;> (try simp (disch := omega) only [Bool.false_eq_true, not_true_eq_false, not_false_eq_true, Nat.reduceAdd, Nat.reduceMul, w32_eq, w64_eq, lc_eq, lc_lt, lc_le, lc_gt, lc_ge, up_k, up_i, up_e, Int.toNat_natCast, tn7, tn8, tn12, tn3, tn120, tn1600, w32_and, w32_or, w32_xor, w32_shl, w32_shr, has2_eq] at hcp) <;> (try (exfalso; first | omega | exact hcp rfl | exact hcp trivial | contradiction))))
    exact post_some (Or.inr ⟨rfl, hall⟩)
theorem m_rows_is {nv np ns bk n : Nat} {X M : Mem} (hT : RT nv np ns bk X M) (ht : ∀ j, j < 1600 → X 2 j = M 1 j ∧ 0 ≤ X 2 j ∧ X 2 j ≤ 255) (hn : n ≤ 16) :
    post (itr2 (m_hear_L34 (3 * (n : Int)) M) FUEL 1 0) (fun p => (p.1 = 0 ∧ ¬ ∀ i, i < n → RowOk nv ns X i) ∨ (p.1 = 1 ∧ ∀ i, i < n → RowOk nv ns X i)) := by
  refine post_itr2 (fun m (f i : Int) => ∃ c : Nat, i = 3 * (c : Int) ∧ c ≤ n ∧ m = n - c ∧ ((f = 0 ∧ ¬ ∀ j, j < n → RowOk nv ns X j) ∨ (f = 1 ∧ ∀ j, j < c → RowOk nv ns X j))) _ ?_ FUEL n 1 0 (fuel_lt (by omega)) ⟨0, rfl, by omega, rfl, Or.inr ⟨rfl, fun v hv => by omega⟩⟩
  rintro m f i ⟨c, rfl, hc, rfl, hall⟩ F ih
  unfold m_hear_L34
  by_cases h : c < n
  · have g0 := ht (3 * c) (by omega)
    have g1 := ht (3 * c + 1) (by omega)
    have g2 := ht (3 * c + 2) (by omega)
    have t0 : (3 * (c : Int)).toNat = 3 * c := by omega
    have t1 : (3 * (c : Int) + 1).toNat = 3 * c + 1 := by omega
    have t2 : (3 * (c : Int) + 2).toNat = 3 * c + 2 := by omega
    rcases hall with ⟨rfl, hno⟩ | ⟨rfl, hall⟩
    · repeat' (first | with_reducible refine post_lt ?_ | (with_reducible refine post_chk ?_ ?_; focus ((try simp (disch := omega) only [Bool.false_eq_true, not_true_eq_false, not_false_eq_true, Nat.reduceAdd, Nat.reduceMul, w32_eq, w64_eq, lc_eq, lc_lt, lc_le, lc_gt, lc_ge, up_k, up_i, up_e, Int.toNat_natCast, tn7, tn8, tn12, tn3, tn120, tn1600, w32_and, w32_or, w32_xor, w32_shl, w32_shr, has2_eq]) <;> omega)) | (with_reducible refine post_ite (fun hcp => ?_) (fun hcp => ?_) <;> (try simp (disch := omega) only [Bool.false_eq_true, not_true_eq_false, not_false_eq_true, Nat.reduceAdd, Nat.reduceMul, w32_eq, w64_eq, lc_eq, lc_lt, lc_le, lc_gt, lc_ge, up_k, up_i, up_e, Int.toNat_natCast, tn7, tn8, tn12, tn3, tn120, tn1600, w32_and, w32_or, w32_xor, w32_shl, w32_shr, has2_eq] at hcp) <;> (try (exfalso; first | omega | exact hcp rfl | exact hcp trivial | contradiction))))
      exact post_some (Or.inl ⟨rfl, hno⟩)
    · have bad : ¬ RowOk nv ns X c → post (lt (3 * (c : Int) + 3) (fun v3_104 => F 0 v3_104)) (fun p => (p.1 = 0 ∧ ¬ ∀ i, i < n → RowOk nv ns X i) ∨ (p.1 = 1 ∧ ∀ i, i < n → RowOk nv ns X i)) := fun hb => by
        refine post_lt ?_
        exact ih (n - (c + 1)) _ _ (by omega) ⟨c + 1, by omega, by omega, rfl, Or.inl ⟨rfl, fun q => hb (q c h)⟩⟩
      have good : RowOk nv ns X c → post (lt (3 * (c : Int) + 3) (fun v3_104 => F 1 v3_104)) (fun p => (p.1 = 0 ∧ ¬ ∀ i, i < n → RowOk nv ns X i) ∨ (p.1 = 1 ∧ ∀ i, i < n → RowOk nv ns X i)) := fun hb => by
        refine post_lt ?_
        refine ih (n - (c + 1)) _ _ (by omega) ⟨c + 1, by omega, by omega, rfl, Or.inr ⟨rfl, fun j hj => ?_⟩⟩
        by_cases e : j = c
        · subst e; exact hb
        · exact hall j (by omega)
      have hs := (xm_isSaying (a := X 2 (3 * c + 1)) hT (by omega)).2
      have hv := (xm_isVoice (a := X 2 (3 * c + 2)) hT (by omega)).2
      unfold RowOk at bad good
      rw [t0, t1, t2, ← g0.1, ← g1.1, ← g2.1, hs, hv]
      simp only [bnd_some]
      generalize hw : lt (3 * (c : Int) + 3) (fun v3_104 => F 0 v3_104) = wb at bad ⊢
      generalize hw1 : lt (3 * (c : Int) + 3) (fun v3_104 => F 1 v3_104) = wg at good ⊢
      repeat' (first | with_reducible refine post_lt ?_ | (with_reducible refine post_chk ?_ ?_; focus ((try simp (disch := omega) only [Bool.false_eq_true, not_true_eq_false, not_false_eq_true, Nat.reduceAdd, Nat.reduceMul, w32_eq, w64_eq, lc_eq, lc_lt, lc_le, lc_gt, lc_ge, up_k, up_i, up_e, Int.toNat_natCast, tn7, tn8, tn12, tn3, tn120, tn1600, w32_and, w32_or, w32_xor, w32_shl, w32_shr, has2_eq, decide_eq_true_eq]) <;> omega)) | (with_reducible refine post_ite (fun hcp => ?_) (fun hcp => ?_) <;> (try simp (disch := omega) only [Bool.false_eq_true, not_true_eq_false, not_false_eq_true, Nat.reduceAdd, Nat.reduceMul, w32_eq, w64_eq, lc_eq, lc_lt, lc_le, lc_gt, lc_ge, up_k, up_i, up_e, Int.toNat_natCast, tn7, tn8, tn12, tn3, tn120, tn1600, w32_and, w32_or, w32_xor, w32_shl, w32_shr, has2_eq, decide_eq_true_eq] at hcp) <;> (try (exfalso; first | omega | exact hcp rfl | exact hcp trivial | contradiction))))
      all_goals first
        | exact bad (by omega)
        | exact good (by omega)
        | skip
  · have e : c = n := by omega
    subst e
    repeat' (first | with_reducible refine post_lt ?_ | (with_reducible refine post_chk ?_ ?_; focus ((try simp (disch := omega) only [Bool.false_eq_true, not_true_eq_false, not_false_eq_true, Nat.reduceAdd, Nat.reduceMul, w32_eq, w64_eq, lc_eq, lc_lt, lc_le, lc_gt, lc_ge, up_k, up_i, up_e, Int.toNat_natCast, tn7, tn8, tn12, tn3, tn120, tn1600, w32_and, w32_or, w32_xor, w32_shl, w32_shr, has2_eq]) <;> omega)) | (with_reducible refine post_ite (fun hcp => ?_) (fun hcp => ?_) <;> (try simp (disch := omega) only [Bool.false_eq_true, not_true_eq_false, not_false_eq_true, Nat.reduceAdd, Nat.reduceMul, w32_eq, w64_eq, lc_eq, lc_lt, lc_le, lc_gt, lc_ge, up_k, up_i, up_e, Int.toNat_natCast, tn7, tn8, tn12, tn3, tn120, tn1600, w32_and, w32_or, w32_xor, w32_shl, w32_shr, has2_eq] at hcp) <;> (try (exfalso; first | omega | exact hcp rfl | exact hcp trivial | contradiction))))
    refine post_some ?_
    rcases hall with ⟨rfl, hno⟩ | ⟨rfl, hall⟩
    · exact Or.inl ⟨rfl, hno⟩
    · exact Or.inr ⟨rfl, hall⟩
def HeardTo (nv ns c : Nat) (X M : Mem) : Prop := ∀ i : Nat, i < c → X 355 i = M 41 i ∧ 0 ≤ X 355 i ∧ X 355 i ≤ 30 ∧ X 356 i = M 42 i ∧ 0 ≤ X 356 i ∧ X 356 i < (ns : Int) ∧ ((X 357 i = 7 ∧ M 43 i = -1) ∨ (X 357 i = M 43 i ∧ 0 ≤ M 43 i ∧ M 43 i < (nv : Int)))
theorem sim_rows {nv ns n : Nat} {X M : Mem} (ht : ∀ j, j < 1600 → X 2 j = M 1 j ∧ 0 ≤ X 2 j ∧ X 2 j ≤ 255) (hnv : nv ≤ 7) (hn : n ≤ 16) (hok : ∀ i, i < n → RowOk nv ns X i) (h63 : M 0 63 = (n : Int)) :
    two (itr2 (x_Heard_take_L61 (n : Int)) FUEL 0 X) (itr2 m_hear_L129 FUEL 0 M) (fun p q => HeardTo nv ns n p.2 q.2 ∧ (∀ a, (a < 355 ∨ 357 < a) → p.2 a = X a) ∧ (∀ a, (a < 41 ∨ 43 < a) → q.2 a = M a)) := by
  refine two_itr22 (fun m (i : Int) X1 (j : Int) M1 => ∃ c : Nat, i = (c : Int) ∧ j = (c : Int) ∧ c ≤ n ∧ m = n - c ∧ HeardTo nv ns c X1 M1 ∧ (∀ a, (a < 355 ∨ 357 < a) → X1 a = X a) ∧ (∀ a, (a < 41 ∨ 43 < a) → M1 a = M a)) _ ?_ FUEL n 0 X 0 M (fuel_lt (by omega)) ⟨0, rfl, rfl, by omega, rfl, fun i hi => by omega, fun _ _ => rfl, fun _ _ => rfl⟩
  rintro m i X1 j M1 ⟨c, rfl, rfl, hc, rfl, hall, hx, hm⟩ F G ih
  unfold x_Heard_take_L61 m_hear_L129
  have hm0 : M1 0 63 = (n : Int) := by rw [hm 0 (by omega)]; exact h63
  by_cases h : c < n
  · have hok := hok c h
    have g0 := ht (3 * c) (by omega)
    have g1 := ht (3 * c + 1) (by omega)
    have g2 := ht (3 * c + 2) (by omega)
    have t0 : (3 * (c : Int)).toNat = 3 * c := by omega
    have t1 : (3 * (c : Int) + 1).toNat = 3 * c + 1 := by omega
    have t2 : (3 * (c : Int) + 2).toNat = 3 * c + 2 := by omega
    have hx2 : X1 2 = X 2 := hx 2 (by omega)
    have hm1 : M1 1 = M 1 := hm 1 (by omega)
    obtain ⟨o1, o2, o3⟩ := hok
    repeat' (first | with_reducible refine two_lt_l ?_ | (with_reducible refine two_chk_l ?_ ?_; focus ((try simp (disch := omega) only [Bool.false_eq_true, not_true_eq_false, not_false_eq_true, Nat.reduceAdd, Nat.reduceMul, w32_eq, w64_eq, lc_eq, lc_lt, lc_le, lc_gt, lc_ge, up_k, up_i, up_e, Int.toNat_natCast, tn7, tn8, tn12, tn3, tn120, tn1600, w32_and, w32_or, w32_xor, w32_shl, w32_shr, has2_eq, t0, t1, t2, hx2]) <;> omega)) | (with_reducible refine two_ite_l (fun hcl => ?_) (fun hcl => ?_) <;> (try simp (disch := omega) only [Bool.false_eq_true, not_true_eq_false, not_false_eq_true, Nat.reduceAdd, Nat.reduceMul, w32_eq, w64_eq, lc_eq, lc_lt, lc_le, lc_gt, lc_ge, up_k, up_i, up_e, Int.toNat_natCast, tn7, tn8, tn12, tn3, tn120, tn1600, w32_and, w32_or, w32_xor, w32_shl, w32_shr, has2_eq, t0, t1, t2, hx2] at hcl) <;> (try (exfalso; first | omega | exact hcl rfl | exact hcl trivial | contradiction))))
    · repeat' (first | with_reducible refine two_lt_r ?_ | (with_reducible refine two_chk_r ?_ ?_; focus ((try simp (disch := omega) only [Bool.false_eq_true, not_true_eq_false, not_false_eq_true, Nat.reduceAdd, Nat.reduceMul, w32_eq, w64_eq, lc_eq, lc_lt, lc_le, lc_gt, lc_ge, up_k, up_i, up_e, Int.toNat_natCast, tn7, tn8, tn12, tn3, tn120, tn1600, w32_and, w32_or, w32_xor, w32_shl, w32_shr, has2_eq, t0, t1, t2, hm1, hm0, ← g0.1, ← g1.1, ← g2.1]) <;> omega)) | (with_reducible refine two_ite_r (fun hcr => ?_) (fun hcr => ?_) <;> (try simp (disch := omega) only [Bool.false_eq_true, not_true_eq_false, not_false_eq_true, Nat.reduceAdd, Nat.reduceMul, w32_eq, w64_eq, lc_eq, lc_lt, lc_le, lc_gt, lc_ge, up_k, up_i, up_e, Int.toNat_natCast, tn7, tn8, tn12, tn3, tn120, tn1600, w32_and, w32_or, w32_xor, w32_shl, w32_shr, has2_eq, t0, t1, t2, hm1, hm0, ← g0.1, ← g1.1, ← g2.1] at hcr) <;> (try (exfalso; first | omega | exact hcr rfl | exact hcr trivial | contradiction))))
      simp (disch := omega) only [up_k, up_i, up_e, Int.toNat_natCast, t0, t1, t2, hx2, hm1, ← g0.1, ← g1.1, ← g2.1]
      refine ih (n - (c + 1)) _ _ _ _ (by omega) ⟨c + 1, by omega, by omega, by omega, rfl, fun i hi => ?_, fun a ha => ?_, fun a ha => ?_⟩
      · by_cases e : i = c
        · subst e
          simp (disch := omega) only [up_k, up_i, up_e]
          refine ⟨trivial, g0.2.1, by omega, trivial, g1.2.1, o2, Or.inr ⟨trivial, g2.2.1, by omega⟩⟩
        · simp (disch := omega) only [up_k, up_i, up_e]
          exact hall i (by omega)
      · rw [upM_row (by omega), upM_row (by omega), upM_row (by omega)]; exact hx a ha
      · rw [upM_row (by omega), upM_row (by omega), upM_row (by omega)]; exact hm a ha
    · repeat' (first | with_reducible refine two_lt_r ?_ | (with_reducible refine two_chk_r ?_ ?_; focus ((try simp (disch := omega) only [Bool.false_eq_true, not_true_eq_false, not_false_eq_true, Nat.reduceAdd, Nat.reduceMul, w32_eq, w64_eq, lc_eq, lc_lt, lc_le, lc_gt, lc_ge, up_k, up_i, up_e, Int.toNat_natCast, tn7, tn8, tn12, tn3, tn120, tn1600, w32_and, w32_or, w32_xor, w32_shl, w32_shr, has2_eq, t0, t1, t2, hm1, hm0, ← g0.1, ← g1.1, ← g2.1]) <;> omega)) | (with_reducible refine two_ite_r (fun hcr => ?_) (fun hcr => ?_) <;> (try simp (disch := omega) only [Bool.false_eq_true, not_true_eq_false, not_false_eq_true, Nat.reduceAdd, Nat.reduceMul, w32_eq, w64_eq, lc_eq, lc_lt, lc_le, lc_gt, lc_ge, up_k, up_i, up_e, Int.toNat_natCast, tn7, tn8, tn12, tn3, tn120, tn1600, w32_and, w32_or, w32_xor, w32_shl, w32_shr, has2_eq, t0, t1, t2, hm1, hm0, ← g0.1, ← g1.1, ← g2.1] at hcr) <;> (try (exfalso; first | omega | exact hcr rfl | exact hcr trivial | contradiction))))
      simp (disch := omega) only [up_k, up_i, up_e, Int.toNat_natCast, t0, t1, t2, hx2, hm1, ← g0.1, ← g1.1, ← g2.1]
      refine ih (n - (c + 1)) _ _ _ _ (by omega) ⟨c + 1, by omega, by omega, by omega, rfl, fun i hi => ?_, fun a ha => ?_, fun a ha => ?_⟩
      · by_cases e : i = c
        · subst e
          simp (disch := omega) only [up_k, up_i, up_e]
          refine ⟨trivial, g0.2.1, by omega, trivial, g1.2.1, o2, Or.inl ⟨trivial, trivial⟩⟩
        · simp (disch := omega) only [up_k, up_i, up_e]
          exact hall i (by omega)
      · rw [upM_row (by omega), upM_row (by omega), upM_row (by omega)]; exact hx a ha
      · rw [upM_row (by omega), upM_row (by omega), upM_row (by omega)]; exact hm a ha
  · have e : c = n := by omega
    subst e
    repeat' (first | with_reducible refine two_lt_l ?_ | (with_reducible refine two_chk_l ?_ ?_; focus ((try simp (disch := omega) only [Bool.false_eq_true, not_true_eq_false, not_false_eq_true, Nat.reduceAdd, Nat.reduceMul, w32_eq, w64_eq, lc_eq, lc_lt, lc_le, lc_gt, lc_ge, up_k, up_i, up_e, Int.toNat_natCast, tn7, tn8, tn12, tn3, tn120, tn1600, w32_and, w32_or, w32_xor, w32_shl, w32_shr, has2_eq]) <;> omega)) | (with_reducible refine two_ite_l (fun hcl => ?_) (fun hcl => ?_) <;> (try simp (disch := omega) only [Bool.false_eq_true, not_true_eq_false, not_false_eq_true, Nat.reduceAdd, Nat.reduceMul, w32_eq, w64_eq, lc_eq, lc_lt, lc_le, lc_gt, lc_ge, up_k, up_i, up_e, Int.toNat_natCast, tn7, tn8, tn12, tn3, tn120, tn1600, w32_and, w32_or, w32_xor, w32_shl, w32_shr, has2_eq] at hcl) <;> (try (exfalso; first | omega | exact hcl rfl | exact hcl trivial | contradiction))))
    repeat' (first | with_reducible refine two_lt_r ?_ | (with_reducible refine two_chk_r ?_ ?_; focus ((try simp (disch := omega) only [Bool.false_eq_true, not_true_eq_false, not_false_eq_true, Nat.reduceAdd, Nat.reduceMul, w32_eq, w64_eq, lc_eq, lc_lt, lc_le, lc_gt, lc_ge, up_k, up_i, up_e, Int.toNat_natCast, tn7, tn8, tn12, tn3, tn120, tn1600, w32_and, w32_or, w32_xor, w32_shl, w32_shr, has2_eq, hm0]) <;> omega)) | (with_reducible refine two_ite_r (fun hcr => ?_) (fun hcr => ?_) <;> (try simp (disch := omega) only [Bool.false_eq_true, not_true_eq_false, not_false_eq_true, Nat.reduceAdd, Nat.reduceMul, w32_eq, w64_eq, lc_eq, lc_lt, lc_le, lc_gt, lc_ge, up_k, up_i, up_e, Int.toNat_natCast, tn7, tn8, tn12, tn3, tn120, tn1600, w32_and, w32_or, w32_xor, w32_shl, w32_shr, has2_eq, hm0] at hcr) <;> (try (exfalso; first | omega | exact hcr rfl | exact hcr trivial | contradiction))))
    exact two_some ⟨hall, hx, hm⟩
/-- a row of what was heard, and all else as it was -/
theorem RAll_heard {nv np ns bk k : Nat} {X M X1 M1 : Mem} (h : RAll nv np ns bk k X M) (hx : ∀ a, (a < 354 ∨ 357 < a) → X1 a = X a) (hm : ∀ a, a ≠ 0 → (a < 41 ∨ 43 < a) → M1 a = M a) (h0 : ∀ j, j ≠ 63 → M1 0 j = M 0 j) (hH : RHeard nv ns X1 M1) : RAll nv np ns bk k X1 M1 := by
  obtain ⟨h1, h2, h3, h4, h5, h6, h7, h8, h9, h10⟩ := h
  have hns := h1.1.2.2.2.2
  have hnv := h1.1.2.2.1
  exact ⟨RT_of h1 (fun a q1 q2 q3 => hx a (by omega)) (h0 13 (by omega)) (fun a q1 q2 => hm a (by omega) (by omega)), RS_of h2 (fun a q1 q2 => hx a (by omega)) (fun a q1 q2 => hm a (by omega) (by omega)), SI_of h3 (fun a q1 q2 => hx a (by omega)),
    RPast_of h4 hnv hns (hx 64 (by omega)) (fun a q1 q2 => hx a (by omega)) (h0 56 (by omega)) (h0 57 (by omega)) (fun a i q1 q2 q3 => by rw [hm a (by omega) (by omega)]),
    RTape_of h5 (by rw [hx 1 (by omega)]) (hx 2 (by omega)) (h0 1 (by omega)) (hm 1 (by omega) (by omega)), RFault_of h6 (hx 3 (by omega)) (h0 10 (by omega)) (h0 11 (by omega)), RRef_of h7 (hx 372 (by omega)) (hm 24 (by omega) (by omega)),
    RSeed_of h8 (by rw [hx 0 (by omega)]) (h0 58 (by omega)), hH, RPic_of h10 (by rw [hx 370 (by omega)]) (hx 371 (by omega)) (h0 69 (by omega)) (hm 45 (by omega) (by omega))⟩
theorem ls_hear : LS_hear RR := by
  rintro k X M hk ⟨nv, np, ns, bk, hR⟩
  apply ls_of
  have hR0 := RAll_len0 hR
  have hno := two_none (g := 5) hR0 (by omega)
  have hT := hR.1
  have hnv := hT.1.2.2.1
  have ht := hR.2.2.2.2.1
  have htc := ht
  obtain ⟨t1, t2, t3, t4⟩ := htc
  obtain ⟨L, hL⟩ := Int.eq_ofNat_of_zero_le t2
  have hL1 : M 0 1 = (L : Int) := by omega
  have d1 : ((L : Int)).tdiv 3 = ((L / 3 : Nat) : Int) := by rw [Int.tdiv_eq_ediv_of_nonneg (by omega)]; omega
  have d2 : ((L : Int)).tmod 3 = ((L % 3 : Nat) : Int) := by rw [Int.tmod_eq_emod_of_nonneg (by omega)]; omega
  have w3 : w32 3 = 3 := w32_eq (by omega) (by omega)
  have hTm : RT nv np ns bk X (upM M 0 1 0) := RT_of hT (fun _ _ _ _ => rfl) (by rw [up_i (by omega)]) (fun a q1 q2 => upM_row (by omega))
  unfold x_X_hear
  by_cases hl : 1 ≤ L / 3 ∧ L / 3 ≤ 16 ∧ L % 3 = 0
  · obtain ⟨n, hn⟩ : ∃ n, L / 3 = n := ⟨_, rfl⟩
    have hLn : L = 3 * n := by omega
    rw [hn] at d1
    obtain ⟨p, e1, c1⟩ := x_rows_is (n := n) hT ht (by omega)
    obtain ⟨⟨f, q⟩, e2, c2⟩ := m_rows_is (n := n) hTm (fun j hj => by rw [up_k (by omega)]; exact t4 j hj) (by omega)
    simp only at c2
    rw [show 3 * (n : Int) = (L : Int) by omega] at e2
    by_cases hok : ∀ i, i < n → RowOk nv ns X i
    · have hp : p = .inr (n : Int) := c1.elim (fun q => absurd hok q.2) (fun q => q.1)
      have hf : f = 1 := c2.elim (fun q => absurd hok q.2) (fun q => q.1)
      subst hp
      subst hf
      obtain ⟨⟨a, X1⟩, ⟨b, M1⟩, g1, g2, g3, g4, g5⟩ := sim_rows (X := X) (M := upM (upM M 0 1 0) 0 63 (n : Int)) (ns := ns) (fun j hj => by rw [up_k (by omega), up_k (by omega)]; exact t4 j hj) hnv (show n ≤ 16 by omega) hok up_e
      simp only at g3 g4 g5
      have hx : post (x_Heard_take X) (fun p => p = ((n : Int), upM X1 354 0 (n : Int))) := by
        unfold x_Heard_take
        repeat' (first | with_reducible refine post_lt ?_ | (with_reducible refine post_chk ?_ ?_; focus ((try simp (disch := omega) only [Bool.false_eq_true, not_true_eq_false, not_false_eq_true, Nat.reduceAdd, Nat.reduceMul, w32_eq, w64_eq, lc_eq, lc_lt, lc_le, lc_gt, lc_ge, up_k, up_i, up_e, Int.toNat_natCast, tn7, tn8, tn12, tn3, tn120, tn1600, w32_and, w32_or, w32_xor, w32_shl, w32_shr, has2_eq, hL, d1]) <;> omega)) | (with_reducible refine post_ite (fun hcp => ?_) (fun hcp => ?_) <;> (try simp (disch := omega) only [Bool.false_eq_true, not_true_eq_false, not_false_eq_true, Nat.reduceAdd, Nat.reduceMul, w32_eq, w64_eq, lc_eq, lc_lt, lc_le, lc_gt, lc_ge, up_k, up_i, up_e, Int.toNat_natCast, tn7, tn8, tn12, tn3, tn120, tn1600, w32_and, w32_or, w32_xor, w32_shl, w32_shr, has2_eq, hL, d1] at hcp) <;> (try (exfalso; first | omega | exact hcp rfl | exact hcp trivial | contradiction))))
        simp (disch := omega) only [hL, w32_eq, d1]
        refine post_bnde e1 ?_
        refine post_bnde g1 ?_
        repeat' (first | with_reducible refine post_lt ?_ | (with_reducible refine post_chk ?_ ?_; focus ((try simp (disch := omega) only [Bool.false_eq_true, not_true_eq_false, not_false_eq_true, Nat.reduceAdd, Nat.reduceMul, w32_eq, w64_eq, lc_eq, lc_lt, lc_le, lc_gt, lc_ge, up_k, up_i, up_e, Int.toNat_natCast, tn7, tn8, tn12, tn3, tn120, tn1600, w32_and, w32_or, w32_xor, w32_shl, w32_shr, has2_eq]) <;> omega)) | (with_reducible refine post_ite (fun hcp => ?_) (fun hcp => ?_) <;> (try simp (disch := omega) only [Bool.false_eq_true, not_true_eq_false, not_false_eq_true, Nat.reduceAdd, Nat.reduceMul, w32_eq, w64_eq, lc_eq, lc_lt, lc_le, lc_gt, lc_ge, up_k, up_i, up_e, Int.toNat_natCast, tn7, tn8, tn12, tn3, tn120, tn1600, w32_and, w32_or, w32_xor, w32_shl, w32_shr, has2_eq] at hcp) <;> (try (exfalso; first | omega | exact hcp rfl | exact hcp trivial | contradiction))))
        exact post_some rfl
      have h63 : M1 0 63 = (n : Int) := by rw [g5 0 (by omega), up_e]
      have hm : post (m_hear M) (fun p => p = ((n : Int), M1)) := by
        unfold m_hear m_hear_B30 m_hear_B31
        rw [hL1]
        repeat' (first | with_reducible refine post_lt ?_ | (with_reducible refine post_chk ?_ ?_; focus ((try simp (disch := omega) only [Bool.false_eq_true, not_true_eq_false, not_false_eq_true, Nat.reduceAdd, Nat.reduceMul, w32_eq, w64_eq, lc_eq, lc_lt, lc_le, lc_gt, lc_ge, up_k, up_i, up_e, Int.toNat_natCast, tn7, tn8, tn12, tn3, tn120, tn1600, w32_and, w32_or, w32_xor, w32_shl, w32_shr, has2_eq, d2]) <;> omega)) | (with_reducible refine post_ite (fun hcp => ?_) (fun hcp => ?_) <;> (try simp (disch := omega) only [Bool.false_eq_true, not_true_eq_false, not_false_eq_true, Nat.reduceAdd, Nat.reduceMul, w32_eq, w64_eq, lc_eq, lc_lt, lc_le, lc_gt, lc_ge, up_k, up_i, up_e, Int.toNat_natCast, tn7, tn8, tn12, tn3, tn120, tn1600, w32_and, w32_or, w32_xor, w32_shl, w32_shr, has2_eq, d2] at hcp) <;> (try (exfalso; first | omega | exact hcp rfl | exact hcp trivial | contradiction))))
        refine post_bnde e2 ?_
        repeat' (first | with_reducible refine post_lt ?_ | (with_reducible refine post_chk ?_ ?_; focus ((try simp (disch := omega) only [Bool.false_eq_true, not_true_eq_false, not_false_eq_true, Nat.reduceAdd, Nat.reduceMul, w32_eq, w64_eq, lc_eq, lc_lt, lc_le, lc_gt, lc_ge, up_k, up_i, up_e, Int.toNat_natCast, tn7, tn8, tn12, tn3, tn120, tn1600, w32_and, w32_or, w32_xor, w32_shl, w32_shr, has2_eq, d1]) <;> omega)) | (with_reducible refine post_ite (fun hcp => ?_) (fun hcp => ?_) <;> (try simp (disch := omega) only [Bool.false_eq_true, not_true_eq_false, not_false_eq_true, Nat.reduceAdd, Nat.reduceMul, w32_eq, w64_eq, lc_eq, lc_lt, lc_le, lc_gt, lc_ge, up_k, up_i, up_e, Int.toNat_natCast, tn7, tn8, tn12, tn3, tn120, tn1600, w32_and, w32_or, w32_xor, w32_shl, w32_shr, has2_eq, d1] at hcp) <;> (try (exfalso; first | omega | exact hcp rfl | exact hcp trivial | contradiction))))
        simp (disch := omega) only [w32_eq, d1]
        refine post_bnde g2 ?_
        rw [← h63]
        exact post_some rfl
      obtain ⟨_, e3, rfl⟩ := hx
      obtain ⟨_, e4, rfl⟩ := hm
      rw [e3, e4, bnd2_some]
      repeat' (first | with_reducible refine two_lt_l ?_ | (with_reducible refine two_chk_l ?_ ?_; focus ((try simp (disch := omega) only [Bool.false_eq_true, not_true_eq_false, not_false_eq_true, Nat.reduceAdd, Nat.reduceMul, w32_eq, w64_eq, lc_eq, lc_lt, lc_le, lc_gt, lc_ge, up_k, up_i, up_e, Int.toNat_natCast, tn7, tn8, tn12, tn3, tn120, tn1600, w32_and, w32_or, w32_xor, w32_shl, w32_shr, has2_eq]) <;> omega)) | (with_reducible refine two_ite_l (fun hcl => ?_) (fun hcl => ?_) <;> (try simp (disch := omega) only [Bool.false_eq_true, not_true_eq_false, not_false_eq_true, Nat.reduceAdd, Nat.reduceMul, w32_eq, w64_eq, lc_eq, lc_lt, lc_le, lc_gt, lc_ge, up_k, up_i, up_e, Int.toNat_natCast, tn7, tn8, tn12, tn3, tn120, tn1600, w32_and, w32_or, w32_xor, w32_shl, w32_shr, has2_eq] at hcl) <;> (try (exfalso; first | omega | exact hcl rfl | exact hcl trivial | contradiction))))
      suffices hfin : RAll nv np ns bk k (upM (upM X1 354 0 (n : Int)) 1 1 0) M1 from two_some ⟨rfl, nv, np, ns, bk, RAll_up hfin⟩
      refine RAll_heard hR0 (fun a ha => ?_) (fun a ha hb => ?_) (fun j hj => ?_) ?_
      rotate_left 3
      · refine ⟨?_, ?_, ?_, ?_⟩
        · rw [up_k (by omega), up_e, h63]
        · rw [up_k (by omega), up_e]; omega
        · rw [up_k (by omega), up_e]; omega
        · intro i hi
          rw [up_k (by omega), up_e] at hi
          simp (disch := omega) only [up_k]
          exact g3 i (by omega)
      · by_cases e : a = 1
        · subst e; funext j
          by_cases ej : j = 1
          · subst ej; rw [up_e, up_e]
          · rw [up_i ej, up_i ej, upM_row (by omega), g4 1 (by omega)]
        · rw [upM_row (by omega), upM_row (by omega), upM_row (by omega)]; exact g4 a (by omega)
      · rw [g5 a hb, upM_row ha]
      · rw [g5 0 (by omega), up_i hj]
    · have hp : p = .inl (-1, X) := c1.elim (fun q => q.1) (fun q => absurd q.2 hok)
      have hf : f = 0 := c2.elim (fun q => q.1) (fun q => absurd q.2 hok)
      subst hp
      subst hf
      have hx : post (x_Heard_take X) (fun p => p = (-1, X)) := by
        unfold x_Heard_take
        repeat' (first | with_reducible refine post_lt ?_ | (with_reducible refine post_chk ?_ ?_; focus ((try simp (disch := omega) only [Bool.false_eq_true, not_true_eq_false, not_false_eq_true, Nat.reduceAdd, Nat.reduceMul, w32_eq, w64_eq, lc_eq, lc_lt, lc_le, lc_gt, lc_ge, up_k, up_i, up_e, Int.toNat_natCast, tn7, tn8, tn12, tn3, tn120, tn1600, w32_and, w32_or, w32_xor, w32_shl, w32_shr, has2_eq, hL, d1]) <;> omega)) | (with_reducible refine post_ite (fun hcp => ?_) (fun hcp => ?_) <;> (try simp (disch := omega) only [Bool.false_eq_true, not_true_eq_false, not_false_eq_true, Nat.reduceAdd, Nat.reduceMul, w32_eq, w64_eq, lc_eq, lc_lt, lc_le, lc_gt, lc_ge, up_k, up_i, up_e, Int.toNat_natCast, tn7, tn8, tn12, tn3, tn120, tn1600, w32_and, w32_or, w32_xor, w32_shl, w32_shr, has2_eq, hL, d1] at hcp) <;> (try (exfalso; first | omega | exact hcp rfl | exact hcp trivial | contradiction))))
        simp (disch := omega) only [hL, w32_eq, d1]
        refine post_bnde e1 ?_
        exact post_some rfl
      obtain ⟨_, e3, rfl⟩ := hx
      rw [e3, bnd2_some]
      unfold m_hear m_hear_B30 m_hear_B31
      rw [hL1]
      repeat' (first | with_reducible refine two_lt_l ?_ | (with_reducible refine two_chk_l ?_ ?_; focus ((try simp (disch := omega) only [Bool.false_eq_true, not_true_eq_false, not_false_eq_true, Nat.reduceAdd, Nat.reduceMul, w32_eq, w64_eq, lc_eq, lc_lt, lc_le, lc_gt, lc_ge, up_k, up_i, up_e, Int.toNat_natCast, tn7, tn8, tn12, tn3, tn120, tn1600, w32_and, w32_or, w32_xor, w32_shl, w32_shr, has2_eq]) <;> omega)) | (with_reducible refine two_ite_l (fun hcl => ?_) (fun hcl => ?_) <;> (try simp (disch := omega) only [Bool.false_eq_true, not_true_eq_false, not_false_eq_true, Nat.reduceAdd, Nat.reduceMul, w32_eq, w64_eq, lc_eq, lc_lt, lc_le, lc_gt, lc_ge, up_k, up_i, up_e, Int.toNat_natCast, tn7, tn8, tn12, tn3, tn120, tn1600, w32_and, w32_or, w32_xor, w32_shl, w32_shr, has2_eq] at hcl) <;> (try (exfalso; first | omega | exact hcl rfl | exact hcl trivial | contradiction))))
      repeat' (first | with_reducible refine two_lt_r ?_ | (with_reducible refine two_chk_r ?_ ?_; focus ((try simp (disch := omega) only [Bool.false_eq_true, not_true_eq_false, not_false_eq_true, Nat.reduceAdd, Nat.reduceMul, w32_eq, w64_eq, lc_eq, lc_lt, lc_le, lc_gt, lc_ge, up_k, up_i, up_e, Int.toNat_natCast, tn7, tn8, tn12, tn3, tn120, tn1600, w32_and, w32_or, w32_xor, w32_shl, w32_shr, has2_eq, d2]) <;> omega)) | (with_reducible refine two_ite_r (fun hcr => ?_) (fun hcr => ?_) <;> (try simp (disch := omega) only [Bool.false_eq_true, not_true_eq_false, not_false_eq_true, Nat.reduceAdd, Nat.reduceMul, w32_eq, w64_eq, lc_eq, lc_lt, lc_le, lc_gt, lc_ge, up_k, up_i, up_e, Int.toNat_natCast, tn7, tn8, tn12, tn3, tn120, tn1600, w32_and, w32_or, w32_xor, w32_shl, w32_shr, has2_eq, d2] at hcr) <;> (try (exfalso; first | omega | exact hcr rfl | exact hcr trivial | contradiction))))
      rw [e2]
      simp only [bnd_some]
      repeat' (first | with_reducible refine two_lt_r ?_ | (with_reducible refine two_chk_r ?_ ?_; focus ((try simp (disch := omega) only [Bool.false_eq_true, not_true_eq_false, not_false_eq_true, Nat.reduceAdd, Nat.reduceMul, w32_eq, w64_eq, lc_eq, lc_lt, lc_le, lc_gt, lc_ge, up_k, up_i, up_e, Int.toNat_natCast, tn7, tn8, tn12, tn3, tn120, tn1600, w32_and, w32_or, w32_xor, w32_shl, w32_shr, has2_eq]) <;> omega)) | (with_reducible refine two_ite_r (fun hcr => ?_) (fun hcr => ?_) <;> (try simp (disch := omega) only [Bool.false_eq_true, not_true_eq_false, not_false_eq_true, Nat.reduceAdd, Nat.reduceMul, w32_eq, w64_eq, lc_eq, lc_lt, lc_le, lc_gt, lc_ge, up_k, up_i, up_e, Int.toNat_natCast, tn7, tn8, tn12, tn3, tn120, tn1600, w32_and, w32_or, w32_xor, w32_shl, w32_shr, has2_eq] at hcr) <;> (try (exfalso; first | omega | exact hcr rfl | exact hcr trivial | contradiction))))
      exact hno
  · have hx : post (x_Heard_take X) (fun p => p = (-1, X)) := by
      unfold x_Heard_take
      rw [hL, w32_eq (x := (L : Int)) (by omega) (by omega), w3, d1]
      repeat' (first | with_reducible refine post_lt ?_ | (with_reducible refine post_chk ?_ ?_; focus ((try simp (disch := omega) only [Bool.false_eq_true, not_true_eq_false, not_false_eq_true, Nat.reduceAdd, Nat.reduceMul, w32_eq, w64_eq, lc_eq, lc_lt, lc_le, lc_gt, lc_ge, up_k, up_i, up_e, Int.toNat_natCast, tn7, tn8, tn12, tn3, tn120, tn1600, w32_and, w32_or, w32_xor, w32_shl, w32_shr, has2_eq]) <;> omega)) | (with_reducible refine post_ite (fun hcp => ?_) (fun hcp => ?_) <;> (try simp (disch := omega) only [Bool.false_eq_true, not_true_eq_false, not_false_eq_true, Nat.reduceAdd, Nat.reduceMul, w32_eq, w64_eq, lc_eq, lc_lt, lc_le, lc_gt, lc_ge, up_k, up_i, up_e, Int.toNat_natCast, tn7, tn8, tn12, tn3, tn120, tn1600, w32_and, w32_or, w32_xor, w32_shl, w32_shr, has2_eq] at hcp) <;> (try (exfalso; first | omega | exact hcp rfl | exact hcp trivial | contradiction))))
      all_goals exact post_some rfl
    obtain ⟨_, e3, rfl⟩ := hx
    have zero : ∀ F : Int → Int → Option (Int × Int), itr2 (m_hear_L34 (L : Int) (upM M 0 1 0)) FUEL 0 0 = some (0, 0) := fun _ => by
      have : post (itr2 (m_hear_L34 (L : Int) (upM M 0 1 0)) FUEL 0 0) (fun q => q = (0, 0)) := by
        refine post_itr2 (fun m (a b : Int) => a = 0 ∧ b = 0) _ ?_ FUEL 0 0 0 (fuel_lt (by omega)) ⟨rfl, rfl⟩
        rintro m a b ⟨rfl, rfl⟩ F ih
        unfold m_hear_L34
        repeat' (first | with_reducible refine post_lt ?_ | (with_reducible refine post_chk ?_ ?_; focus ((try simp (disch := omega) only [Bool.false_eq_true, not_true_eq_false, not_false_eq_true, Nat.reduceAdd, Nat.reduceMul, w32_eq, w64_eq, lc_eq, lc_lt, lc_le, lc_gt, lc_ge, up_k, up_i, up_e, Int.toNat_natCast, tn7, tn8, tn12, tn3, tn120, tn1600, w32_and, w32_or, w32_xor, w32_shl, w32_shr, has2_eq]) <;> omega)) | (with_reducible refine post_ite (fun hcp => ?_) (fun hcp => ?_) <;> (try simp (disch := omega) only [Bool.false_eq_true, not_true_eq_false, not_false_eq_true, Nat.reduceAdd, Nat.reduceMul, w32_eq, w64_eq, lc_eq, lc_lt, lc_le, lc_gt, lc_ge, up_k, up_i, up_e, Int.toNat_natCast, tn7, tn8, tn12, tn3, tn120, tn1600, w32_and, w32_or, w32_xor, w32_shl, w32_shr, has2_eq] at hcp) <;> (try (exfalso; first | omega | exact hcp rfl | exact hcp trivial | contradiction))))
        all_goals exact post_some rfl
      obtain ⟨_, e, rfl⟩ := this
      exact e
    rw [e3, bnd2_some]
    unfold m_hear m_hear_B30 m_hear_B31
    rw [hL1]
    repeat' (first | with_reducible refine two_lt_l ?_ | (with_reducible refine two_chk_l ?_ ?_; focus ((try simp (disch := omega) only [Bool.false_eq_true, not_true_eq_false, not_false_eq_true, Nat.reduceAdd, Nat.reduceMul, w32_eq, w64_eq, lc_eq, lc_lt, lc_le, lc_gt, lc_ge, up_k, up_i, up_e, Int.toNat_natCast, tn7, tn8, tn12, tn3, tn120, tn1600, w32_and, w32_or, w32_xor, w32_shl, w32_shr, has2_eq]) <;> omega)) | (with_reducible refine two_ite_l (fun hcl => ?_) (fun hcl => ?_) <;> (try simp (disch := omega) only [Bool.false_eq_true, not_true_eq_false, not_false_eq_true, Nat.reduceAdd, Nat.reduceMul, w32_eq, w64_eq, lc_eq, lc_lt, lc_le, lc_gt, lc_ge, up_k, up_i, up_e, Int.toNat_natCast, tn7, tn8, tn12, tn3, tn120, tn1600, w32_and, w32_or, w32_xor, w32_shl, w32_shr, has2_eq] at hcl) <;> (try (exfalso; first | omega | exact hcl rfl | exact hcl trivial | contradiction))))
    repeat' (first | with_reducible refine two_lt_r ?_ | (with_reducible refine two_chk_r ?_ ?_; focus ((try simp (disch := omega) only [Bool.false_eq_true, not_true_eq_false, not_false_eq_true, Nat.reduceAdd, Nat.reduceMul, w32_eq, w64_eq, lc_eq, lc_lt, lc_le, lc_gt, lc_ge, up_k, up_i, up_e, Int.toNat_natCast, tn7, tn8, tn12, tn3, tn120, tn1600, w32_and, w32_or, w32_xor, w32_shl, w32_shr, has2_eq, d2]) <;> omega)) | (with_reducible refine two_ite_r (fun hcr => ?_) (fun hcr => ?_) <;> (try simp (disch := omega) only [Bool.false_eq_true, not_true_eq_false, not_false_eq_true, Nat.reduceAdd, Nat.reduceMul, w32_eq, w64_eq, lc_eq, lc_lt, lc_le, lc_gt, lc_ge, up_k, up_i, up_e, Int.toNat_natCast, tn7, tn8, tn12, tn3, tn120, tn1600, w32_and, w32_or, w32_xor, w32_shl, w32_shr, has2_eq, d2] at hcr) <;> (try (exfalso; first | omega | exact hcr rfl | exact hcr trivial | contradiction))))
    all_goals
      first
      | exfalso; omega
      | rw [zero (fun _ _ => none)]
        simp only [bnd_some]
        repeat' (first | with_reducible refine two_lt_r ?_ | (with_reducible refine two_chk_r ?_ ?_; focus ((try simp (disch := omega) only [Bool.false_eq_true, not_true_eq_false, not_false_eq_true, Nat.reduceAdd, Nat.reduceMul, w32_eq, w64_eq, lc_eq, lc_lt, lc_le, lc_gt, lc_ge, up_k, up_i, up_e, Int.toNat_natCast, tn7, tn8, tn12, tn3, tn120, tn1600, w32_and, w32_or, w32_xor, w32_shl, w32_shr, has2_eq]) <;> omega)) | (with_reducible refine two_ite_r (fun hcr => ?_) (fun hcr => ?_) <;> (try simp (disch := omega) only [Bool.false_eq_true, not_true_eq_false, not_false_eq_true, Nat.reduceAdd, Nat.reduceMul, w32_eq, w64_eq, lc_eq, lc_lt, lc_le, lc_gt, lc_ge, up_k, up_i, up_e, Int.toNat_natCast, tn7, tn8, tn12, tn3, tn120, tn1600, w32_and, w32_or, w32_xor, w32_shl, w32_shr, has2_eq] at hcr) <;> (try (exfalso; first | omega | exact hcr rfl | exact hcr trivial | contradiction))))
        exact hno
