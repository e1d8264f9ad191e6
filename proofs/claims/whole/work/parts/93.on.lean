/-! THE PURE PART: a state made new; the tape read as a picture -/
/-- a new state of the town -/
def Fresh (th : Nat) (X X1 : Mem) : Prop := (∀ a, (a < th ∨ th + 9 < a) → X1 a = X a) ∧ (∀ j, j < 7 → X1 (th + 1) j = X 25 j ∧ X1 (th + 2) j = 0 ∧ X1 (th + 3) j = 0) ∧ (∀ j, j < 12 → X1 (th + 4) j = 0 ∧ X1 (th + 5) j = X 30 j ∧ X1 (th + 6) j = 0 ∧ X1 (th + 7) j = -1 ∧ X1 (th + 8) j = 0 ∧ X1 (th + 9) j = 0) ∧ X1 th 12 = 0 ∧ X1 th 13 = 0
theorem x_reset {th : Nat} {X : Mem} (hth : 38 ≤ th) : post (x_State_reset th X) (fun X1 => Fresh th X X1) := by
  unfold x_State_reset
  refine post_lt ?_
  refine post_bnd (x_fill0 (show 7 ≤ 2000 by omega)) ?_
  rintro X2 ⟨a2, b2, -⟩
  refine post_bnd (x_fill0 (show 7 ≤ 2000 by omega)) ?_
  rintro X3 ⟨a3, b3, -⟩
  refine post_bnd (x_fill0 (show 12 ≤ 2000 by omega)) ?_
  rintro X4 ⟨a4, b4, -⟩
  refine post_lt ?_
  refine post_bnd (x_fill0 (show 12 ≤ 2000 by omega)) ?_
  rintro X6 ⟨a6, b6, -⟩
  refine post_bnd (x_fill0 (show 12 ≤ 2000 by omega)) ?_
  rintro X7 ⟨a7, b7, -⟩
  refine post_bnd (x_fill0 (show 12 ≤ 2000 by omega)) ?_
  rintro X8 ⟨a8, b8, -⟩
  refine post_bnd (x_fill0 (show 12 ≤ 2000 by omega)) ?_
  rintro X9 ⟨a9, b9, -⟩
  refine post_lt ?_
  refine post_lt ?_
  have r4 : ∀ a, a ≠ th + 1 → a ≠ th + 2 → a ≠ th + 3 → a ≠ th + 4 → X4 a = X a := fun a q1 q2 q3 q4 => by rw [a4 a q4, a3 a q3, a2 a q2, cpy_k q1]
  have r9 : ∀ a, a ≠ th + 5 → a ≠ th + 6 → a ≠ th + 7 → a ≠ th + 8 → a ≠ th + 9 → X9 a = X4 a := fun a q1 q2 q3 q4 q5 => by rw [a9 a q5, a8 a q4, a7 a q3, a6 a q2, cpy_k q1]
  refine post_some ⟨fun a ha => ?_, fun j hj => ⟨?_, ?_, ?_⟩, fun j hj => ⟨?_, ?_, ?_, ?_, ?_, ?_⟩, ?_, ?_⟩
  · rw [upM_row (by omega), upM_row (by omega), r9 a (by omega) (by omega) (by omega) (by omega) (by omega), r4 a (by omega) (by omega) (by omega) (by omega)]
  · rw [up_k (by omega), up_k (by omega), r9 _ (by omega) (by omega) (by omega) (by omega) (by omega), a4 _ (by omega), a3 _ (by omega), a2 _ (by omega), cpy_e hj]
  · rw [up_k (by omega), up_k (by omega), r9 _ (by omega) (by omega) (by omega) (by omega) (by omega), a4 _ (by omega), a3 _ (by omega), b2 j hj]
  · rw [up_k (by omega), up_k (by omega), r9 _ (by omega) (by omega) (by omega) (by omega) (by omega), a4 _ (by omega), b3 j hj]
  · rw [up_k (by omega), up_k (by omega), r9 _ (by omega) (by omega) (by omega) (by omega) (by omega), b4 j hj]
  · rw [up_k (by omega), up_k (by omega), a9 _ (by omega), a8 _ (by omega), a7 _ (by omega), a6 _ (by omega), cpy_e hj, r4 _ (by omega) (by omega) (by omega) (by omega)]
  · rw [up_k (by omega), up_k (by omega), a9 _ (by omega), a8 _ (by omega), a7 _ (by omega), b6 j hj]
  · rw [up_k (by omega), up_k (by omega), a9 _ (by omega), a8 _ (by omega), b7 j hj]
  · rw [up_k (by omega), up_k (by omega), a9 _ (by omega), b8 j hj]
  · rw [up_k (by omega), up_k (by omega), b9 j hj]
  · rw [up_i (by omega), up_e]
  · rw [up_e]
/-- reading: the tape of length L is held, p bytes are read -/
def Rd (L p : Nat) (X : Mem) : Prop := X 370 5 = 2 ∧ X 370 6 = (p : Int) ∧ X 1 1 = (L : Int) ∧ L ≤ 1600
theorem x_take {L p : Nat} {X : Mem} (h : Rd L p X) (hp : p < L) : x_Picture_take X = some (X 2 p, upM X 370 6 ((p : Int) + 1)) ∧ Rd L (p + 1) (upM X 370 6 ((p : Int) + 1)) := by
  obtain ⟨h1, h2, h3, h4⟩ := h
  refine ⟨?_, by rw [up_i (by omega)]; exact h1, by rw [up_e]; omega, by rw [up_k (by omega)]; exact h3, h4⟩
  have : post (x_Picture_take X) (fun r => r = (X 2 p, upM X 370 6 ((p : Int) + 1))) := by
    have t2 : (2 : Int).toNat = 2 := rfl
    have t1 : (p : Int) + 1 - 1 = (p : Int) := by omega
    unfold x_Picture_take
    repeat' (first | with_reducible refine post_lt ?_ | (with_reducible refine post_chk ?_ ?_; focus ((try simp (disch := omega) only [Bool.false_eq_true, not_true_eq_false, not_false_eq_true, Nat.reduceAdd, Nat.reduceMul, w32_eq, w64_eq, lc_eq, lc_lt, lc_le, lc_gt, lc_ge, up_k, up_i, up_e, Int.toNat_natCast, tn7, tn8, tn12, tn3, tn120, tn1600, w32_and, w32_or, w32_xor, w32_shl, w32_shr, has2_eq, h1, h2, h3, t2, t1]) <;> omega)) | (with_reducible refine post_ite (fun hcp => ?_) (fun hcp => ?_) <;> (try simp (disch := omega) only [Bool.false_eq_true, not_true_eq_false, not_false_eq_true, Nat.reduceAdd, Nat.reduceMul, w32_eq, w64_eq, lc_eq, lc_lt, lc_le, lc_gt, lc_ge, up_k, up_i, up_e, Int.toNat_natCast, tn7, tn8, tn12, tn3, tn120, tn1600, w32_and, w32_or, w32_xor, w32_shl, w32_shr, has2_eq, h1, h2, h3, t2, t1] at hcp) <;> (try (exfalso; first | omega | exact hcp rfl | exact hcp trivial | contradiction))))
    simp (disch := omega) only [h2, up_k, up_e, t1, Int.toNat_natCast]
    exact post_some rfl
  obtain ⟨_, e, rfl⟩ := this
  exact e
theorem x_takes {L p : Nat} {X : Mem} (h : Rd L p X) (hp : p < L) : ∃ X1, x_Picture_take X = some (X 2 p, X1) ∧ Rd L (p + 1) X1 ∧ (∀ a, a ≠ 370 → X1 a = X a) ∧ (∀ j, j ≠ 6 → X1 370 j = X 370 j) := by
  obtain ⟨e, r⟩ := x_take h hp
  exact ⟨_, e, r, fun a ha => upM_row ha, fun j hj => up_i hj⟩
theorem Rd_up {L p a i : Nat} {w : Int} {X : Mem} (h : Rd L p X) (ha : a ≠ 370) (ha1 : a ≠ 1) : Rd L p (upM X a i w) := by
  obtain ⟨h1, h2, h3, h4⟩ := h
  exact ⟨by rw [up_k (by omega)]; exact h1, by rw [up_k (by omega)]; exact h2, by rw [up_k (by omega)]; exact h3, h4⟩
