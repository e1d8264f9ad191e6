/-! THE PURE PART: on: the voices side by side -/
theorem m_voiceOn_is {p c : Nat} {X M M1 : Mem} (hp : p + 3 ≤ 1600) (hc : c < 7) (hf : FMt 1 M M1) (hb : ∀ j, j < 1600 → X 2 j = M 1 j ∧ 0 ≤ X 2 j ∧ X 2 j ≤ 255) :
    post (m_voiceOn (c : Int) (p : Int) M1) (fun r => (r.1 = true ↔ VOk X p) ∧ FMt 1 M r.2 ∧ (∀ a, (a < 26 ∨ 28 < a) → r.2 a = M1 a) ∧ (∀ j, j ≠ 7 + c → r.2 26 j = M1 26 j ∧ r.2 27 j = M1 27 j) ∧ r.2 26 (7 + c) = X 2 p ∧ r.2 27 (7 + c) = X 2 (p + 2) ∧ r.2 28 1 = or32 (M1 28 1) (if X 2 (p + 1) = 1 then shl32 1 (c : Int) else 0)) := by
  have tape : M1 1 = M 1 := by funext i; exact hf 1 i (by omega)
  have b1 := hb p (by omega)
  have b2 := hb (p + 1) (by omega)
  have b3 := hb (p + 2) (by omega)
  have t0 : (p : Int).toNat = p := Int.toNat_natCast p
  have t1 : ((p : Int) + 1).toNat = p + 1 := by omega
  have t2 : ((p : Int) + 2).toNat = p + 2 := by omega
  have tc : (7 + (c : Int)).toNat = 7 + c := by omega
  have ti : (1 : Int).toNat = 1 := rfl
  have l7 : lay 26 (7 + c) = 1 ∧ lay 27 (7 + c) = 1 := lay7 (v := 1) (k := c) hc
  have l1 : lay 28 1 = 1 := lay1 (by omega)
  obtain ⟨w, hw⟩ : ∃ w, w = or32 (M1 28 1) (if X 2 (p + 1) = 1 then shl32 1 (c : Int) else 0) := ⟨_, rfl⟩
  have fin : ∀ b : Bool, (b = true ↔ VOk X p) → post (some (b, upM (upM (upM M1 26 (7 + c) (X 2 p)) 28 1 w) 27 (7 + c) (X 2 (p + 2)))) (fun r => (r.1 = true ↔ VOk X p) ∧ FMt 1 M r.2 ∧ (∀ a, (a < 26 ∨ 28 < a) → r.2 a = M1 a) ∧ (∀ j, j ≠ 7 + c → r.2 26 j = M1 26 j ∧ r.2 27 j = M1 27 j) ∧ r.2 26 (7 + c) = X 2 p ∧ r.2 27 (7 + c) = X 2 (p + 2) ∧ r.2 28 1 = or32 (M1 28 1) (if X 2 (p + 1) = 1 then shl32 1 (c : Int) else 0)) := fun b hbv => by
    refine post_some ⟨hbv, ?_, fun a ha => ?_, fun j hj => ⟨?_, ?_⟩, ?_, ?_, ?_⟩
    · exact FMt_trans hf (FMt_trans (FMt_trans (FMt_up ⟨by omega, by omega, fun _ => l7.1⟩) (FMt_up ⟨by omega, by omega, fun _ => l1⟩)) (FMt_up ⟨by omega, by omega, fun _ => l7.2⟩))
    · show (upM (upM (upM M1 26 (7 + c) (X 2 p)) 28 1 w) 27 (7 + c) (X 2 (p + 2))) a = M1 a
      rw [upM_row (by omega), upM_row (by omega), upM_row (by omega)]
    · show (upM (upM (upM M1 26 (7 + c) (X 2 p)) 28 1 w) 27 (7 + c) (X 2 (p + 2))) 26 j = M1 26 j
      rw [up_k (by omega), up_k (by omega), up_i hj]
    · show (upM (upM (upM M1 26 (7 + c) (X 2 p)) 28 1 w) 27 (7 + c) (X 2 (p + 2))) 27 j = M1 27 j
      rw [up_i hj, up_k (by omega), up_k (by omega)]
    · show (upM (upM (upM M1 26 (7 + c) (X 2 p)) 28 1 w) 27 (7 + c) (X 2 (p + 2))) 26 (7 + c) = X 2 p
      rw [up_k (by omega), up_k (by omega), up_e]
    · exact up_e
    · show (upM (upM (upM M1 26 (7 + c) (X 2 p)) 28 1 w) 27 (7 + c) (X 2 (p + 2))) 28 1 = _
      rw [up_k (by omega), up_e, hw]
  unfold VOk at fin ⊢
  unfold m_voiceOn m_voiceOn_B41
  rw [tc, t0, t1, t2, ti]
  have e1 : M1 1 p = X 2 p := by rw [tape, b1.1]
  have e2 : M1 1 (p + 1) = X 2 (p + 1) := by rw [tape, b2.1]
  have e3 : M1 1 (p + 2) = X 2 (p + 2) := by rw [tape, b3.1]
  by_cases h1 : X 2 (p + 1) = 1
  · rw [if_pos h1] at hw
    repeat' (first | with_reducible refine post_lt ?_ | (with_reducible refine post_chk ?_ ?_; focus ((try simp (disch := omega) only [Bool.false_eq_true, not_true_eq_false, not_false_eq_true, Nat.reduceAdd, Nat.reduceMul, w32_eq, w64_eq, lc_eq, lc_lt, lc_le, lc_gt, lc_ge, up_k, up_i, up_e, Int.toNat_natCast, tn7, tn8, tn12, tn3, tn120, tn1600, w32_and, w32_or, w32_xor, w32_shl, w32_shr, has2_eq, e1, e2, e3]) <;> omega)) | (with_reducible refine post_ite (fun hcp => ?_) (fun hcp => ?_) <;> (try simp (disch := omega) only [Bool.false_eq_true, not_true_eq_false, not_false_eq_true, Nat.reduceAdd, Nat.reduceMul, w32_eq, w64_eq, lc_eq, lc_lt, lc_le, lc_gt, lc_ge, up_k, up_i, up_e, Int.toNat_natCast, tn7, tn8, tn12, tn3, tn120, tn1600, w32_and, w32_or, w32_xor, w32_shl, w32_shr, has2_eq, e1, e2, e3] at hcp) <;> (try (exfalso; first | omega | exact hcp rfl | exact hcp trivial | contradiction))))
    all_goals simp (disch := omega) only [up_k, e1, e2, e3, ← hw]
    · exact fin false ⟨fun q => (by cases q), fun q => by omega⟩
    · exact fin false ⟨fun q => (by cases q), fun q => by omega⟩
    · exact fin true ⟨fun q => ⟨by omega, by omega, by omega⟩, fun q => rfl⟩
  · rw [if_neg h1] at hw
    repeat' (first | with_reducible refine post_lt ?_ | (with_reducible refine post_chk ?_ ?_; focus ((try simp (disch := omega) only [Bool.false_eq_true, not_true_eq_false, not_false_eq_true, Nat.reduceAdd, Nat.reduceMul, w32_eq, w64_eq, lc_eq, lc_lt, lc_le, lc_gt, lc_ge, up_k, up_i, up_e, Int.toNat_natCast, tn7, tn8, tn12, tn3, tn120, tn1600, w32_and, w32_or, w32_xor, w32_shl, w32_shr, has2_eq, e1, e2, e3]) <;> omega)) | (with_reducible refine post_ite (fun hcp => ?_) (fun hcp => ?_) <;> (try simp (disch := omega) only [Bool.false_eq_true, not_true_eq_false, not_false_eq_true, Nat.reduceAdd, Nat.reduceMul, w32_eq, w64_eq, lc_eq, lc_lt, lc_le, lc_gt, lc_ge, up_k, up_i, up_e, Int.toNat_natCast, tn7, tn8, tn12, tn3, tn120, tn1600, w32_and, w32_or, w32_xor, w32_shl, w32_shr, has2_eq, e1, e2, e3] at hcp) <;> (try (exfalso; first | omega | exact hcp rfl | exact hcp trivial | contradiction))))
    all_goals simp (disch := omega) only [up_k, e1, e2, e3, ← hw]
    · exact fin false ⟨fun q => (by cases q), fun q => by omega⟩
    · exact fin false ⟨fun q => (by cases q), fun q => by omega⟩
    · exact fin false ⟨fun q => (by cases q), fun q => by omega⟩
    · exact fin true ⟨fun q => ⟨by omega, by omega, by omega⟩, fun q => rfl⟩
