/-! THE PURE PART: on: the voices -/
def FrX (X X1 : Mem) : Prop := (∀ a, (a < 51 ∨ 63 < a) → a ≠ 370 → X1 a = X a) ∧ (∀ j, j ≠ 5 → j ≠ 6 → X1 370 j = X 370 j)
theorem FrX_refl (X : Mem) : FrX X X := ⟨fun _ _ _ => rfl, fun _ _ _ => rfl⟩
theorem FrX_trans {X Y Z : Mem} (h : FrX X Y) (k : FrX Y Z) : FrX X Z := ⟨fun a q1 q2 => (k.1 a q1 q2).trans (h.1 a q1 q2), fun j q1 q2 => (k.2 j q1 q2).trans (h.2 j q1 q2)⟩
/-- the voice c of the picture is a good one -/
def VOk (X : Mem) (p : Nat) : Prop := X 2 p ≤ 9 ∧ X 2 (p + 1) ≤ 1 ∧ X 2 (p + 2) ≤ 99
theorem x_voice {L p c : Nat} {X X1 : Mem} (hr : Rd L p X1) (hp : p + 3 ≤ L) (hc : c < 7) (hf : FrX X X1) (hb : ∀ j, j < 1600 → 0 ≤ X 2 j ∧ X 2 j ≤ 255) :
    post (x_Picture_takeVoice (c : Int) X1) (fun r => (r.1 = true ↔ VOk X p) ∧ Rd L (p + 3) r.2 ∧ FrX X r.2 ∧ (∀ a, (a < 52 ∨ 54 < a) → a ≠ 370 → r.2 a = X1 a) ∧ (∀ j, j ≠ c → r.2 52 j = X1 52 j ∧ r.2 53 j = X1 53 j ∧ r.2 54 j = X1 54 j) ∧ r.2 52 c = X 2 p ∧ r.2 53 c = X 2 (p + 1) ∧ r.2 54 c = X 2 (p + 2)) := by
  have hL := hr.2.2.2
  have tape : ∀ Y : Mem, FrX X Y → Y 2 = X 2 := fun Y h => h.1 2 (by omega) (by omega)
  obtain ⟨Xa, a1, a2, a3, a4⟩ := x_takes hr (by omega)
  have a2' := Rd_up (a := 52) (i := c) (w := X 2 p) a2 (by omega) (by omega)
  obtain ⟨Xb, b1, b2, b3, b4⟩ := x_takes a2' (by omega)
  have b2' := Rd_up (a := 53) (i := c) (w := X 2 (p + 1)) b2 (by omega) (by omega)
  obtain ⟨Xc, c1, c2, c3, c4⟩ := x_takes b2' (by omega)
  have c2' := Rd_up (a := 54) (i := c) (w := X 2 (p + 2)) c2 (by omega) (by omega)
  have v1 : X1 2 p = X 2 p := by rw [tape X1 hf]
  have v2 : (upM Xa 52 c (X 2 p)) 2 (p + 1) = X 2 (p + 1) := by rw [upM_row (by omega), a3 2 (by omega), tape X1 hf]
  have v3 : (upM Xb 53 c (X 2 (p + 1))) 2 (p + 2) = X 2 (p + 2) := by rw [upM_row (by omega), b3 2 (by omega), upM_row (by omega), a3 2 (by omega), tape X1 hf]
  rw [v1] at a1
  rw [v2] at b1
  rw [v3] at c1
  have h1 := hb p (by omega)
  have h2 := hb (p + 1) (by omega)
  have h3 := hb (p + 2) (by omega)
  have z52 : Xc 52 c = X 2 p := by rw [c3 52 (by omega), upM_row (by omega), b3 52 (by omega), up_e]
  have z53 : Xc 53 c = X 2 (p + 1) := by rw [c3 53 (by omega), up_e]
  unfold x_Picture_takeVoice
  rw [show ((c : Nat) : Int).toNat = c from Int.toNat_natCast c]
  refine post_bnd2e a1 ?_
  repeat' (first | with_reducible refine post_lt ?_ | (with_reducible refine post_chk ?_ ?_; focus ((try simp (disch := omega) only [Bool.false_eq_true, not_true_eq_false, not_false_eq_true, Nat.reduceAdd, Nat.reduceMul, w32_eq, w64_eq, lc_eq, lc_lt, lc_le, lc_gt, lc_ge, up_k, up_i, up_e, Int.toNat_natCast, tn7, tn8, tn12, tn3, tn120, tn1600, w32_and, w32_or, w32_xor, w32_shl, w32_shr, has2_eq]) <;> omega)) | (with_reducible refine post_ite (fun hcp => ?_) (fun hcp => ?_) <;> (try simp (disch := omega) only [Bool.false_eq_true, not_true_eq_false, not_false_eq_true, Nat.reduceAdd, Nat.reduceMul, w32_eq, w64_eq, lc_eq, lc_lt, lc_le, lc_gt, lc_ge, up_k, up_i, up_e, Int.toNat_natCast, tn7, tn8, tn12, tn3, tn120, tn1600, w32_and, w32_or, w32_xor, w32_shl, w32_shr, has2_eq] at hcp) <;> (try (exfalso; first | omega | exact hcp rfl | exact hcp trivial | contradiction))))
  refine post_bnd2e b1 ?_
  repeat' (first | with_reducible refine post_lt ?_ | (with_reducible refine post_chk ?_ ?_; focus ((try simp (disch := omega) only [Bool.false_eq_true, not_true_eq_false, not_false_eq_true, Nat.reduceAdd, Nat.reduceMul, w32_eq, w64_eq, lc_eq, lc_lt, lc_le, lc_gt, lc_ge, up_k, up_i, up_e, Int.toNat_natCast, tn7, tn8, tn12, tn3, tn120, tn1600, w32_and, w32_or, w32_xor, w32_shl, w32_shr, has2_eq]) <;> omega)) | (with_reducible refine post_ite (fun hcp => ?_) (fun hcp => ?_) <;> (try simp (disch := omega) only [Bool.false_eq_true, not_true_eq_false, not_false_eq_true, Nat.reduceAdd, Nat.reduceMul, w32_eq, w64_eq, lc_eq, lc_lt, lc_le, lc_gt, lc_ge, up_k, up_i, up_e, Int.toNat_natCast, tn7, tn8, tn12, tn3, tn120, tn1600, w32_and, w32_or, w32_xor, w32_shl, w32_shr, has2_eq] at hcp) <;> (try (exfalso; first | omega | exact hcp rfl | exact hcp trivial | contradiction))))
  refine post_bnd2e c1 ?_
  have rest : FrX X (upM Xc 54 c (X 2 (p + 2))) ∧ (∀ a, (a < 52 ∨ 54 < a) → a ≠ 370 → (upM Xc 54 c (X 2 (p + 2))) a = X1 a) ∧ (∀ j, j ≠ c → (upM Xc 54 c (X 2 (p + 2))) 52 j = X1 52 j ∧ (upM Xc 54 c (X 2 (p + 2))) 53 j = X1 53 j ∧ (upM Xc 54 c (X 2 (p + 2))) 54 j = X1 54 j) ∧ (upM Xc 54 c (X 2 (p + 2))) 52 c = X 2 p ∧ (upM Xc 54 c (X 2 (p + 2))) 53 c = X 2 (p + 1) ∧ (upM Xc 54 c (X 2 (p + 2))) 54 c = X 2 (p + 2) := by
    have fr : ∀ a, (a < 52 ∨ 54 < a) → a ≠ 370 → (upM Xc 54 c (X 2 (p + 2))) a = X1 a := fun a q1 q2 => by
      rw [upM_row (by omega), c3 a q2, upM_row (by omega), b3 a q2, upM_row (by omega), a3 a q2]
    refine ⟨⟨fun a q1 q2 => by rw [fr a (by omega) q2]; exact hf.1 a q1 q2, fun j q1 q2 => ?_⟩, fr, fun j hj => ⟨?_, ?_, ?_⟩, ?_, ?_, up_e⟩
    · rw [upM_row (by omega), c4 j q2, upM_row (by omega), b4 j q2, upM_row (by omega), a4 j q2]; exact hf.2 j q1 q2
    · rw [upM_row (by omega), c3 52 (by omega), upM_row (by omega), b3 52 (by omega), up_i hj, a3 52 (by omega)]
    · rw [upM_row (by omega), c3 53 (by omega), up_i hj, b3 53 (by omega), upM_row (by omega), a3 53 (by omega)]
    · rw [up_i hj, c3 54 (by omega), upM_row (by omega), b3 54 (by omega), upM_row (by omega), a3 54 (by omega)]
    · rw [upM_row (by omega)]; exact z52
    · rw [upM_row (by omega)]; exact z53
  have q52 : (upM Xc 54 c (X 2 (p + 2))) 52 c = X 2 p := rest.2.2.2.1
  have q53 : (upM Xc 54 c (X 2 (p + 2))) 53 c = X 2 (p + 1) := rest.2.2.2.2.1
  have q54 : (upM Xc 54 c (X 2 (p + 2))) 54 c = X 2 (p + 2) := rest.2.2.2.2.2
  unfold VOk
  repeat' (first | with_reducible refine post_lt ?_ | (with_reducible refine post_chk ?_ ?_; focus ((try simp (disch := omega) only [Bool.false_eq_true, not_true_eq_false, not_false_eq_true, Nat.reduceAdd, Nat.reduceMul, w32_eq, w64_eq, lc_eq, lc_lt, lc_le, lc_gt, lc_ge, up_k, up_i, up_e, Int.toNat_natCast, tn7, tn8, tn12, tn3, tn120, tn1600, w32_and, w32_or, w32_xor, w32_shl, w32_shr, has2_eq, q52, q53, q54, z52, z53]) <;> omega)) | (with_reducible refine post_ite (fun hcp => ?_) (fun hcp => ?_) <;> (try simp (disch := omega) only [Bool.false_eq_true, not_true_eq_false, not_false_eq_true, Nat.reduceAdd, Nat.reduceMul, w32_eq, w64_eq, lc_eq, lc_lt, lc_le, lc_gt, lc_ge, up_k, up_i, up_e, Int.toNat_natCast, tn7, tn8, tn12, tn3, tn120, tn1600, w32_and, w32_or, w32_xor, w32_shl, w32_shr, has2_eq, q52, q53, q54, z52, z53] at hcp) <;> (try (exfalso; first | omega | exact hcp rfl | exact hcp trivial | contradiction))))
  all_goals refine post_some ⟨?_, c2', rest⟩
  · exact ⟨fun q => (by cases q), fun q => by omega⟩
  · exact ⟨fun q => (by cases q), fun q => by omega⟩
  · exact ⟨fun q => (by cases q), fun q => by omega⟩
  · exact ⟨fun q => ⟨by omega, by omega, by omega⟩, fun q => rfl⟩
