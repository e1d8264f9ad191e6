/-! THE PURE PART: on: a saying, the reference -/
def Alone (c v : Nat) (M : Mem) : Prop := ∀ s, s < c → ¬ (M 29 (12 + s) = 2 ∧ M 32 (12 + s) = (v : Int))
theorem m_alone {c v : Nat} {M : Mem} (hc : c ≤ 12) (hv : v < 7) (h : ∀ s, s < c → 0 ≤ M 29 (12 + s) ∧ M 29 (12 + s) ≤ 5 ∧ -1 ≤ M 32 (12 + s) ∧ M 32 (12 + s) ≤ 255) : post (m_isAloneBy (c : Int) (v : Int) M) (fun b => b = true ↔ Alone c v M) := by
  unfold m_isAloneBy
  refine post_bnd (post_itr1 (fun n (i : Int) => ∃ s : Nat, i = (s : Int) ∧ s ≤ c ∧ n = c - s ∧ Alone s v M) (fun r => (r = .inl false ∧ ¬ Alone c v M) ∨ (∃ u, r = .inr u ∧ Alone c v M)) ?_ FUEL c 0 (fuel_lt (by omega)) ⟨0, rfl, by omega, rfl, fun s hs => by omega⟩) ?_
  · rintro n i ⟨s, rfl, hs, rfl, hno⟩ F ih
    unfold m_isAloneBy_L2
    by_cases q : s < c
    · have r := h s q
      have t : (12 + (s : Int)).toNat = 12 + s := by omega
      have go : ¬ (M 29 (12 + s) = 2 ∧ M 32 (12 + s) = (v : Int)) → post (F ((s : Int) + 1)) (fun r => (r = .inl false ∧ ¬ Alone c v M) ∨ (∃ u, r = .inr u ∧ Alone c v M)) := fun hn =>
        ih (c - (s + 1)) _ (by omega) ⟨s + 1, rfl, by omega, rfl, fun j hj => by
          by_cases e : j = s
          · subst e; exact hn
          · exact hno j (by omega)⟩
      repeat' (first | with_reducible refine post_lt ?_ | (with_reducible refine post_chk ?_ ?_; focus ((try simp (disch := omega) only [Bool.false_eq_true, not_true_eq_false, not_false_eq_true, Nat.reduceAdd, Nat.reduceMul, w32_eq, w64_eq, lc_eq, lc_lt, lc_le, lc_gt, lc_ge, up_k, up_i, up_e, Int.toNat_natCast, tn7, tn8, tn12, tn3, tn120, tn1600, w32_and, w32_or, w32_xor, w32_shl, w32_shr, has2_eq, t]) <;> omega)) | (with_reducible refine post_ite (fun hcp => ?_) (fun hcp => ?_) <;> (try simp (disch := omega) only [Bool.false_eq_true, not_true_eq_false, not_false_eq_true, Nat.reduceAdd, Nat.reduceMul, w32_eq, w64_eq, lc_eq, lc_lt, lc_le, lc_gt, lc_ge, up_k, up_i, up_e, Int.toNat_natCast, tn7, tn8, tn12, tn3, tn120, tn1600, w32_and, w32_or, w32_xor, w32_shl, w32_shr, has2_eq, t] at hcp) <;> (try (exfalso; first | omega | exact hcp rfl | exact hcp trivial | contradiction))))
      · exact go (fun z => by omega)
      · exact go (fun z => by omega)
      · exact post_some (Or.inl ⟨rfl, fun z => z s q ⟨by omega, by omega⟩⟩)
    · have e : s = c := by omega
      subst e
      repeat' (first | with_reducible refine post_lt ?_ | (with_reducible refine post_chk ?_ ?_; focus ((try simp (disch := omega) only [Bool.false_eq_true, not_true_eq_false, not_false_eq_true, Nat.reduceAdd, Nat.reduceMul, w32_eq, w64_eq, lc_eq, lc_lt, lc_le, lc_gt, lc_ge, up_k, up_i, up_e, Int.toNat_natCast, tn7, tn8, tn12, tn3, tn120, tn1600, w32_and, w32_or, w32_xor, w32_shl, w32_shr, has2_eq]) <;> omega)) | (with_reducible refine post_ite (fun hcp => ?_) (fun hcp => ?_) <;> (try simp (disch := omega) only [Bool.false_eq_true, not_true_eq_false, not_false_eq_true, Nat.reduceAdd, Nat.reduceMul, w32_eq, w64_eq, lc_eq, lc_lt, lc_le, lc_gt, lc_ge, up_k, up_i, up_e, Int.toNat_natCast, tn7, tn8, tn12, tn3, tn120, tn1600, w32_and, w32_or, w32_xor, w32_shl, w32_shr, has2_eq] at hcp) <;> (try (exfalso; first | omega | exact hcp rfl | exact hcp trivial | contradiction))))
      exact post_some (Or.inr ⟨_, rfl, hno⟩)
  · rintro r (⟨rfl, h1⟩ | ⟨u, rfl, h1⟩)
    · exact post_some ⟨fun q => (by cases q), fun q => absurd q h1⟩
    · exact post_some ⟨fun _ => h1, fun _ => rfl⟩
/-- a saying is written into the reference's trial -/
def WroteM (c p : Nat) (X M1 M2 : Mem) : Prop := (∀ j, j ≠ 12 + c → M2 29 j = M1 29 j ∧ M2 30 j = M1 30 j ∧ M2 31 j = M1 31 j ∧ M2 32 j = M1 32 j ∧ M2 33 j = M1 33 j) ∧ M2 29 (12 + c) = X 2 p ∧ M2 30 (12 + c) = or32 (shl32 (X 2 (p + 1)) 8) (X 2 (p + 2)) ∧ M2 31 (12 + c) = X 2 (p + 3) ∧ M2 32 (12 + c) = (if X 2 (p + 4) = 255 then -1 else X 2 (p + 4)) ∧ M2 33 (12 + c) = X 2 (p + 5) ∧ M2 34 1 = or32 (M1 34 1) (if X 2 (p + 6) = 1 then shl32 1 (c : Int) else 0)
