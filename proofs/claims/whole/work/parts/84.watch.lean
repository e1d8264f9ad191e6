/-! THE PURE PART: the watch: what was heard is met -/
def Hit (X X1 : Mem) (p i : Nat) : Bool := decide (X1 (359 + p) (12 * (X 355 i).toNat + (X 356 i).toNat) = X 357 i)
theorem m_met {nv ns p m H w : Nat} {X X2 M M1 : Mem} {v1 v2 : Int} (hnv : nv ≤ 7) (hns : ns ≤ 12) (hH : RHeard nv ns X M) (hX : X 354 0 = (H : Int)) (h0 : M1 0 63 = M 0 63) (h41 : M1 41 = M 41) (h42 : M1 42 = M 42) (h43 : M1 43 = M 43) (hp : p < 10) (hm : m < 31) (hw : w ≤ 16)
    (hc : ∀ s, s < ns → CellOk nv (X2 (359 + p) (12 * m + s)) (M1 39 s)) :
    post (itr2 (m_pitchBits_L106 v1 v2 (p : Int) (m : Int) M1) FUEL (w : Int) 0) (fun q => q.1 = ((w + cnt (fun i => decide ((X 355 i).toNat = m ∧ Hit X X2 p i = true)) H : Nat) : Int)) := by
  obtain ⟨a1, a2, a3, a4⟩ := hH
  refine post_itr2 (fun n (v4 i : Int) => ∃ c : Nat, i = (c : Int) ∧ c ≤ H ∧ n = H - c ∧ v4 = ((w + cnt (fun i => decide ((X 355 i).toNat = m ∧ Hit X X2 p i = true)) c : Nat) : Int)) _ ?_ FUEL H _ 0 (fuel_lt (by omega)) ⟨0, rfl, by omega, rfl, rfl⟩
  rintro n v4 i ⟨c, rfl, hcH, rfl, rfl⟩ F ih
  unfold m_pitchBits_L106
  have e63 : M1 0 63 = (H : Int) := by omega
  by_cases h : c < H
  · obtain ⟨b1, b2, b3, b4, b5, b6, b7⟩ := a4 c (by omega)
    have c41 : M1 41 c = X 355 c := by rw [h41, b1]
    have c42 : M1 42 c = X 356 c := by rw [h42, b4]
    have c43 : CellOk nv (X 357 c) (M1 43 c) := by rw [h43]; exact b7
    have hb := cnt_le (fun i => decide ((X 355 i).toNat = m ∧ Hit X X2 p i = true)) c
    obtain ⟨j, hj⟩ := Int.eq_ofNat_of_zero_le b2
    obtain ⟨s, hs⟩ := Int.eq_ofNat_of_zero_le b5
    have hcs := hc s (by omega)
    have r39 : -1 ≤ M1 39 s ∧ M1 39 s ≤ 7 := by unfold CellOk at hcs; omega
    have r43 : -1 ≤ M1 43 c ∧ M1 43 c ≤ 7 := by unfold CellOk at c43; omega
    have hce := cell_eq hnv hcs c43
    have one : cnt (fun i => decide ((X 355 i).toNat = m ∧ Hit X X2 p i = true)) (c + 1) = cnt (fun i => decide ((X 355 i).toNat = m ∧ Hit X X2 p i = true)) c + (if ((X 355 c).toNat = m ∧ Hit X X2 p c = true) then 1 else 0) := by
      show cnt _ c + (if decide _ = true then 1 else 0) = _
      simp only [decide_eq_true_eq]
    have hh : Hit X X2 p c = true ↔ X2 (359 + p) (12 * j + s) = X 357 c := by unfold Hit; rw [hj, hs, Int.toNat_natCast, Int.toNat_natCast, decide_eq_true_eq]
    rw [hj, Int.toNat_natCast] at one
    rw [hj] at c41
    rw [hs] at c42
    repeat' (first | with_reducible refine post_lt ?_ | (with_reducible refine post_chk ?_ ?_; focus ((try simp (disch := omega) only [Bool.false_eq_true, not_true_eq_false, not_false_eq_true, Nat.reduceAdd, Nat.reduceMul, w32_eq, w64_eq, lc_eq, lc_lt, lc_le, lc_gt, lc_ge, up_k, up_i, up_e, Int.toNat_natCast, tn7, tn8, tn12, tn3, tn120, tn1600, w32_and, w32_or, w32_xor, w32_shl, w32_shr, has2_eq, e63, c41, c42]) <;> omega)) | (with_reducible refine post_ite (fun hcp => ?_) (fun hcp => ?_) <;> (try simp (disch := omega) only [Bool.false_eq_true, not_true_eq_false, not_false_eq_true, Nat.reduceAdd, Nat.reduceMul, w32_eq, w64_eq, lc_eq, lc_lt, lc_le, lc_gt, lc_ge, up_k, up_i, up_e, Int.toNat_natCast, tn7, tn8, tn12, tn3, tn120, tn1600, w32_and, w32_or, w32_xor, w32_shl, w32_shr, has2_eq, e63, c41, c42] at hcp) <;> (try (exfalso; first | omega | exact hcp rfl | exact hcp trivial | contradiction))))
    · refine ih (H - (c + 1)) _ _ (by omega) ⟨c + 1, rfl, by omega, rfl, ?_⟩
      rw [one, if_neg (fun q => by omega)]; omega
    · refine ih (H - (c + 1)) _ _ (by omega) ⟨c + 1, rfl, by omega, rfl, ?_⟩
      rw [one, if_neg (fun q => by have e : j = m := q.1; have q2 := hh.mp q.2; rw [e] at q2; exact hcp (hce.mpr q2))]; omega
    · refine ih (H - (c + 1)) _ _ (by omega) ⟨c + 1, rfl, by omega, rfl, ?_⟩
      have e : j = m := by omega
      subst e
      rw [one, if_pos ⟨rfl, hh.mpr (hce.mp (by omega))⟩]; omega
  · have e : c = H := by omega
    subst e
    repeat' (first | with_reducible refine post_lt ?_ | (with_reducible refine post_chk ?_ ?_; focus ((try simp (disch := omega) only [Bool.false_eq_true, not_true_eq_false, not_false_eq_true, Nat.reduceAdd, Nat.reduceMul, w32_eq, w64_eq, lc_eq, lc_lt, lc_le, lc_gt, lc_ge, up_k, up_i, up_e, Int.toNat_natCast, tn7, tn8, tn12, tn3, tn120, tn1600, w32_and, w32_or, w32_xor, w32_shl, w32_shr, has2_eq, e63]) <;> omega)) | (with_reducible refine post_ite (fun hcp => ?_) (fun hcp => ?_) <;> (try simp (disch := omega) only [Bool.false_eq_true, not_true_eq_false, not_false_eq_true, Nat.reduceAdd, Nat.reduceMul, w32_eq, w64_eq, lc_eq, lc_lt, lc_le, lc_gt, lc_ge, up_k, up_i, up_e, Int.toNat_natCast, tn7, tn8, tn12, tn3, tn120, tn1600, w32_and, w32_or, w32_xor, w32_shl, w32_shr, has2_eq, e63] at hcp) <;> (try (exfalso; first | omega | exact hcp rfl | exact hcp trivial | contradiction))))
    exact post_some rfl
