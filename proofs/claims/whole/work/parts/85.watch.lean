/-! THE PURE PART: the watch: the minutes of one pitch -/
theorem cnt_all {p : Nat → Bool} {n : Nat} : cnt p n = n ↔ ∀ k, k < n → p k = true := by
  induction n with
  | zero => exact ⟨fun _ k hk => by omega, fun _ => rfl⟩
  | succ n ih =>
    have hle := cnt_le p n
    have e : cnt p (n + 1) = cnt p n + (if p n = true then 1 else 0) := rfl
    rw [e]
    constructor
    · intro h k hk
      by_cases hp : p n = true
      · rw [if_pos hp] at h
        by_cases e : k = n
        · subst e; exact hp
        · exact ih.mp (by omega) k (by omega)
      · rw [if_neg hp] at h; omega
    · intro h
      rw [if_pos (h n (by omega)), ih.mpr (fun k hk => h k (by omega))]
theorem x_fits_is {nv ns p C H : Nat} {X X1 M : Mem} (hns : ns ≤ 12) (hH : RHeard nv ns X M) (hX : X 354 0 = (H : Int)) (h0 : X1 354 = X 354) (h1 : X1 355 = X 355) (h2 : X1 356 = X 356) (h3 : X1 357 = X 357) (hnv : nv ≤ 7) (hp : p < 10) (hC : C ≤ 31)
    (hc : ∀ j s, j < C → s < ns → 0 ≤ X1 (359 + p) (12 * j + s) ∧ X1 (359 + p) (12 * j + s) ≤ 7) :
    post (x_Heard_fits (p : Int) (C : Int) X1) (fun b => b = true ↔ ∀ i, i < H → decide ((X 355 i).toNat < C ∧ Hit X X1 p i = true) = true) := by
  obtain ⟨a1, a2, a3, a4⟩ := hH
  unfold x_Heard_fits
  have main : post (itr1 (x_Heard_fits_L2 (p : Int) (C : Int) X1) FUEL 0) (fun r => (r = .inl false ∧ ¬ ∀ i, i < H → decide ((X 355 i).toNat < C ∧ Hit X X1 p i = true) = true) ∨ (∃ u, r = .inr u ∧ ∀ i, i < H → decide ((X 355 i).toNat < C ∧ Hit X X1 p i = true) = true)) := by
    refine post_itr1 (fun m (i : Int) => ∃ c : Nat, i = (c : Int) ∧ c ≤ H ∧ m = H - c ∧ ∀ j, j < c → decide ((X 355 j).toNat < C ∧ Hit X X1 p j = true) = true) _ ?_ FUEL H 0 (fuel_lt (by omega)) ⟨0, rfl, by omega, rfl, fun v hv => by omega⟩
    rintro m i ⟨c, rfl, hcH, rfl, hall⟩ F ih
    unfold x_Heard_fits_L2
    rw [h0, h1, h2, h3, hX]
    by_cases h : c < H
    · obtain ⟨b1, b2, b3, b4, b5, b6, b7⟩ := a4 c (by omega)
      obtain ⟨j, hj⟩ := Int.eq_ofNat_of_zero_le b2
      obtain ⟨s, hs⟩ := Int.eq_ofNat_of_zero_le b5
      have hh : Hit X X1 p c = true ↔ X1 (359 + p) (12 * j + s) = X 357 c := by unfold Hit; rw [hj, hs, Int.toNat_natCast, Int.toNat_natCast, decide_eq_true_eq]
      have r57 : 0 ≤ X 357 c ∧ X 357 c ≤ 7 := by omega
      have t0 : ((j : Int) * 12 + (s : Int)).toNat = 12 * j + s := by omega
      have bad : ¬ ((X 355 c).toNat < C ∧ Hit X X1 p c = true) → post (some (Sum.inl false)) (fun r : Bool ⊕ Int => (r = .inl false ∧ ¬ ∀ i, i < H → decide ((X 355 i).toNat < C ∧ Hit X X1 p i = true) = true) ∨ (∃ u, r = .inr u ∧ ∀ i, i < H → decide ((X 355 i).toNat < C ∧ Hit X X1 p i = true) = true)) := fun hb =>
        post_some (Or.inl ⟨rfl, fun q => hb (of_decide_eq_true (q c h))⟩)
      by_cases hjC : j < C
      · have hcell := hc j s hjC (by omega)
        repeat' (first | with_reducible refine post_lt ?_ | (with_reducible refine post_chk ?_ ?_; focus ((try simp (disch := omega) only [Bool.false_eq_true, not_true_eq_false, not_false_eq_true, Nat.reduceAdd, Nat.reduceMul, w32_eq, w64_eq, lc_eq, lc_lt, lc_le, lc_gt, lc_ge, up_k, up_i, up_e, Int.toNat_natCast, tn7, tn8, tn12, tn3, tn120, tn1600, w32_and, w32_or, w32_xor, w32_shl, w32_shr, has2_eq, hj, hs, t0]) <;> omega)) | (with_reducible refine post_ite (fun hcp => ?_) (fun hcp => ?_) <;> (try simp (disch := omega) only [Bool.false_eq_true, not_true_eq_false, not_false_eq_true, Nat.reduceAdd, Nat.reduceMul, w32_eq, w64_eq, lc_eq, lc_lt, lc_le, lc_gt, lc_ge, up_k, up_i, up_e, Int.toNat_natCast, tn7, tn8, tn12, tn3, tn120, tn1600, w32_and, w32_or, w32_xor, w32_shl, w32_shr, has2_eq, hj, hs, t0] at hcp) <;> (try (exfalso; first | omega | exact hcp rfl | exact hcp trivial | contradiction))))
        · refine ih (H - (c + 1)) _ (by omega) ⟨c + 1, rfl, by omega, rfl, fun i hi => ?_⟩
          by_cases e : i = c
          · subst e
            rw [decide_eq_true_eq]
            exact ⟨by omega, hh.mpr hcp⟩
          · exact hall i (by omega)
        · exact bad (fun q => hcp (hh.mp q.2))
      · repeat' (first | with_reducible refine post_lt ?_ | (with_reducible refine post_chk ?_ ?_; focus ((try simp (disch := omega) only [Bool.false_eq_true, not_true_eq_false, not_false_eq_true, Nat.reduceAdd, Nat.reduceMul, w32_eq, w64_eq, lc_eq, lc_lt, lc_le, lc_gt, lc_ge, up_k, up_i, up_e, Int.toNat_natCast, tn7, tn8, tn12, tn3, tn120, tn1600, w32_and, w32_or, w32_xor, w32_shl, w32_shr, has2_eq, hj, hs, t0]) <;> omega)) | (with_reducible refine post_ite (fun hcp => ?_) (fun hcp => ?_) <;> (try simp (disch := omega) only [Bool.false_eq_true, not_true_eq_false, not_false_eq_true, Nat.reduceAdd, Nat.reduceMul, w32_eq, w64_eq, lc_eq, lc_lt, lc_le, lc_gt, lc_ge, up_k, up_i, up_e, Int.toNat_natCast, tn7, tn8, tn12, tn3, tn120, tn1600, w32_and, w32_or, w32_xor, w32_shl, w32_shr, has2_eq, hj, hs, t0] at hcp) <;> (try (exfalso; first | omega | exact hcp rfl | exact hcp trivial | contradiction))))
        exact bad (fun q => by omega)
    · have e : c = H := by omega
      subst e
      repeat' (first | with_reducible refine post_lt ?_ | (with_reducible refine post_chk ?_ ?_; focus ((try simp (disch := omega) only [Bool.false_eq_true, not_true_eq_false, not_false_eq_true, Nat.reduceAdd, Nat.reduceMul, w32_eq, w64_eq, lc_eq, lc_lt, lc_le, lc_gt, lc_ge, up_k, up_i, up_e, Int.toNat_natCast, tn7, tn8, tn12, tn3, tn120, tn1600, w32_and, w32_or, w32_xor, w32_shl, w32_shr, has2_eq]) <;> omega)) | (with_reducible refine post_ite (fun hcp => ?_) (fun hcp => ?_) <;> (try simp (disch := omega) only [Bool.false_eq_true, not_true_eq_false, not_false_eq_true, Nat.reduceAdd, Nat.reduceMul, w32_eq, w64_eq, lc_eq, lc_lt, lc_le, lc_gt, lc_ge, up_k, up_i, up_e, Int.toNat_natCast, tn7, tn8, tn12, tn3, tn120, tn1600, w32_and, w32_or, w32_xor, w32_shl, w32_shr, has2_eq] at hcp) <;> (try (exfalso; first | omega | exact hcp rfl | exact hcp trivial | contradiction))))
      exact post_some (Or.inr ⟨_, rfl, hall⟩)
  obtain ⟨r, er, hr⟩ := main
  rw [er]
  rcases hr with ⟨rfl, hn⟩ | ⟨u, rfl, hy⟩
  · exact post_some ⟨fun q => (by cases q), fun q => absurd q hn⟩
  · exact post_some ⟨fun _ => hy, fun _ => rfl⟩
/-- what is heard of every saying, of the first N pairs of a pitch and a minute -/
def Cells (nv ns C N : Nat) (X M : Mem) : Prop := ∀ q j s, q < 10 → j < C → s < ns → 31 * q + j < N → CellOk nv (X (359 + q) (12 * j + s)) (M 44 (12 * (31 * q + j) + s))
theorem Cells_next {nv ns C p c : Nat} {X M X1 M1 : Mem} (h : Cells nv ns C (31 * p + c) X M) (hC : C ≤ 31) (hc : c < C) (hx : ∀ q, q < 10 → q ≠ p → X1 (359 + q) = X (359 + q)) (hp : ∀ j, j < 12 * c → X1 (359 + p) j = X (359 + p) j) (hm : ∀ j, j < 12 * (31 * p + c) → M1 44 j = M 44 j)
    (hns : ns ≤ 12) (hn : ∀ s, s < ns → CellOk nv (X1 (359 + p) (12 * c + s)) (M1 44 (12 * (31 * p + c) + s))) : Cells nv ns C (31 * p + (c + 1)) X1 M1 := by
  intro q j s hq hj hs hlt
  by_cases e : 31 * q + j < 31 * p + c
  · rw [hm _ (by omega)]
    by_cases eq : q = p
    · subst eq
      rw [hp _ (by omega)]
      exact h q j s hq hj hs e
    · rw [hx q hq eq]
      exact h q j s hq hj hs e
  · have eq : q = p := by omega
    subst eq
    have ej : j = c := by omega
    subst ej
    exact hn s hs
