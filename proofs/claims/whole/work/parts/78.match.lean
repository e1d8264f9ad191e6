/-! THE PURE PART: the best match -/
theorem chk_p {α : Type} {c : Prop} [Decidable c] {k : Option α} (h : c) : chk c k = k := by unfold chk; rw [if_pos h]
theorem tk_bits : ∀ t : Nat, t < 128 → ∀ v : Nat, v < 7 → ((and32 (t : Int) (shl32 1 (v : Int)) = 0) ↔ ¬ (and32 (shr32 (t : Int) (v : Int)) 1 = 1)) ∧ or32 (t : Int) (shl32 1 (v : Int)) = ((t ||| 2 ^ v : Nat) : Int) ∧ (t ||| 2 ^ v) < 128 := by decide +kernel
theorem x_fill0 {a n : Nat} {w : Int} {X : Mem} (hn : n ≤ 2000) : post (j_Arrays_fill_53178 a n w X) (fun X1 => (∀ q, q ≠ a → X1 q = X q) ∧ (∀ j, j < n → X1 a j = w) ∧ (∀ j, n ≤ j → X1 a j = X a j)) := by
  unfold j_Arrays_fill_53178
  repeat' (first | with_reducible refine post_lt ?_ | (with_reducible refine post_chk ?_ ?_; focus ((try simp (disch := omega) only [Bool.false_eq_true, not_true_eq_false, not_false_eq_true, Nat.reduceAdd, Nat.reduceMul, w32_eq, w64_eq, lc_eq, lc_lt, lc_le, lc_gt, lc_ge, up_k, up_i, up_e, Int.toNat_natCast, tn7, tn8, tn12, tn3, tn120, tn1600, w32_and, w32_or, w32_xor, w32_shl, w32_shr, has2_eq]) <;> omega)) | (with_reducible refine post_ite (fun hcp => ?_) (fun hcp => ?_) <;> (try simp (disch := omega) only [Bool.false_eq_true, not_true_eq_false, not_false_eq_true, Nat.reduceAdd, Nat.reduceMul, w32_eq, w64_eq, lc_eq, lc_lt, lc_le, lc_gt, lc_ge, up_k, up_i, up_e, Int.toNat_natCast, tn7, tn8, tn12, tn3, tn120, tn1600, w32_and, w32_or, w32_xor, w32_shl, w32_shr, has2_eq] at hcp) <;> (try (exfalso; first | omega | exact hcp rfl | exact hcp trivial | contradiction))))
  refine post_bnd (post_itr2 (fun m (i : Int) X1 => ∃ c : Nat, i = (c : Int) ∧ c ≤ n ∧ m = n - c ∧ (∀ q, q ≠ a → X1 q = X q) ∧ (∀ j, j < c → X1 a j = w) ∧ (∀ j, c ≤ j → X1 a j = X a j)) (fun p => (∀ q, q ≠ a → p.2 q = X q) ∧ (∀ j, j < n → p.2 a j = w) ∧ (∀ j, n ≤ j → p.2 a j = X a j)) ?_ FUEL n 0 X (fuel_lt (by omega)) ⟨0, rfl, by omega, rfl, fun _ _ => rfl, fun j hj => by omega, fun _ _ => rfl⟩) (fun p h => post_some h)
  rintro m i X1 ⟨c, rfl, hc, rfl, h1, h2, h3⟩ F ih
  unfold j_Arrays_fill_53178_L5
  by_cases h : c < n
  · repeat' (first | with_reducible refine post_lt ?_ | (with_reducible refine post_chk ?_ ?_; focus ((try simp (disch := omega) only [Bool.false_eq_true, not_true_eq_false, not_false_eq_true, Nat.reduceAdd, Nat.reduceMul, w32_eq, w64_eq, lc_eq, lc_lt, lc_le, lc_gt, lc_ge, up_k, up_i, up_e, Int.toNat_natCast, tn7, tn8, tn12, tn3, tn120, tn1600, w32_and, w32_or, w32_xor, w32_shl, w32_shr, has2_eq]) <;> omega)) | (with_reducible refine post_ite (fun hcp => ?_) (fun hcp => ?_) <;> (try simp (disch := omega) only [Bool.false_eq_true, not_true_eq_false, not_false_eq_true, Nat.reduceAdd, Nat.reduceMul, w32_eq, w64_eq, lc_eq, lc_lt, lc_le, lc_gt, lc_ge, up_k, up_i, up_e, Int.toNat_natCast, tn7, tn8, tn12, tn3, tn120, tn1600, w32_and, w32_or, w32_xor, w32_shl, w32_shr, has2_eq] at hcp) <;> (try (exfalso; first | omega | exact hcp rfl | exact hcp trivial | contradiction))))
    simp only [Int.toNat_natCast]
    refine ih (n - (c + 1)) _ _ (by omega) ⟨c + 1, rfl, by omega, rfl, fun q hq => by rw [upM_row hq]; exact h1 q hq, fun j hj => ?_, fun j hj => by rw [up_i (by omega)]; exact h3 j (by omega)⟩
    by_cases e : j = c
    · subst e; rw [up_e]
    · rw [up_i e]; exact h2 j (by omega)
  · repeat' (first | with_reducible refine post_lt ?_ | (with_reducible refine post_chk ?_ ?_; focus ((try simp (disch := omega) only [Bool.false_eq_true, not_true_eq_false, not_false_eq_true, Nat.reduceAdd, Nat.reduceMul, w32_eq, w64_eq, lc_eq, lc_lt, lc_le, lc_gt, lc_ge, up_k, up_i, up_e, Int.toNat_natCast, tn7, tn8, tn12, tn3, tn120, tn1600, w32_and, w32_or, w32_xor, w32_shl, w32_shr, has2_eq]) <;> omega)) | (with_reducible refine post_ite (fun hcp => ?_) (fun hcp => ?_) <;> (try simp (disch := omega) only [Bool.false_eq_true, not_true_eq_false, not_false_eq_true, Nat.reduceAdd, Nat.reduceMul, w32_eq, w64_eq, lc_eq, lc_lt, lc_le, lc_gt, lc_ge, up_k, up_i, up_e, Int.toNat_natCast, tn7, tn8, tn12, tn3, tn120, tn1600, w32_and, w32_or, w32_xor, w32_shl, w32_shr, has2_eq] at hcp) <;> (try (exfalso; first | omega | exact hcp rfl | exact hcp trivial | contradiction))))
    have : c = n := by omega
    subst this
    exact post_some ⟨h1, h2, h3⟩
/-- what a saying is worth by a voice where some are taken -/
noncomputable def fitv (ns : Nat) (X : Mem) (s v t : Nat) : Int := if and32 (shr32 (t : Int) (v : Int)) 1 = 1 then 0 else smv ns X s v
theorem m_fits_eq {nv np ns bk k s v t : Nat} {X M M1 : Mem} (hR : RAll nv np ns bk k X M) (hm : QM M M1) (hs : s < ns) (hv : v < nv) :
    post (m_fits (s : Int) (v : Int) (t : Int) M1) (fun r => r.1 = fitv ns X s v t ∧ FMs M1 r.2) := by
  have hns := hR.1.1.2.2.2.2
  have hR1 := RAll_q hR (QX_refl X) hm
  have w4 : M1 29 s = X 42 s := by have := hR1.2.1.2.2.2.1 s hs; simpa using this
  have i4 : 0 ≤ X 42 s ∧ X 42 s ≤ 5 := hR.2.2.1.2.2.2.1 s hs
  unfold m_fits fitv
  by_cases hw : X 42 s = 1
  · repeat' (first | with_reducible refine post_lt ?_ | (with_reducible refine post_chk ?_ ?_; focus ((try simp (disch := omega) only [Bool.false_eq_true, not_true_eq_false, not_false_eq_true, Nat.reduceAdd, Nat.reduceMul, w32_eq, w64_eq, lc_eq, lc_lt, lc_le, lc_gt, lc_ge, up_k, up_i, up_e, Int.toNat_natCast, tn7, tn8, tn12, tn3, tn120, tn1600, w32_and, w32_or, w32_xor, w32_shl, w32_shr, has2_eq, w4]) <;> omega)) | (with_reducible refine post_ite (fun hcp => ?_) (fun hcp => ?_) <;> (try simp (disch := omega) only [Bool.false_eq_true, not_true_eq_false, not_false_eq_true, Nat.reduceAdd, Nat.reduceMul, w32_eq, w64_eq, lc_eq, lc_lt, lc_le, lc_gt, lc_ge, up_k, up_i, up_e, Int.toNat_natCast, tn7, tn8, tn12, tn3, tn120, tn1600, w32_and, w32_or, w32_xor, w32_shl, w32_shr, has2_eq, w4] at hcp) <;> (try (exfalso; first | omega | exact hcp rfl | exact hcp trivial | contradiction))))
    refine post_bnde has2_eq ?_
    by_cases hb : and32 (shr32 (t : Int) (v : Int)) 1 = 1
    · rw [decide_eq_true hb]
      simp only [↓reduceIte]
      exact post_some ⟨by rw [if_pos hb], FMs_refl M1⟩
    · rw [decide_eq_false hb]
      simp only [Bool.false_eq_true, ↓reduceIte]
      obtain ⟨b, -, b2, b3⟩ := free_any hR (QX_refl X) hm hv
      refine post_bnde b2 ?_
      cases b
      · simp only [Bool.false_eq_true, ↓reduceIte]
        exact post_some ⟨by rw [if_neg hb, smv_0 (fun z => by have := b3.mpr z.2; cases this)], FMs_refl M1⟩
      · simp only [↓reduceIte]
        obtain ⟨X3, M3, -, p1, p2, p3, -, p4⟩ := pick_any hR (QX_refl X) hm hs hv
        refine post_bnd2e p1 ?_
        repeat' (first | with_reducible refine post_lt ?_ | (with_reducible refine post_chk ?_ ?_; focus ((try simp (disch := omega) only [Bool.false_eq_true, not_true_eq_false, not_false_eq_true, Nat.reduceAdd, Nat.reduceMul, w32_eq, w64_eq, lc_eq, lc_lt, lc_le, lc_gt, lc_ge, up_k, up_i, up_e, Int.toNat_natCast, tn7, tn8, tn12, tn3, tn120, tn1600, w32_and, w32_or, w32_xor, w32_shl, w32_shr, has2_eq]) <;> omega)) | (with_reducible refine post_ite (fun hcp => ?_) (fun hcp => ?_) <;> (try simp (disch := omega) only [Bool.false_eq_true, not_true_eq_false, not_false_eq_true, Nat.reduceAdd, Nat.reduceMul, w32_eq, w64_eq, lc_eq, lc_lt, lc_le, lc_gt, lc_ge, up_k, up_i, up_e, Int.toNat_natCast, tn7, tn8, tn12, tn3, tn120, tn1600, w32_and, w32_or, w32_xor, w32_shl, w32_shr, has2_eq] at hcp) <;> (try (exfalso; first | omega | exact hcp rfl | exact hcp trivial | contradiction))))
        · exact post_some ⟨by rw [if_neg hb, smv_val hw (b3.mp rfl), if_neg (by omega)], p4⟩
        · exact post_some ⟨by rw [if_neg hb, smv_val hw (b3.mp rfl), if_pos (by omega)], p4⟩
  · repeat' (first | with_reducible refine post_lt ?_ | (with_reducible refine post_chk ?_ ?_; focus ((try simp (disch := omega) only [Bool.false_eq_true, not_true_eq_false, not_false_eq_true, Nat.reduceAdd, Nat.reduceMul, w32_eq, w64_eq, lc_eq, lc_lt, lc_le, lc_gt, lc_ge, up_k, up_i, up_e, Int.toNat_natCast, tn7, tn8, tn12, tn3, tn120, tn1600, w32_and, w32_or, w32_xor, w32_shl, w32_shr, has2_eq, w4]) <;> omega)) | (with_reducible refine post_ite (fun hcp => ?_) (fun hcp => ?_) <;> (try simp (disch := omega) only [Bool.false_eq_true, not_true_eq_false, not_false_eq_true, Nat.reduceAdd, Nat.reduceMul, w32_eq, w64_eq, lc_eq, lc_lt, lc_le, lc_gt, lc_ge, up_k, up_i, up_e, Int.toNat_natCast, tn7, tn8, tn12, tn3, tn120, tn1600, w32_and, w32_or, w32_xor, w32_shl, w32_shr, has2_eq, w4] at hcp) <;> (try (exfalso; first | omega | exact hcp rfl | exact hcp trivial | contradiction))))
    refine post_some ⟨?_, FMs_refl M1⟩
    by_cases hb : and32 (shr32 (t : Int) (v : Int)) 1 = 1
    · rw [if_pos hb]
    · rw [if_neg hb, smv_0 (fun z => hw z.1)]
theorem fitv_b {nv np ns bk k s v t : Nat} {X M : Mem} (hR : RAll nv np ns bk k X M) (hs : s < ns) (hv : v < nv) : 0 ≤ fitv ns X s v t ∧ fitv ns X s v t ≤ 1000000 := by
  have := smv_b hR hs hv
  unfold fitv
  split <;> omega
/-- the table from a saying on, in both -/
def BE (ns s : Nat) (X M : Mem) : Prop := ∀ s' t, s ≤ s' → s' ≤ ns → t < 128 → X (328 + s') t = M 40 (128 * s' + t) ∧ 0 ≤ X (328 + s') t ∧ X (328 + s') t ≤ 1000000 * ((ns - s' : Nat) : Int)
def SUMS (nv ns : Nat) (X X1 : Mem) : Prop := ∀ s v, s < ns → v < nv → X1 (342 + s) v = smv ns X s v
theorem x_sumWith {nv np ns bk k s v t : Nat} {X M X1 M1 : Mem} (hR : RAll nv np ns bk k X M) (hs : s < ns) (hv : v < nv) (ht : t < 128) (hB : BE ns (s + 1) X1 M1) (hsum : SUMS nv ns X X1) :
    x_Matching_sumWith (s : Int) (v : Int) (t : Int) X1 = some (if 0 < fitv ns X s v t then fitv ns X s v t + X1 (328 + (s + 1)) (t ||| 2 ^ v) else -1) := by
  have hns := hR.1.1.2.2.2.2
  have hnv := hR.1.1.2.2.1
  obtain ⟨b1, b2, b3⟩ := tk_bits t ht v (by omega)
  have hb := smv_b hR hs hv
  unfold x_Matching_sumWith
  simp only [lt_eq, b2, w32_and, Int.toNat_natCast, hsum s v hs hv]
  by_cases hbit : and32 (shr32 (t : Int) (v : Int)) 1 = 1
  · rw [if_pos (fun z => (b1.mp z) hbit)]
    unfold fitv
    rw [if_pos hbit, if_neg (by omega)]
  · rw [if_neg (fun z => z (b1.mpr hbit))]
    have e1 : (((s : Int) + 1)).toNat = s + 1 := by omega
    unfold fitv
    rw [if_neg hbit]
    by_cases h0 : 0 < smv ns X s v
    · rw [chk_p (by omega), chk_p (by omega), w32_eq (by omega) (by omega), if_pos h0, chk_p (by omega), chk_p (by omega), chk_p (by omega), chk_p (by omega), if_pos h0, e1]
    · rw [chk_p (by omega), chk_p (by omega), w32_eq (by omega) (by omega), if_neg h0, if_neg h0]
theorem QX_best {X1 : Mem} {a i : Nat} {w : Int} (h : 327 ≤ a ∧ a ≤ 353) : QX X1 (upM X1 a i w) := fun q g1 g2 g3 g4 g5 => upM_row (by omega)
theorem QM_best {M1 : Mem} {i : Nat} {w : Int} : QM M1 (upM M1 40 i w) := fun q j g => by rw [upM_row (by omega)]
/-- one cell of the table -/
theorem best_cell {nv np ns bk k s t : Nat} {X M X1 M1 : Mem} (hR : RAll nv np ns bk k X M) (hx : QX X X1) (hm : QM M M1) (hs : s < ns) (ht : t < 128) (hB : BE ns (s + 1) X1 M1) (hsum : SUMS nv ns X X1) (a1 : Int) (w : Int) (hw : 0 ≤ w ∧ w ≤ 1000000 * ((ns - s : Nat) : Int)) :
    two (itr2 (x_Matching_fillBest_L56 (s : Int) (t : Int) X1) FUEL w 0) (itr3 (m_match_L91 a1 (s : Int) (t : Int)) FUEL w 0 M1) (fun p q => p.1 = q.1 ∧ 0 ≤ p.1 ∧ p.1 ≤ 1000000 * ((ns - s : Nat) : Int) ∧ FMs M1 q.2.2) := by
  have hns := hR.1.1.2.2.2.2
  have hnv := hR.1.1.2.2.1
  have x01 : X1 23 0 = (nv : Int) := by rw [hx 23 (by omega) (by omega) (by omega) (by omega) (by omega)]; exact hR.1.2.1.1
  refine two_itr23 (fun n (a i b j : Int) M2 => ∃ c : Nat, i = (c : Int) ∧ j = (c : Int) ∧ a = b ∧ c ≤ nv ∧ n = nv - c ∧ 0 ≤ a ∧ a ≤ 1000000 * ((ns - s : Nat) : Int) ∧ FMs M1 M2) _ ?_ FUEL nv w 0 w 0 M1 (fuel_lt (by omega)) ⟨0, rfl, rfl, rfl, by omega, rfl, hw.1, hw.2, FMs_refl M1⟩
  rintro n a i b j M2 ⟨v, rfl, rfl, rfl, hv, rfl, h0, h1, hm2⟩ F G ih
  have hmm := QM_trans hm (QM_s hm2)
  have hR2 := RAll_q hR (QX_refl X) hmm
  obtain ⟨⟨tb, tb2, tnv, tnp, tns⟩, ⟨x0, x1, x2⟩, ⟨m0, m1, m2⟩, -⟩ := hR2.1
  unfold x_Matching_fillBest_L56 m_match_L91
  by_cases h : v < nv
  · obtain ⟨b1, b2, b3⟩ := tk_bits t ht v (by omega)
    have hf := fitv_b (t := t) hR hs h
    obtain ⟨e40, r1, r2⟩ := hB (s + 1) (t ||| 2 ^ v) (by omega) (by omega) b3
    have hB2 : M2 40 = M1 40 := hm2 40 (by omega) (by omega)
    obtain ⟨⟨f, M3⟩, p1, p2, p3⟩ := m_fits_eq (t := t) hR hmm hs h
    simp only at p2 p3
    have n1 : (128 * ((s : Int) + 1) + ((t ||| 2 ^ v : Nat) : Int)).toNat = 128 * (s + 1) + (t ||| 2 ^ v) := by omega
    have hB3 : M3 40 = M1 40 := by rw [p3 40 (by omega) (by omega)]; exact hB2
    repeat' (first | with_reducible refine two_lt_l ?_ | (with_reducible refine two_chk_l ?_ ?_; focus ((try simp (disch := omega) only [Bool.false_eq_true, not_true_eq_false, not_false_eq_true, Nat.reduceAdd, Nat.reduceMul, w32_eq, w64_eq, lc_eq, lc_lt, lc_le, lc_gt, lc_ge, up_k, up_i, up_e, Int.toNat_natCast, tn7, tn8, tn12, tn3, tn120, tn1600, w32_and, w32_or, w32_xor, w32_shl, w32_shr, has2_eq, x01]) <;> omega)) | (with_reducible refine two_ite_l (fun hcl => ?_) (fun hcl => ?_) <;> (try simp (disch := omega) only [Bool.false_eq_true, not_true_eq_false, not_false_eq_true, Nat.reduceAdd, Nat.reduceMul, w32_eq, w64_eq, lc_eq, lc_lt, lc_le, lc_gt, lc_ge, up_k, up_i, up_e, Int.toNat_natCast, tn7, tn8, tn12, tn3, tn120, tn1600, w32_and, w32_or, w32_xor, w32_shl, w32_shr, has2_eq, x01] at hcl) <;> (try (exfalso; first | omega | exact hcl rfl | exact hcl trivial | contradiction))))
    refine two_bnd_l (x_sumWith hR hs h ht hB hsum) ?_
    repeat' (first | with_reducible refine two_lt_r ?_ | (with_reducible refine two_chk_r ?_ ?_; focus ((try simp (disch := omega) only [Bool.false_eq_true, not_true_eq_false, not_false_eq_true, Nat.reduceAdd, Nat.reduceMul, w32_eq, w64_eq, lc_eq, lc_lt, lc_le, lc_gt, lc_ge, up_k, up_i, up_e, Int.toNat_natCast, tn7, tn8, tn12, tn3, tn120, tn1600, w32_and, w32_or, w32_xor, w32_shl, w32_shr, has2_eq, tb, m0]) <;> omega)) | (with_reducible refine two_ite_r (fun hcr => ?_) (fun hcr => ?_) <;> (try simp (disch := omega) only [Bool.false_eq_true, not_true_eq_false, not_false_eq_true, Nat.reduceAdd, Nat.reduceMul, w32_eq, w64_eq, lc_eq, lc_lt, lc_le, lc_gt, lc_ge, up_k, up_i, up_e, Int.toNat_natCast, tn7, tn8, tn12, tn3, tn120, tn1600, w32_and, w32_or, w32_xor, w32_shl, w32_shr, has2_eq, tb, m0] at hcr) <;> (try (exfalso; first | omega | exact hcr rfl | exact hcr trivial | contradiction))))
    refine two_bnd2_r p1 ?_
    rw [p2]
    have hnx : ∀ z : Int, 0 ≤ z → z ≤ 1000000 * ((ns - s : Nat) : Int) → two (F z ((v : Int) + 1)) (G z ((v : Int) + 1) M3) (fun p q => p.1 = q.1 ∧ 0 ≤ p.1 ∧ p.1 ≤ 1000000 * ((ns - s : Nat) : Int) ∧ FMs M1 q.2.2) := fun z hz1 hz2 => ih (nv - (v + 1)) _ _ _ _ _ (by omega) ⟨v + 1, rfl, rfl, rfl, by omega, rfl, hz1, hz2, FMs_trans hm2 p3⟩
    by_cases hpos : 0 < fitv ns X s v t
    · rw [if_pos hpos]
      have hmax : j_Math_max_7cf53 a (fitv ns X s v t + X1 (328 + (s + 1)) (t ||| 2 ^ v)) = some (if a < fitv ns X s v t + X1 (328 + (s + 1)) (t ||| 2 ^ v) then fitv ns X s v t + X1 (328 + (s + 1)) (t ||| 2 ^ v) else a) := by
        unfold j_Math_max_7cf53
        rw [w32_eq (by omega) (by omega), w32_eq (by omega) (by omega)]
        split <;> rfl
      refine two_bnd_l hmax ?_
      unfold m_from
      simp only [b2, bnd_some, n1, hB3, ← e40]
      by_cases hlt : a < fitv ns X s v t + X1 (328 + (s + 1)) (t ||| 2 ^ v)
      · rw [if_pos hlt]
        repeat' (first | with_reducible refine two_lt_l ?_ | (with_reducible refine two_chk_l ?_ ?_; focus ((try simp (disch := omega) only [Bool.false_eq_true, not_true_eq_false, not_false_eq_true, Nat.reduceAdd, Nat.reduceMul, w32_eq, w64_eq, lc_eq, lc_lt, lc_le, lc_gt, lc_ge, up_k, up_i, up_e, Int.toNat_natCast, tn7, tn8, tn12, tn3, tn120, tn1600, w32_and, w32_or, w32_xor, w32_shl, w32_shr, has2_eq]) <;> omega)) | (with_reducible refine two_ite_l (fun hcl => ?_) (fun hcl => ?_) <;> (try simp (disch := omega) only [Bool.false_eq_true, not_true_eq_false, not_false_eq_true, Nat.reduceAdd, Nat.reduceMul, w32_eq, w64_eq, lc_eq, lc_lt, lc_le, lc_gt, lc_ge, up_k, up_i, up_e, Int.toNat_natCast, tn7, tn8, tn12, tn3, tn120, tn1600, w32_and, w32_or, w32_xor, w32_shl, w32_shr, has2_eq] at hcl) <;> (try (exfalso; first | omega | exact hcl rfl | exact hcl trivial | contradiction))))
        repeat' (first | with_reducible refine two_lt_r ?_ | (with_reducible refine two_chk_r ?_ ?_; focus ((try simp (disch := omega) only [Bool.false_eq_true, not_true_eq_false, not_false_eq_true, Nat.reduceAdd, Nat.reduceMul, w32_eq, w64_eq, lc_eq, lc_lt, lc_le, lc_gt, lc_ge, up_k, up_i, up_e, Int.toNat_natCast, tn7, tn8, tn12, tn3, tn120, tn1600, w32_and, w32_or, w32_xor, w32_shl, w32_shr, has2_eq]) <;> omega)) | (with_reducible refine two_ite_r (fun hcr => ?_) (fun hcr => ?_) <;> (try simp (disch := omega) only [Bool.false_eq_true, not_true_eq_false, not_false_eq_true, Nat.reduceAdd, Nat.reduceMul, w32_eq, w64_eq, lc_eq, lc_lt, lc_le, lc_gt, lc_ge, up_k, up_i, up_e, Int.toNat_natCast, tn7, tn8, tn12, tn3, tn120, tn1600, w32_and, w32_or, w32_xor, w32_shl, w32_shr, has2_eq] at hcr) <;> (try (exfalso; first | omega | exact hcr rfl | exact hcr trivial | contradiction))))
        exact hnx _ (by omega) (by omega)
      · rw [if_neg hlt]
        repeat' (first | with_reducible refine two_lt_l ?_ | (with_reducible refine two_chk_l ?_ ?_; focus ((try simp (disch := omega) only [Bool.false_eq_true, not_true_eq_false, not_false_eq_true, Nat.reduceAdd, Nat.reduceMul, w32_eq, w64_eq, lc_eq, lc_lt, lc_le, lc_gt, lc_ge, up_k, up_i, up_e, Int.toNat_natCast, tn7, tn8, tn12, tn3, tn120, tn1600, w32_and, w32_or, w32_xor, w32_shl, w32_shr, has2_eq]) <;> omega)) | (with_reducible refine two_ite_l (fun hcl => ?_) (fun hcl => ?_) <;> (try simp (disch := omega) only [Bool.false_eq_true, not_true_eq_false, not_false_eq_true, Nat.reduceAdd, Nat.reduceMul, w32_eq, w64_eq, lc_eq, lc_lt, lc_le, lc_gt, lc_ge, up_k, up_i, up_e, Int.toNat_natCast, tn7, tn8, tn12, tn3, tn120, tn1600, w32_and, w32_or, w32_xor, w32_shl, w32_shr, has2_eq] at hcl) <;> (try (exfalso; first | omega | exact hcl rfl | exact hcl trivial | contradiction))))
        repeat' (first | with_reducible refine two_lt_r ?_ | (with_reducible refine two_chk_r ?_ ?_; focus ((try simp (disch := omega) only [Bool.false_eq_true, not_true_eq_false, not_false_eq_true, Nat.reduceAdd, Nat.reduceMul, w32_eq, w64_eq, lc_eq, lc_lt, lc_le, lc_gt, lc_ge, up_k, up_i, up_e, Int.toNat_natCast, tn7, tn8, tn12, tn3, tn120, tn1600, w32_and, w32_or, w32_xor, w32_shl, w32_shr, has2_eq]) <;> omega)) | (with_reducible refine two_ite_r (fun hcr => ?_) (fun hcr => ?_) <;> (try simp (disch := omega) only [Bool.false_eq_true, not_true_eq_false, not_false_eq_true, Nat.reduceAdd, Nat.reduceMul, w32_eq, w64_eq, lc_eq, lc_lt, lc_le, lc_gt, lc_ge, up_k, up_i, up_e, Int.toNat_natCast, tn7, tn8, tn12, tn3, tn120, tn1600, w32_and, w32_or, w32_xor, w32_shl, w32_shr, has2_eq] at hcr) <;> (try (exfalso; first | omega | exact hcr rfl | exact hcr trivial | contradiction))))
        exact hnx _ h0 h1
    · rw [if_neg hpos]
      have hmax : j_Math_max_7cf53 a (-1) = some a := by
        unfold j_Math_max_7cf53
        rw [w32_eq (by omega) (by omega), w32_eq (by omega) (by omega), if_neg (by omega)]
      refine two_bnd_l hmax ?_
      repeat' (first | with_reducible refine two_lt_l ?_ | (with_reducible refine two_chk_l ?_ ?_; focus ((try simp (disch := omega) only [Bool.false_eq_true, not_true_eq_false, not_false_eq_true, Nat.reduceAdd, Nat.reduceMul, w32_eq, w64_eq, lc_eq, lc_lt, lc_le, lc_gt, lc_ge, up_k, up_i, up_e, Int.toNat_natCast, tn7, tn8, tn12, tn3, tn120, tn1600, w32_and, w32_or, w32_xor, w32_shl, w32_shr, has2_eq]) <;> omega)) | (with_reducible refine two_ite_l (fun hcl => ?_) (fun hcl => ?_) <;> (try simp (disch := omega) only [Bool.false_eq_true, not_true_eq_false, not_false_eq_true, Nat.reduceAdd, Nat.reduceMul, w32_eq, w64_eq, lc_eq, lc_lt, lc_le, lc_gt, lc_ge, up_k, up_i, up_e, Int.toNat_natCast, tn7, tn8, tn12, tn3, tn120, tn1600, w32_and, w32_or, w32_xor, w32_shl, w32_shr, has2_eq] at hcl) <;> (try (exfalso; first | omega | exact hcl rfl | exact hcl trivial | contradiction))))
      repeat' (first | with_reducible refine two_lt_r ?_ | (with_reducible refine two_chk_r ?_ ?_; focus ((try simp (disch := omega) only [Bool.false_eq_true, not_true_eq_false, not_false_eq_true, Nat.reduceAdd, Nat.reduceMul, w32_eq, w64_eq, lc_eq, lc_lt, lc_le, lc_gt, lc_ge, up_k, up_i, up_e, Int.toNat_natCast, tn7, tn8, tn12, tn3, tn120, tn1600, w32_and, w32_or, w32_xor, w32_shl, w32_shr, has2_eq]) <;> omega)) | (with_reducible refine two_ite_r (fun hcr => ?_) (fun hcr => ?_) <;> (try simp (disch := omega) only [Bool.false_eq_true, not_true_eq_false, not_false_eq_true, Nat.reduceAdd, Nat.reduceMul, w32_eq, w64_eq, lc_eq, lc_lt, lc_le, lc_gt, lc_ge, up_k, up_i, up_e, Int.toNat_natCast, tn7, tn8, tn12, tn3, tn120, tn1600, w32_and, w32_or, w32_xor, w32_shl, w32_shr, has2_eq] at hcr) <;> (try (exfalso; first | omega | exact hcr rfl | exact hcr trivial | contradiction))))
      exact hnx _ h0 h1
  · repeat' (first | with_reducible refine two_lt_l ?_ | (with_reducible refine two_chk_l ?_ ?_; focus ((try simp (disch := omega) only [Bool.false_eq_true, not_true_eq_false, not_false_eq_true, Nat.reduceAdd, Nat.reduceMul, w32_eq, w64_eq, lc_eq, lc_lt, lc_le, lc_gt, lc_ge, up_k, up_i, up_e, Int.toNat_natCast, tn7, tn8, tn12, tn3, tn120, tn1600, w32_and, w32_or, w32_xor, w32_shl, w32_shr, has2_eq, x01]) <;> omega)) | (with_reducible refine two_ite_l (fun hcl => ?_) (fun hcl => ?_) <;> (try simp (disch := omega) only [Bool.false_eq_true, not_true_eq_false, not_false_eq_true, Nat.reduceAdd, Nat.reduceMul, w32_eq, w64_eq, lc_eq, lc_lt, lc_le, lc_gt, lc_ge, up_k, up_i, up_e, Int.toNat_natCast, tn7, tn8, tn12, tn3, tn120, tn1600, w32_and, w32_or, w32_xor, w32_shl, w32_shr, has2_eq, x01] at hcl) <;> (try (exfalso; first | omega | exact hcl rfl | exact hcl trivial | contradiction))))
    repeat' (first | with_reducible refine two_lt_r ?_ | (with_reducible refine two_chk_r ?_ ?_; focus ((try simp (disch := omega) only [Bool.false_eq_true, not_true_eq_false, not_false_eq_true, Nat.reduceAdd, Nat.reduceMul, w32_eq, w64_eq, lc_eq, lc_lt, lc_le, lc_gt, lc_ge, up_k, up_i, up_e, Int.toNat_natCast, tn7, tn8, tn12, tn3, tn120, tn1600, w32_and, w32_or, w32_xor, w32_shl, w32_shr, has2_eq, tb, m0]) <;> omega)) | (with_reducible refine two_ite_r (fun hcr => ?_) (fun hcr => ?_) <;> (try simp (disch := omega) only [Bool.false_eq_true, not_true_eq_false, not_false_eq_true, Nat.reduceAdd, Nat.reduceMul, w32_eq, w64_eq, lc_eq, lc_lt, lc_le, lc_gt, lc_ge, up_k, up_i, up_e, Int.toNat_natCast, tn7, tn8, tn12, tn3, tn120, tn1600, w32_and, w32_or, w32_xor, w32_shl, w32_shr, has2_eq, tb, m0] at hcr) <;> (try (exfalso; first | omega | exact hcr rfl | exact hcr trivial | contradiction))))
    exact two_some ⟨rfl, h0, h1, hm2⟩
/-- the table, made by both -/
theorem best_all {nv np ns bk k : Nat} {X M : Mem} (hR : RAll nv np ns bk k X M) (a1 : Int) (C : Mem → Option (Int × Mem)) {D : Mem → Option (Int × Mem)} {P : Int × Mem → Int × Mem → Prop}
    (hD : ∀ X1 M1, QX X X1 → QM M M1 → BE ns 0 X1 M1 → SUMS nv ns X X1 → two (D X1) (if ¬ w32 a1 = w32 (-1) then bnd (itr4 (m_match_L216 a1) FUEL 0 (-1) 0 M1) (fun q16 => match q16 with | (v2_16, v3_16, v4_16, M_16) => some (v3_16, M_16)) else some ((M1 40 0), M1)) P) :
    two (bnd (x_Matching_fillBest X) D) (m_match_B15 a1 M) P := by
  have hns := hR.1.1.2.2.2.2
  have hnv := hR.1.1.2.2.1
  obtain ⟨⟨tb, tb2, tnv, tnp, tns⟩, ⟨x0, x1, x2⟩, ⟨m0, m1, m2⟩, -⟩ := hR.1
  obtain ⟨X1, e1, hx1, hs1⟩ := x_fill hR
  have x21 : X1 23 2 = (ns : Int) := by rw [hx1 23 (by omega) (by omega) (by omega) (by omega) (by omega)]; exact x2
  obtain ⟨X2, e2, f1, f2, f3⟩ := x_fill0 (a := 328 + ns) (n := 128) (w := 0) (X := X1) (by omega)
  have x22 : X2 23 2 = (ns : Int) := by rw [f1 23 (by omega)]; exact x21
  have hx2 : QX X X2 := QX_trans hx1 (fun q g1 g2 g3 g4 g5 => f1 q (by omega))
  have hs2 : SUMS nv ns X X2 := fun s v h1 h2 => by rw [f1 _ (by omega)]; exact hs1 s v h1 h2
  have hxf : x_Matching_fillBest X = bnd (itr2 (x_Matching_fillBest_L30) FUEL ((ns : Int) - 1) X2) (fun q7 => match q7 with | (v1_7, M_7) => some M_7) := by
    unfold x_Matching_fillBest
    rw [e1, bnd_some, x21]
    unfold chk
    rw [if_pos (by omega), Int.toNat_natCast, e2, bnd_some]
    simp only [lt_eq, x22]
  have hm1 : post (itr2 (m_match_L17 a1) FUEL 0 M) (fun p => QM M p.2 ∧ ∀ t, t < 128 → p.2 40 (128 * ns + t) = 0) := by
    refine post_itr2 (fun n (i : Int) M1 => ∃ c : Nat, i = (c : Int) ∧ c ≤ 128 ∧ n = 128 - c ∧ QM M M1 ∧ ∀ t, t < c → M1 40 (128 * ns + t) = 0) _ ?_ FUEL 128 0 M (fuel_lt (by omega)) ⟨0, rfl, by omega, rfl, QM_refl M, fun t ht => by omega⟩
    rintro n i M1 ⟨c, rfl, hc, rfl, hm, hz⟩ F ih
    obtain ⟨⟨tb', -⟩, -, ⟨-, -, m2'⟩, -⟩ := (RAll_q hR (QX_refl X) hm).1
    unfold m_match_L17 m_from
    by_cases h : c < 128
    · have n1 : (128 * (ns : Int) + (c : Int)).toNat = 128 * ns + c := by omega
      repeat' (first | with_reducible refine post_lt ?_ | (with_reducible refine post_chk ?_ ?_; focus ((try simp (disch := omega) only [Bool.false_eq_true, not_true_eq_false, not_false_eq_true, Nat.reduceAdd, Nat.reduceMul, w32_eq, w64_eq, lc_eq, lc_lt, lc_le, lc_gt, lc_ge, up_k, up_i, up_e, Int.toNat_natCast, tn7, tn8, tn12, tn3, tn120, tn1600, w32_and, w32_or, w32_xor, w32_shl, w32_shr, has2_eq, tb']) <;> omega)) | (with_reducible refine post_ite (fun hcp => ?_) (fun hcp => ?_) <;> (try simp (disch := omega) only [Bool.false_eq_true, not_true_eq_false, not_false_eq_true, Nat.reduceAdd, Nat.reduceMul, w32_eq, w64_eq, lc_eq, lc_lt, lc_le, lc_gt, lc_ge, up_k, up_i, up_e, Int.toNat_natCast, tn7, tn8, tn12, tn3, tn120, tn1600, w32_and, w32_or, w32_xor, w32_shl, w32_shr, has2_eq, tb'] at hcp) <;> (try (exfalso; first | omega | exact hcp rfl | exact hcp trivial | contradiction))))
      simp only [tb', Int.toNat_natCast, m2', bnd_some]
      repeat' (first | with_reducible refine post_lt ?_ | (with_reducible refine post_chk ?_ ?_; focus ((try simp (disch := omega) only [Bool.false_eq_true, not_true_eq_false, not_false_eq_true, Nat.reduceAdd, Nat.reduceMul, w32_eq, w64_eq, lc_eq, lc_lt, lc_le, lc_gt, lc_ge, up_k, up_i, up_e, Int.toNat_natCast, tn7, tn8, tn12, tn3, tn120, tn1600, w32_and, w32_or, w32_xor, w32_shl, w32_shr, has2_eq]) <;> omega)) | (with_reducible refine post_ite (fun hcp => ?_) (fun hcp => ?_) <;> (try simp (disch := omega) only [Bool.false_eq_true, not_true_eq_false, not_false_eq_true, Nat.reduceAdd, Nat.reduceMul, w32_eq, w64_eq, lc_eq, lc_lt, lc_le, lc_gt, lc_ge, up_k, up_i, up_e, Int.toNat_natCast, tn7, tn8, tn12, tn3, tn120, tn1600, w32_and, w32_or, w32_xor, w32_shl, w32_shr, has2_eq] at hcp) <;> (try (exfalso; first | omega | exact hcp rfl | exact hcp trivial | contradiction))))
      simp only [n1]
      refine ih (128 - (c + 1)) _ _ (by omega) ⟨c + 1, rfl, by omega, rfl, QM_trans hm QM_best, fun t ht => ?_⟩
      by_cases e : t = c
      · subst e; rw [up_e]
      · rw [up_i (by omega)]; exact hz t (by omega)
    · repeat' (first | with_reducible refine post_lt ?_ | (with_reducible refine post_chk ?_ ?_; focus ((try simp (disch := omega) only [Bool.false_eq_true, not_true_eq_false, not_false_eq_true, Nat.reduceAdd, Nat.reduceMul, w32_eq, w64_eq, lc_eq, lc_lt, lc_le, lc_gt, lc_ge, up_k, up_i, up_e, Int.toNat_natCast, tn7, tn8, tn12, tn3, tn120, tn1600, w32_and, w32_or, w32_xor, w32_shl, w32_shr, has2_eq]) <;> omega)) | (with_reducible refine post_ite (fun hcp => ?_) (fun hcp => ?_) <;> (try simp (disch := omega) only [Bool.false_eq_true, not_true_eq_false, not_false_eq_true, Nat.reduceAdd, Nat.reduceMul, w32_eq, w64_eq, lc_eq, lc_lt, lc_le, lc_gt, lc_ge, up_k, up_i, up_e, Int.toNat_natCast, tn7, tn8, tn12, tn3, tn120, tn1600, w32_and, w32_or, w32_xor, w32_shl, w32_shr, has2_eq] at hcp) <;> (try (exfalso; first | omega | exact hcp rfl | exact hcp trivial | contradiction))))
      exact post_some ⟨hm, fun t ht => hz t (by omega)⟩
  unfold m_match_B15
  rw [hxf]
  refine two_pbnd_r hm1 ?_
  rintro ⟨c0, M2⟩ ⟨g1, g2⟩
  simp only at g1 g2 ⊢
  obtain ⟨⟨tb', -⟩, -, ⟨-, -, m2'⟩, -⟩ := (RAll_q hR (QX_refl X) g1).1
  repeat' (first | with_reducible refine two_lt_r ?_ | (with_reducible refine two_chk_r ?_ ?_; focus ((try simp (disch := omega) only [Bool.false_eq_true, not_true_eq_false, not_false_eq_true, Nat.reduceAdd, Nat.reduceMul, w32_eq, w64_eq, lc_eq, lc_lt, lc_le, lc_gt, lc_ge, up_k, up_i, up_e, Int.toNat_natCast, tn7, tn8, tn12, tn3, tn120, tn1600, w32_and, w32_or, w32_xor, w32_shl, w32_shr, has2_eq, tb']) <;> omega)) | (with_reducible refine two_ite_r (fun hcr => ?_) (fun hcr => ?_) <;> (try simp (disch := omega) only [Bool.false_eq_true, not_true_eq_false, not_false_eq_true, Nat.reduceAdd, Nat.reduceMul, w32_eq, w64_eq, lc_eq, lc_lt, lc_le, lc_gt, lc_ge, up_k, up_i, up_e, Int.toNat_natCast, tn7, tn8, tn12, tn3, tn120, tn1600, w32_and, w32_or, w32_xor, w32_shl, w32_shr, has2_eq, tb'] at hcr) <;> (try (exfalso; first | omega | exact hcr rfl | exact hcr trivial | contradiction))))
  simp only [tb', Int.toNat_natCast, m2']
  have hB0 : BE ns ns X2 M2 := fun s' t q1 q2 q3 => by
    have : s' = ns := by omega
    subst this
    rw [f2 t q3, g2 t q3]
    omega
  have hmain : two (itr2 (x_Matching_fillBest_L30) FUEL ((ns : Int) - 1) X2) (itr2 (m_match_L61 a1) FUEL ((ns : Int) - 1) M2) (fun p q => QX X p.2 ∧ QM M q.2 ∧ BE ns 0 p.2 q.2 ∧ SUMS nv ns X p.2) := by
    refine two_itr22 (fun n (i : Int) X3 (j : Int) M3 => ∃ s : Nat, i = (s : Int) - 1 ∧ j = (s : Int) - 1 ∧ n = s ∧ s ≤ ns ∧ QX X X3 ∧ QM M M3 ∧ BE ns s X3 M3 ∧ SUMS nv ns X X3) _ ?_ FUEL ns _ X2 _ M2 (fuel_lt (by omega)) ⟨ns, rfl, rfl, rfl, by omega, hx2, g1, hB0, hs2⟩
    rintro n i X3 j M3 ⟨s1, rfl, rfl, rfl, hs1n, hx3, hm3, hB3, hS3⟩ F G ih
    unfold x_Matching_fillBest_L30 m_match_L61
    by_cases h : 0 < n
    · obtain ⟨s, rfl⟩ : ∃ s, n = s + 1 := ⟨n - 1, by omega⟩
      have es : ((s + 1 : Nat) : Int) - 1 = (s : Int) := by omega
      rw [es]
      have hsn : s < ns := by omega
      repeat' (first | with_reducible refine two_lt_l ?_ | (with_reducible refine two_chk_l ?_ ?_; focus ((try simp (disch := omega) only [Bool.false_eq_true, not_true_eq_false, not_false_eq_true, Nat.reduceAdd, Nat.reduceMul, w32_eq, w64_eq, lc_eq, lc_lt, lc_le, lc_gt, lc_ge, up_k, up_i, up_e, Int.toNat_natCast, tn7, tn8, tn12, tn3, tn120, tn1600, w32_and, w32_or, w32_xor, w32_shl, w32_shr, has2_eq]) <;> omega)) | (with_reducible refine two_ite_l (fun hcl => ?_) (fun hcl => ?_) <;> (try simp (disch := omega) only [Bool.false_eq_true, not_true_eq_false, not_false_eq_true, Nat.reduceAdd, Nat.reduceMul, w32_eq, w64_eq, lc_eq, lc_lt, lc_le, lc_gt, lc_ge, up_k, up_i, up_e, Int.toNat_natCast, tn7, tn8, tn12, tn3, tn120, tn1600, w32_and, w32_or, w32_xor, w32_shl, w32_shr, has2_eq] at hcl) <;> (try (exfalso; first | omega | exact hcl rfl | exact hcl trivial | contradiction))))
      repeat' (first | with_reducible refine two_lt_r ?_ | (with_reducible refine two_chk_r ?_ ?_; focus ((try simp (disch := omega) only [Bool.false_eq_true, not_true_eq_false, not_false_eq_true, Nat.reduceAdd, Nat.reduceMul, w32_eq, w64_eq, lc_eq, lc_lt, lc_le, lc_gt, lc_ge, up_k, up_i, up_e, Int.toNat_natCast, tn7, tn8, tn12, tn3, tn120, tn1600, w32_and, w32_or, w32_xor, w32_shl, w32_shr, has2_eq]) <;> omega)) | (with_reducible refine two_ite_r (fun hcr => ?_) (fun hcr => ?_) <;> (try simp (disch := omega) only [Bool.false_eq_true, not_true_eq_false, not_false_eq_true, Nat.reduceAdd, Nat.reduceMul, w32_eq, w64_eq, lc_eq, lc_lt, lc_le, lc_gt, lc_ge, up_k, up_i, up_e, Int.toNat_natCast, tn7, tn8, tn12, tn3, tn120, tn1600, w32_and, w32_or, w32_xor, w32_shl, w32_shr, has2_eq] at hcr) <;> (try (exfalso; first | omega | exact hcr rfl | exact hcr trivial | contradiction))))
      refine two_bnd (two_itr22 (fun n (i : Int) X4 (j : Int) M4 => ∃ t : Nat, i = (t : Int) ∧ j = (t : Int) ∧ n = 128 - t ∧ t ≤ 128 ∧ QX X X4 ∧ QM M M4 ∧ BE ns (s + 1) X4 M4 ∧ SUMS nv ns X X4 ∧ (∀ u, u < t → X4 (328 + s) u = M4 40 (128 * s + u) ∧ 0 ≤ X4 (328 + s) u ∧ X4 (328 + s) u ≤ 1000000 * ((ns - s : Nat) : Int))) (fun p q => QX X p.2 ∧ QM M q.2 ∧ BE ns s p.2 q.2 ∧ SUMS nv ns X p.2) ?_ FUEL 128 0 X3 0 M3 (fuel_lt (by omega)) ⟨0, rfl, rfl, rfl, by omega, hx3, hm3, hB3, hS3, fun u hu => by omega⟩) ?_
      · rintro n i X4 j M4 ⟨t, rfl, rfl, rfl, ht, hx4, hm4, hB4, hS4, hrow⟩ F2 G2 ih2
        unfold x_Matching_fillBest_L36 m_match_L67 m_from
        by_cases h2 : t < 128
        · obtain ⟨q1, q2, q3⟩ := hB4 (s + 1) t (by omega) (by omega) h2
          have e1 : (((s : Int) + 1)).toNat = s + 1 := by omega
          have n1 : (128 * ((s : Int) + 1) + (t : Int)).toNat = 128 * (s + 1) + t := by omega
          have n2 : (128 * (s : Int) + (t : Int)).toNat = 128 * s + t := by omega
          repeat' (first | with_reducible refine two_lt_l ?_ | (with_reducible refine two_chk_l ?_ ?_; focus ((try simp (disch := omega) only [Bool.false_eq_true, not_true_eq_false, not_false_eq_true, Nat.reduceAdd, Nat.reduceMul, w32_eq, w64_eq, lc_eq, lc_lt, lc_le, lc_gt, lc_ge, up_k, up_i, up_e, Int.toNat_natCast, tn7, tn8, tn12, tn3, tn120, tn1600, w32_and, w32_or, w32_xor, w32_shl, w32_shr, has2_eq]) <;> omega)) | (with_reducible refine two_ite_l (fun hcl => ?_) (fun hcl => ?_) <;> (try simp (disch := omega) only [Bool.false_eq_true, not_true_eq_false, not_false_eq_true, Nat.reduceAdd, Nat.reduceMul, w32_eq, w64_eq, lc_eq, lc_lt, lc_le, lc_gt, lc_ge, up_k, up_i, up_e, Int.toNat_natCast, tn7, tn8, tn12, tn3, tn120, tn1600, w32_and, w32_or, w32_xor, w32_shl, w32_shr, has2_eq] at hcl) <;> (try (exfalso; first | omega | exact hcl rfl | exact hcl trivial | contradiction))))
          simp only [e1, Int.toNat_natCast]
          repeat' (first | with_reducible refine two_lt_r ?_ | (with_reducible refine two_chk_r ?_ ?_; focus ((try simp (disch := omega) only [Bool.false_eq_true, not_true_eq_false, not_false_eq_true, Nat.reduceAdd, Nat.reduceMul, w32_eq, w64_eq, lc_eq, lc_lt, lc_le, lc_gt, lc_ge, up_k, up_i, up_e, Int.toNat_natCast, tn7, tn8, tn12, tn3, tn120, tn1600, w32_and, w32_or, w32_xor, w32_shl, w32_shr, has2_eq]) <;> omega)) | (with_reducible refine two_ite_r (fun hcr => ?_) (fun hcr => ?_) <;> (try simp (disch := omega) only [Bool.false_eq_true, not_true_eq_false, not_false_eq_true, Nat.reduceAdd, Nat.reduceMul, w32_eq, w64_eq, lc_eq, lc_lt, lc_le, lc_gt, lc_ge, up_k, up_i, up_e, Int.toNat_natCast, tn7, tn8, tn12, tn3, tn120, tn1600, w32_and, w32_or, w32_xor, w32_shl, w32_shr, has2_eq] at hcr) <;> (try (exfalso; first | omega | exact hcr rfl | exact hcr trivial | contradiction))))
          (try simp only [bnd_some])
          repeat' (first | with_reducible refine two_lt_r ?_ | (with_reducible refine two_chk_r ?_ ?_; focus ((try simp (disch := omega) only [Bool.false_eq_true, not_true_eq_false, not_false_eq_true, Nat.reduceAdd, Nat.reduceMul, w32_eq, w64_eq, lc_eq, lc_lt, lc_le, lc_gt, lc_ge, up_k, up_i, up_e, Int.toNat_natCast, tn7, tn8, tn12, tn3, tn120, tn1600, w32_and, w32_or, w32_xor, w32_shl, w32_shr, has2_eq]) <;> omega)) | (with_reducible refine two_ite_r (fun hcr => ?_) (fun hcr => ?_) <;> (try simp (disch := omega) only [Bool.false_eq_true, not_true_eq_false, not_false_eq_true, Nat.reduceAdd, Nat.reduceMul, w32_eq, w64_eq, lc_eq, lc_lt, lc_le, lc_gt, lc_ge, up_k, up_i, up_e, Int.toNat_natCast, tn7, tn8, tn12, tn3, tn120, tn1600, w32_and, w32_or, w32_xor, w32_shl, w32_shr, has2_eq] at hcr) <;> (try (exfalso; first | omega | exact hcr rfl | exact hcr trivial | contradiction))))
          simp only [n1, ← q1]
          refine two_bnd (best_cell hR hx4 hm4 hsn h2 hB4 hS4 a1 (X4 (328 + (s + 1)) t) ⟨q2, by omega⟩) ?_
          rintro ⟨p, pi⟩ ⟨q, qi, M5⟩ ⟨y1, y2, y3, y4⟩
          simp only at y1 y2 y3 y4 ⊢
          subst y1
          repeat' (first | with_reducible refine two_lt_l ?_ | (with_reducible refine two_chk_l ?_ ?_; focus ((try simp (disch := omega) only [Bool.false_eq_true, not_true_eq_false, not_false_eq_true, Nat.reduceAdd, Nat.reduceMul, w32_eq, w64_eq, lc_eq, lc_lt, lc_le, lc_gt, lc_ge, up_k, up_i, up_e, Int.toNat_natCast, tn7, tn8, tn12, tn3, tn120, tn1600, w32_and, w32_or, w32_xor, w32_shl, w32_shr, has2_eq]) <;> omega)) | (with_reducible refine two_ite_l (fun hcl => ?_) (fun hcl => ?_) <;> (try simp (disch := omega) only [Bool.false_eq_true, not_true_eq_false, not_false_eq_true, Nat.reduceAdd, Nat.reduceMul, w32_eq, w64_eq, lc_eq, lc_lt, lc_le, lc_gt, lc_ge, up_k, up_i, up_e, Int.toNat_natCast, tn7, tn8, tn12, tn3, tn120, tn1600, w32_and, w32_or, w32_xor, w32_shl, w32_shr, has2_eq] at hcl) <;> (try (exfalso; first | omega | exact hcl rfl | exact hcl trivial | contradiction))))
          (try simp only [bnd_some])
          repeat' (first | with_reducible refine two_lt_r ?_ | (with_reducible refine two_chk_r ?_ ?_; focus ((try simp (disch := omega) only [Bool.false_eq_true, not_true_eq_false, not_false_eq_true, Nat.reduceAdd, Nat.reduceMul, w32_eq, w64_eq, lc_eq, lc_lt, lc_le, lc_gt, lc_ge, up_k, up_i, up_e, Int.toNat_natCast, tn7, tn8, tn12, tn3, tn120, tn1600, w32_and, w32_or, w32_xor, w32_shl, w32_shr, has2_eq]) <;> omega)) | (with_reducible refine two_ite_r (fun hcr => ?_) (fun hcr => ?_) <;> (try simp (disch := omega) only [Bool.false_eq_true, not_true_eq_false, not_false_eq_true, Nat.reduceAdd, Nat.reduceMul, w32_eq, w64_eq, lc_eq, lc_lt, lc_le, lc_gt, lc_ge, up_k, up_i, up_e, Int.toNat_natCast, tn7, tn8, tn12, tn3, tn120, tn1600, w32_and, w32_or, w32_xor, w32_shl, w32_shr, has2_eq] at hcr) <;> (try (exfalso; first | omega | exact hcr rfl | exact hcr trivial | contradiction))))
          simp only [Int.toNat_natCast, n2]
          have h40 : M5 40 = M4 40 := y4 40 (by omega) (by omega)
          refine ih2 (128 - (t + 1)) _ _ _ _ (by omega) ⟨t + 1, rfl, rfl, rfl, by omega, QX_trans hx4 (QX_best (by omega)), QM_trans hm4 (QM_trans (QM_s y4) QM_best), ?_, ?_, fun u hu => ?_⟩
          · intro s' t' r1 r2 r3
            rw [up_k (by omega), up_i (by omega), h40]
            exact hB4 s' t' r1 r2 r3
          · intro s' v' r1 r2
            rw [up_k (by omega)]
            exact hS4 s' v' r1 r2
          · by_cases e : u = t
            · subst e; rw [up_e, up_e]; exact ⟨rfl, y2, y3⟩
            · rw [up_i e, up_i (by omega), h40]; exact hrow u (by omega)
        · repeat' (first | with_reducible refine two_lt_l ?_ | (with_reducible refine two_chk_l ?_ ?_; focus ((try simp (disch := omega) only [Bool.false_eq_true, not_true_eq_false, not_false_eq_true, Nat.reduceAdd, Nat.reduceMul, w32_eq, w64_eq, lc_eq, lc_lt, lc_le, lc_gt, lc_ge, up_k, up_i, up_e, Int.toNat_natCast, tn7, tn8, tn12, tn3, tn120, tn1600, w32_and, w32_or, w32_xor, w32_shl, w32_shr, has2_eq]) <;> omega)) | (with_reducible refine two_ite_l (fun hcl => ?_) (fun hcl => ?_) <;> (try simp (disch := omega) only [Bool.false_eq_true, not_true_eq_false, not_false_eq_true, Nat.reduceAdd, Nat.reduceMul, w32_eq, w64_eq, lc_eq, lc_lt, lc_le, lc_gt, lc_ge, up_k, up_i, up_e, Int.toNat_natCast, tn7, tn8, tn12, tn3, tn120, tn1600, w32_and, w32_or, w32_xor, w32_shl, w32_shr, has2_eq] at hcl) <;> (try (exfalso; first | omega | exact hcl rfl | exact hcl trivial | contradiction))))
          repeat' (first | with_reducible refine two_lt_r ?_ | (with_reducible refine two_chk_r ?_ ?_; focus ((try simp (disch := omega) only [Bool.false_eq_true, not_true_eq_false, not_false_eq_true, Nat.reduceAdd, Nat.reduceMul, w32_eq, w64_eq, lc_eq, lc_lt, lc_le, lc_gt, lc_ge, up_k, up_i, up_e, Int.toNat_natCast, tn7, tn8, tn12, tn3, tn120, tn1600, w32_and, w32_or, w32_xor, w32_shl, w32_shr, has2_eq]) <;> omega)) | (with_reducible refine two_ite_r (fun hcr => ?_) (fun hcr => ?_) <;> (try simp (disch := omega) only [Bool.false_eq_true, not_true_eq_false, not_false_eq_true, Nat.reduceAdd, Nat.reduceMul, w32_eq, w64_eq, lc_eq, lc_lt, lc_le, lc_gt, lc_ge, up_k, up_i, up_e, Int.toNat_natCast, tn7, tn8, tn12, tn3, tn120, tn1600, w32_and, w32_or, w32_xor, w32_shl, w32_shr, has2_eq] at hcr) <;> (try (exfalso; first | omega | exact hcr rfl | exact hcr trivial | contradiction))))
          refine two_some ⟨hx4, hm4, fun s' t' r1 r2 r3 => ?_, hS4⟩
          by_cases e : s' = s
          · subst e; exact hrow t' (by omega)
          · exact hB4 s' t' (by omega) r2 r3
      · rintro ⟨u1, X5⟩ ⟨u2, M5⟩ ⟨y1, y2, y3, y4⟩
        simp only at y1 y2 y3 y4 ⊢
        repeat' (first | with_reducible refine two_lt_l ?_ | (with_reducible refine two_chk_l ?_ ?_; focus ((try simp (disch := omega) only [Bool.false_eq_true, not_true_eq_false, not_false_eq_true, Nat.reduceAdd, Nat.reduceMul, w32_eq, w64_eq, lc_eq, lc_lt, lc_le, lc_gt, lc_ge, up_k, up_i, up_e, Int.toNat_natCast, tn7, tn8, tn12, tn3, tn120, tn1600, w32_and, w32_or, w32_xor, w32_shl, w32_shr, has2_eq]) <;> omega)) | (with_reducible refine two_ite_l (fun hcl => ?_) (fun hcl => ?_) <;> (try simp (disch := omega) only [Bool.false_eq_true, not_true_eq_false, not_false_eq_true, Nat.reduceAdd, Nat.reduceMul, w32_eq, w64_eq, lc_eq, lc_lt, lc_le, lc_gt, lc_ge, up_k, up_i, up_e, Int.toNat_natCast, tn7, tn8, tn12, tn3, tn120, tn1600, w32_and, w32_or, w32_xor, w32_shl, w32_shr, has2_eq] at hcl) <;> (try (exfalso; first | omega | exact hcl rfl | exact hcl trivial | contradiction))))
        repeat' (first | with_reducible refine two_lt_r ?_ | (with_reducible refine two_chk_r ?_ ?_; focus ((try simp (disch := omega) only [Bool.false_eq_true, not_true_eq_false, not_false_eq_true, Nat.reduceAdd, Nat.reduceMul, w32_eq, w64_eq, lc_eq, lc_lt, lc_le, lc_gt, lc_ge, up_k, up_i, up_e, Int.toNat_natCast, tn7, tn8, tn12, tn3, tn120, tn1600, w32_and, w32_or, w32_xor, w32_shl, w32_shr, has2_eq]) <;> omega)) | (with_reducible refine two_ite_r (fun hcr => ?_) (fun hcr => ?_) <;> (try simp (disch := omega) only [Bool.false_eq_true, not_true_eq_false, not_false_eq_true, Nat.reduceAdd, Nat.reduceMul, w32_eq, w64_eq, lc_eq, lc_lt, lc_le, lc_gt, lc_ge, up_k, up_i, up_e, Int.toNat_natCast, tn7, tn8, tn12, tn3, tn120, tn1600, w32_and, w32_or, w32_xor, w32_shl, w32_shr, has2_eq] at hcr) <;> (try (exfalso; first | omega | exact hcr rfl | exact hcr trivial | contradiction))))
        exact ih s _ _ _ _ (by omega) ⟨s, by omega, by omega, rfl, by omega, y1, y2, y3, y4⟩
    · have : n = 0 := by omega
      subst this
      repeat' (first | with_reducible refine two_lt_l ?_ | (with_reducible refine two_chk_l ?_ ?_; focus ((try simp (disch := omega) only [Bool.false_eq_true, not_true_eq_false, not_false_eq_true, Nat.reduceAdd, Nat.reduceMul, w32_eq, w64_eq, lc_eq, lc_lt, lc_le, lc_gt, lc_ge, up_k, up_i, up_e, Int.toNat_natCast, tn7, tn8, tn12, tn3, tn120, tn1600, w32_and, w32_or, w32_xor, w32_shl, w32_shr, has2_eq]) <;> omega)) | (with_reducible refine two_ite_l (fun hcl => ?_) (fun hcl => ?_) <;> (try simp (disch := omega) only [Bool.false_eq_true, not_true_eq_false, not_false_eq_true, Nat.reduceAdd, Nat.reduceMul, w32_eq, w64_eq, lc_eq, lc_lt, lc_le, lc_gt, lc_ge, up_k, up_i, up_e, Int.toNat_natCast, tn7, tn8, tn12, tn3, tn120, tn1600, w32_and, w32_or, w32_xor, w32_shl, w32_shr, has2_eq] at hcl) <;> (try (exfalso; first | omega | exact hcl rfl | exact hcl trivial | contradiction))))
      repeat' (first | with_reducible refine two_lt_r ?_ | (with_reducible refine two_chk_r ?_ ?_; focus ((try simp (disch := omega) only [Bool.false_eq_true, not_true_eq_false, not_false_eq_true, Nat.reduceAdd, Nat.reduceMul, w32_eq, w64_eq, lc_eq, lc_lt, lc_le, lc_gt, lc_ge, up_k, up_i, up_e, Int.toNat_natCast, tn7, tn8, tn12, tn3, tn120, tn1600, w32_and, w32_or, w32_xor, w32_shl, w32_shr, has2_eq]) <;> omega)) | (with_reducible refine two_ite_r (fun hcr => ?_) (fun hcr => ?_) <;> (try simp (disch := omega) only [Bool.false_eq_true, not_true_eq_false, not_false_eq_true, Nat.reduceAdd, Nat.reduceMul, w32_eq, w64_eq, lc_eq, lc_lt, lc_le, lc_gt, lc_ge, up_k, up_i, up_e, Int.toNat_natCast, tn7, tn8, tn12, tn3, tn120, tn1600, w32_and, w32_or, w32_xor, w32_shl, w32_shr, has2_eq] at hcr) <;> (try (exfalso; first | omega | exact hcr rfl | exact hcr trivial | contradiction))))
      exact two_some ⟨hx3, hm3, hB3, hS3⟩
  obtain ⟨⟨u1, X5⟩, ⟨u2, M5⟩, z1, z2, y1, y2, y3, y4⟩ := hmain
  simp only at y1 y2 y3 y4
  rw [z1, z2]
  simp only [bnd_some]
  exact hD X5 M5 y1 y2 y3 y4
