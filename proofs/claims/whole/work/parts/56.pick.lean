/-! THE PURE PART: who is free, the facts, the sum of picks, mixed, hushed -/
def Free (ns th : Nat) (X : Mem) (k : Nat) : Prop := X (th + 2) k = 0 ∧ ∀ s, s < ns → ¬ (X (th + 4) s = 2 ∧ X (th + 7) s = (k : Int))
theorem sim_free {nv np ns bk th v k : Nat} {X M : Mem} (hT : RT nv np ns bk X M) (hS : RS nv ns th v X M) (hI : SI nv ns th X) (hv : v < 22) (hk : k < nv) :
    two (x_State_isFree th (k : Int) X) (m_isFree (v : Int) (k : Int) M) (fun a b => a = b ∧ (a = true ↔ Free ns th X k)) := by
  have h7 : nv ≤ 7 := hT.1.2.2.1
  obtain ⟨r, q, hr1, hr2, rfl, hby⟩ := sim_by (k := k) hT hS hI hv (by omega)
  obtain ⟨rp, rs, rb, rw, rd, rt, rv, rl, rx, rk, rm, rk1, rk2, rk3, rz1, rz2⟩ := hS
  obtain ⟨ip, is, ib, iw, id, it, iv, il, ix, isnd, inm, iin, im, ik⟩ := hI
  have h1 := is k hk
  have hr : -1 ≤ r ∧ r ≤ 12 := by
    have := hT.1.2.2.2.2
    rcases hby with ⟨h1, -⟩ | ⟨s, h1, h2, -⟩ <;> omega
  have e1 := rs k hk
  unfold x_State_isFree m_isFree
  repeat' (first | with_reducible refine two_lt_l ?_ | (with_reducible refine two_chk_l ?_ ?_; focus ((try simp (disch := omega) only [Bool.false_eq_true, not_true_eq_false, not_false_eq_true, Nat.reduceAdd, Nat.reduceMul, w32_eq, w64_eq, lc_eq, lc_lt, lc_le, lc_gt, lc_ge, up_k, up_i, up_e, Int.toNat_natCast, tn7, tn8, tn12, tn3, tn120, tn1600, w32_and, w32_or, w32_xor, w32_shl, w32_shr, has2_eq]) <;> omega)) | (with_reducible refine two_ite_l (fun hcl => ?_) (fun hcl => ?_) <;> (try simp (disch := omega) only [Bool.false_eq_true, not_true_eq_false, not_false_eq_true, Nat.reduceAdd, Nat.reduceMul, w32_eq, w64_eq, lc_eq, lc_lt, lc_le, lc_gt, lc_ge, up_k, up_i, up_e, Int.toNat_natCast, tn7, tn8, tn12, tn3, tn120, tn1600, w32_and, w32_or, w32_xor, w32_shl, w32_shr, has2_eq] at hcl) <;> (try (exfalso; first | omega | exact hcl rfl | exact hcl trivial | contradiction))))
  · repeat' (first | with_reducible refine two_lt_r ?_ | (with_reducible refine two_chk_r ?_ ?_; focus ((try simp (disch := omega) only [Bool.false_eq_true, not_true_eq_false, not_false_eq_true, Nat.reduceAdd, Nat.reduceMul, w32_eq, w64_eq, lc_eq, lc_lt, lc_le, lc_gt, lc_ge, up_k, up_i, up_e, Int.toNat_natCast, tn7, tn8, tn12, tn3, tn120, tn1600, w32_and, w32_or, w32_xor, w32_shl, w32_shr, has2_eq]) <;> omega)) | (with_reducible refine two_ite_r (fun hcr => ?_) (fun hcr => ?_) <;> (try simp (disch := omega) only [Bool.false_eq_true, not_true_eq_false, not_false_eq_true, Nat.reduceAdd, Nat.reduceMul, w32_eq, w64_eq, lc_eq, lc_lt, lc_le, lc_gt, lc_ge, up_k, up_i, up_e, Int.toNat_natCast, tn7, tn8, tn12, tn3, tn120, tn1600, w32_and, w32_or, w32_xor, w32_shl, w32_shr, has2_eq] at hcr) <;> (try (exfalso; first | omega | exact hcr rfl | exact hcr trivial | contradiction))))
    refine two_bnd_r has2_eq ?_
    rw [Int.toNat_natCast, e1, decide_eq_true (by omega)]
    repeat' (first | with_reducible refine two_lt_r ?_ | (with_reducible refine two_chk_r ?_ ?_; focus ((try simp (disch := omega) only [Bool.false_eq_true, not_true_eq_false, not_false_eq_true, Nat.reduceAdd, Nat.reduceMul, w32_eq, w64_eq, lc_eq, lc_lt, lc_le, lc_gt, lc_ge, up_k, up_i, up_e, Int.toNat_natCast, tn7, tn8, tn12, tn3, tn120, tn1600, w32_and, w32_or, w32_xor, w32_shl, w32_shr, has2_eq]) <;> omega)) | (with_reducible refine two_ite_r (fun hcr => ?_) (fun hcr => ?_) <;> (try simp (disch := omega) only [Bool.false_eq_true, not_true_eq_false, not_false_eq_true, Nat.reduceAdd, Nat.reduceMul, w32_eq, w64_eq, lc_eq, lc_lt, lc_le, lc_gt, lc_ge, up_k, up_i, up_e, Int.toNat_natCast, tn7, tn8, tn12, tn3, tn120, tn1600, w32_and, w32_or, w32_xor, w32_shl, w32_shr, has2_eq] at hcr) <;> (try (exfalso; first | omega | exact hcr rfl | exact hcr trivial | contradiction))))
    exact two_some ⟨rfl, by constructor; (intro h; cases h); (intro h; exact absurd h.1 hcl)⟩
  · refine two_bnd_l hr1 ?_
    repeat' (first | with_reducible refine two_lt_r ?_ | (with_reducible refine two_chk_r ?_ ?_; focus ((try simp (disch := omega) only [Bool.false_eq_true, not_true_eq_false, not_false_eq_true, Nat.reduceAdd, Nat.reduceMul, w32_eq, w64_eq, lc_eq, lc_lt, lc_le, lc_gt, lc_ge, up_k, up_i, up_e, Int.toNat_natCast, tn7, tn8, tn12, tn3, tn120, tn1600, w32_and, w32_or, w32_xor, w32_shl, w32_shr, has2_eq]) <;> omega)) | (with_reducible refine two_ite_r (fun hcr => ?_) (fun hcr => ?_) <;> (try simp (disch := omega) only [Bool.false_eq_true, not_true_eq_false, not_false_eq_true, Nat.reduceAdd, Nat.reduceMul, w32_eq, w64_eq, lc_eq, lc_lt, lc_le, lc_gt, lc_ge, up_k, up_i, up_e, Int.toNat_natCast, tn7, tn8, tn12, tn3, tn120, tn1600, w32_and, w32_or, w32_xor, w32_shl, w32_shr, has2_eq] at hcr) <;> (try (exfalso; first | omega | exact hcr rfl | exact hcr trivial | contradiction))))
    refine two_bnd_r has2_eq ?_
    rw [Int.toNat_natCast, e1, decide_eq_false (by omega)]
    repeat' (first | with_reducible refine two_lt_r ?_ | (with_reducible refine two_chk_r ?_ ?_; focus ((try simp (disch := omega) only [Bool.false_eq_true, not_true_eq_false, not_false_eq_true, Nat.reduceAdd, Nat.reduceMul, w32_eq, w64_eq, lc_eq, lc_lt, lc_le, lc_gt, lc_ge, up_k, up_i, up_e, Int.toNat_natCast, tn7, tn8, tn12, tn3, tn120, tn1600, w32_and, w32_or, w32_xor, w32_shl, w32_shr, has2_eq]) <;> omega)) | (with_reducible refine two_ite_r (fun hcr => ?_) (fun hcr => ?_) <;> (try simp (disch := omega) only [Bool.false_eq_true, not_true_eq_false, not_false_eq_true, Nat.reduceAdd, Nat.reduceMul, w32_eq, w64_eq, lc_eq, lc_lt, lc_le, lc_gt, lc_ge, up_k, up_i, up_e, Int.toNat_natCast, tn7, tn8, tn12, tn3, tn120, tn1600, w32_and, w32_or, w32_xor, w32_shl, w32_shr, has2_eq] at hcr) <;> (try (exfalso; first | omega | exact hcr rfl | exact hcr trivial | contradiction))))
    refine two_bnd_r hr2 ?_
    rcases hby with ⟨g1, g2⟩ | ⟨s, g1, g2, g3, g4⟩
    · repeat' (first | with_reducible refine two_lt_l ?_ | (with_reducible refine two_chk_l ?_ ?_; focus ((try simp (disch := omega) only [Bool.false_eq_true, not_true_eq_false, not_false_eq_true, Nat.reduceAdd, Nat.reduceMul, w32_eq, w64_eq, lc_eq, lc_lt, lc_le, lc_gt, lc_ge, up_k, up_i, up_e, Int.toNat_natCast, tn7, tn8, tn12, tn3, tn120, tn1600, w32_and, w32_or, w32_xor, w32_shl, w32_shr, has2_eq]) <;> omega)) | (with_reducible refine two_ite_l (fun hcl => ?_) (fun hcl => ?_) <;> (try simp (disch := omega) only [Bool.false_eq_true, not_true_eq_false, not_false_eq_true, Nat.reduceAdd, Nat.reduceMul, w32_eq, w64_eq, lc_eq, lc_lt, lc_le, lc_gt, lc_ge, up_k, up_i, up_e, Int.toNat_natCast, tn7, tn8, tn12, tn3, tn120, tn1600, w32_and, w32_or, w32_xor, w32_shl, w32_shr, has2_eq] at hcl) <;> (try (exfalso; first | omega | exact hcl rfl | exact hcl trivial | contradiction))))
      repeat' (first | with_reducible refine two_lt_r ?_ | (with_reducible refine two_chk_r ?_ ?_; focus ((try simp (disch := omega) only [Bool.false_eq_true, not_true_eq_false, not_false_eq_true, Nat.reduceAdd, Nat.reduceMul, w32_eq, w64_eq, lc_eq, lc_lt, lc_le, lc_gt, lc_ge, up_k, up_i, up_e, Int.toNat_natCast, tn7, tn8, tn12, tn3, tn120, tn1600, w32_and, w32_or, w32_xor, w32_shl, w32_shr, has2_eq]) <;> omega)) | (with_reducible refine two_ite_r (fun hcr => ?_) (fun hcr => ?_) <;> (try simp (disch := omega) only [Bool.false_eq_true, not_true_eq_false, not_false_eq_true, Nat.reduceAdd, Nat.reduceMul, w32_eq, w64_eq, lc_eq, lc_lt, lc_le, lc_gt, lc_ge, up_k, up_i, up_e, Int.toNat_natCast, tn7, tn8, tn12, tn3, tn120, tn1600, w32_and, w32_or, w32_xor, w32_shl, w32_shr, has2_eq] at hcr) <;> (try (exfalso; first | omega | exact hcr rfl | exact hcr trivial | contradiction))))
      exact two_some ⟨rfl, by constructor; (intro h; exact ⟨by omega, g2⟩); (intro h; rfl)⟩
    · repeat' (first | with_reducible refine two_lt_l ?_ | (with_reducible refine two_chk_l ?_ ?_; focus ((try simp (disch := omega) only [Bool.false_eq_true, not_true_eq_false, not_false_eq_true, Nat.reduceAdd, Nat.reduceMul, w32_eq, w64_eq, lc_eq, lc_lt, lc_le, lc_gt, lc_ge, up_k, up_i, up_e, Int.toNat_natCast, tn7, tn8, tn12, tn3, tn120, tn1600, w32_and, w32_or, w32_xor, w32_shl, w32_shr, has2_eq]) <;> omega)) | (with_reducible refine two_ite_l (fun hcl => ?_) (fun hcl => ?_) <;> (try simp (disch := omega) only [Bool.false_eq_true, not_true_eq_false, not_false_eq_true, Nat.reduceAdd, Nat.reduceMul, w32_eq, w64_eq, lc_eq, lc_lt, lc_le, lc_gt, lc_ge, up_k, up_i, up_e, Int.toNat_natCast, tn7, tn8, tn12, tn3, tn120, tn1600, w32_and, w32_or, w32_xor, w32_shl, w32_shr, has2_eq] at hcl) <;> (try (exfalso; first | omega | exact hcl rfl | exact hcl trivial | contradiction))))
      repeat' (first | with_reducible refine two_lt_r ?_ | (with_reducible refine two_chk_r ?_ ?_; focus ((try simp (disch := omega) only [Bool.false_eq_true, not_true_eq_false, not_false_eq_true, Nat.reduceAdd, Nat.reduceMul, w32_eq, w64_eq, lc_eq, lc_lt, lc_le, lc_gt, lc_ge, up_k, up_i, up_e, Int.toNat_natCast, tn7, tn8, tn12, tn3, tn120, tn1600, w32_and, w32_or, w32_xor, w32_shl, w32_shr, has2_eq]) <;> omega)) | (with_reducible refine two_ite_r (fun hcr => ?_) (fun hcr => ?_) <;> (try simp (disch := omega) only [Bool.false_eq_true, not_true_eq_false, not_false_eq_true, Nat.reduceAdd, Nat.reduceMul, w32_eq, w64_eq, lc_eq, lc_lt, lc_le, lc_gt, lc_ge, up_k, up_i, up_e, Int.toNat_natCast, tn7, tn8, tn12, tn3, tn120, tn1600, w32_and, w32_or, w32_xor, w32_shl, w32_shr, has2_eq] at hcr) <;> (try (exfalso; first | omega | exact hcr rfl | exact hcr trivial | contradiction))))
      exact two_some ⟨rfl, by constructor; (intro h; cases h); (intro h; exact absurd ⟨g3, g4⟩ (h.2 s g1))⟩
theorem x_tone {np ns s : Nat} {X : Mem} (hnp : np ≤ 8) (hns : ns ≤ 12) (hs : s < ns) (h : 0 ≤ X 29 s ∧ X 29 s < (np : Int)) : x_Town_toneOf 23 (s : Int) X = some (X 27 (X 29 s).toNat) := by
  unfold x_Town_toneOf chk lt
  simp (disch := omega) only [Nat.reduceAdd, Int.toNat_natCast, w32_eq, if_pos, if_neg]
theorem x_calm {np ns s : Nat} {X : Mem} (hnp : np ≤ 8) (hns : ns ≤ 12) (hs : s < ns) (h : 0 ≤ X 29 s ∧ X 29 s < (np : Int)) : x_Town_calmOf 23 (s : Int) X = some (X 28 (X 29 s).toNat) := by
  unfold x_Town_calmOf chk lt
  simp (disch := omega) only [Nat.reduceAdd, Int.toNat_natCast, w32_eq, if_pos, if_neg]
/-- what both know of a saying -/
def Known (th s : Nat) (X X1 M1 : Mem) : Prop := X1 33 11 = X 27 (X 29 s).toNat ∧ X1 33 12 = X (th + 6) s ∧ X1 33 13 = X th 13 ∧ X1 33 10 = X 31 s ∧ M1 38 1 = X 27 (X 29 s).toNat ∧ M1 38 2 = X (th + 6) s ∧ M1 38 3 = X th 13 ∧ M1 38 4 = X 31 s ∧ M1 38 8 = X 28 (X 29 s).toNat
theorem m_lays_eq {nv np ns bk th v s : Nat} {X M : Mem} (hT : RT nv np ns bk X M) (hS : RS nv ns th v X M) (hv : v < 22) (hs : s < ns) :
    post (m_lays (v : Int) (s : Int) M) (fun M1 => (∀ a, a ≠ 38 → M1 a = M a) ∧ (∀ j, 4 < j → j ≠ 8 → M1 38 j = M 38 j) ∧ M1 38 1 = X 27 (X 29 s).toNat ∧ M1 38 2 = X (th + 6) s ∧ M1 38 3 = X th 13 ∧ M1 38 4 = X 31 s ∧ M1 38 8 = X 28 (X 29 s).toNat) := by
  obtain ⟨⟨tb, tb2, tnv, tnp, tns⟩, ⟨x0, x1, x2⟩, ⟨m0, m1, m2⟩, ⟨t3, t3a, t3b⟩, tpit, tper, tsay, trul⟩ := hT
  obtain ⟨rp, rs, rb, rw, rd, rt, rv, rl, rx, rk, rm, rk1, rk2, rk3, rz1, rz2⟩ := hS
  obtain ⟨y1, y2, y3, y4, y5, y6, y7, y8, y9⟩ := tsay s hs
  obtain ⟨p, hp⟩ : ∃ p : Nat, X 29 s = (p : Int) := ⟨(X 29 s).toNat, by omega⟩
  have hpn : p < np := by omega
  obtain ⟨z1, z2, z3, z4, z5, z6, z7⟩ := tper p hpn
  rw [hp, Int.toNat_natCast]
  rw [hp] at y1
  unfold m_lays
  repeat' (first | with_reducible refine post_lt ?_ | (with_reducible refine post_chk ?_ ?_; focus ((try simp (disch := omega) only [Bool.false_eq_true, not_true_eq_false, not_false_eq_true, Nat.reduceAdd, Nat.reduceMul, w32_eq, w64_eq, lc_eq, lc_lt, lc_le, lc_gt, lc_ge, up_k, up_i, up_e, Int.toNat_natCast, tn7, tn8, tn12, tn3, tn120, tn1600, w32_and, w32_or, w32_xor, w32_shl, w32_shr, has2_eq, tb, y1, y7, z2, z5, rt, rm]) <;> omega)) | (with_reducible refine post_ite (fun hcp => ?_) (fun hcp => ?_) <;> (try simp (disch := omega) only [Bool.false_eq_true, not_true_eq_false, not_false_eq_true, Nat.reduceAdd, Nat.reduceMul, w32_eq, w64_eq, lc_eq, lc_lt, lc_le, lc_gt, lc_ge, up_k, up_i, up_e, Int.toNat_natCast, tn7, tn8, tn12, tn3, tn120, tn1600, w32_and, w32_or, w32_xor, w32_shl, w32_shr, has2_eq, tb, y1, y7, z2, z5, rt, rm] at hcp) <;> (try (exfalso; first | omega | exact hcp rfl | exact hcp trivial | contradiction))))
  refine post_some ⟨fun a ha => by simp (disch := omega) only [upM_row], fun j h1 h2 => by simp (disch := omega) only [up_i], ?_, ?_, ?_, ?_, ?_⟩ <;> simp (disch := omega) only [Bool.false_eq_true, not_true_eq_false, not_false_eq_true, Nat.reduceAdd, Nat.reduceMul, w32_eq, w64_eq, lc_eq, lc_lt, lc_le, lc_gt, lc_ge, up_k, up_i, up_e, Int.toNat_natCast, tn7, tn8, tn12, tn3, tn120, tn1600, w32_and, w32_or, w32_xor, w32_shl, w32_shr, has2_eq, tb, y1, y7, z2, z5, rt, rm]
theorem sim_know {nv np ns bk th v s : Nat} {X M : Mem} (hT : RT nv np ns bk X M) (hS : RS nv ns th v X M) (hth : 38 ≤ th) (hv : v < 22) (hs : s < ns) :
    two (x_State_know th (s : Int) X) (m_lays (v : Int) (s : Int) M) (fun X1 M1 => Known th s X X1 M1 ∧ (∀ a, a ≠ 33 → X1 a = X a) ∧ (∀ a, a ≠ 38 → M1 a = M a)) := by
  obtain ⟨M1, e1, g1, g2, g3, g4, g5, g6, g7⟩ := m_lays_eq hT hS hv hs
  obtain ⟨⟨tb, tb2, tnv, tnp, tns⟩, ⟨x0, x1, x2⟩, ⟨m0, m1, m2⟩, ⟨t3, t3a, t3b⟩, tpit, tper, tsay, trul⟩ := hT
  obtain ⟨y1, y2, y3, y4, y5, y6, y7, y8, y9⟩ := tsay s hs
  unfold x_State_know
  refine two_bnd_l (x_tone tnp tns hs ⟨y2, y3⟩) ?_
  repeat' (first | with_reducible refine two_lt_l ?_ | (with_reducible refine two_chk_l ?_ ?_; focus ((try simp (disch := omega) only [Bool.false_eq_true, not_true_eq_false, not_false_eq_true, Nat.reduceAdd, Nat.reduceMul, w32_eq, w64_eq, lc_eq, lc_lt, lc_le, lc_gt, lc_ge, up_k, up_i, up_e, Int.toNat_natCast, tn7, tn8, tn12, tn3, tn120, tn1600, w32_and, w32_or, w32_xor, w32_shl, w32_shr, has2_eq]) <;> omega)) | (with_reducible refine two_ite_l (fun hcl => ?_) (fun hcl => ?_) <;> (try simp (disch := omega) only [Bool.false_eq_true, not_true_eq_false, not_false_eq_true, Nat.reduceAdd, Nat.reduceMul, w32_eq, w64_eq, lc_eq, lc_lt, lc_le, lc_gt, lc_ge, up_k, up_i, up_e, Int.toNat_natCast, tn7, tn8, tn12, tn3, tn120, tn1600, w32_and, w32_or, w32_xor, w32_shl, w32_shr, has2_eq] at hcl) <;> (try (exfalso; first | omega | exact hcl rfl | exact hcl trivial | contradiction))))
  rw [e1]
  refine two_some ⟨⟨?_, ?_, ?_, ?_, g3, g4, g5, g6, g7⟩, fun a ha => by simp (disch := omega) only [upM_row], g1⟩ <;> simp (disch := omega) only [Bool.false_eq_true, not_true_eq_false, not_false_eq_true, Nat.reduceAdd, Nat.reduceMul, w32_eq, w64_eq, lc_eq, lc_lt, lc_le, lc_gt, lc_ge, up_k, up_i, up_e, Int.toNat_natCast, tn7, tn8, tn12, tn3, tn120, tn1600, w32_and, w32_or, w32_xor, w32_shl, w32_shr, has2_eq]
theorem fact_mk {w : Nat} {X M : Mem} (h1 : X 33 11 = M 38 1) (h2 : X 33 12 = M 38 2) (h3 : X 33 13 = M 38 3) (h4 : X 33 10 = M 38 4) (h5 : w = 0 ∨ w = 1 → X 33 7 = M 38 5) (h6 : w = 0 → X 33 14 = M 38 6) (h7 : w = 1 → X 33 15 = M 38 7) (h8 : w = 2 → X 33 8 = M 38 8)
    (b1 : -1000000 ≤ M 38 1 ∧ M 38 1 ≤ 1000000) (b2 : -1000000 ≤ M 38 2 ∧ M 38 2 ≤ 1000000) (b3 : -1000000 ≤ M 38 3 ∧ M 38 3 ≤ 1000000) (b4 : -1000000 ≤ M 38 4 ∧ M 38 4 ≤ 1000000) (b5 : w = 0 ∨ w = 1 → -1000000 ≤ M 38 5 ∧ M 38 5 ≤ 1000000) (b6 : w = 0 → -1000000 ≤ M 38 6 ∧ M 38 6 ≤ 1000000) (b7 : w = 1 → -1000000 ≤ M 38 7 ∧ M 38 7 ≤ 1000000) (b8 : w = 2 → -1000000 ≤ M 38 8 ∧ M 38 8 ≤ 1000000) : FactEq w X M := by
  intro so x ha hc
  have hr := asks_rng ha
  unfold asks at ha
  simp only [Bool.or_eq_true, Bool.and_eq_true, decide_eq_true_eq] at ha
  unfold CodeEq at hc
  rcases hc with h | h | h | h | h | h | h | h | h | h | h | h | h | h | h | h | h | h | h | h | h | h | h | h <;> obtain ⟨rfl, h⟩ := h <;> first | (exfalso; omega) | skip
  · exact ⟨by rw [h]; exact h1, b1.1, b1.2⟩
  · exact ⟨by rw [h]; exact h2, b2.1, b2.2⟩
  · exact ⟨by rw [h]; exact h3, b3.1, b3.2⟩
  · exact ⟨by rw [h]; exact h4, b4.1, b4.2⟩
  · have hw : w = 0 ∨ w = 1 := by omega
    exact ⟨by rw [h]; exact h5 hw, (b5 hw).1, (b5 hw).2⟩
  · have hw : w = 0 := by omega
    exact ⟨by rw [h]; exact h6 hw, (b6 hw).1, (b6 hw).2⟩
  · have hw : w = 1 := by omega
    exact ⟨by rw [h]; exact h7 hw, (b7 hw).1, (b7 hw).2⟩
  · have hw : w = 2 := by omega
    exact ⟨by rw [h]; exact h8 hw, (b8 hw).1, (b8 hw).2⟩
/-- a rule is told in both or in none -/
theorem told_both {nv np ns bk w : Nat} {X M : Mem} (hT : RT nv np ns bk X M) (hw : w < 3) : ∃ b : Bool, x_Rules_isTold 32 (w : Int) X = some b ∧ m_isTold (w : Int) M = some b ∧ (b = true → X 35 w < X 36 w) := by
  obtain ⟨⟨tb, tb2, tnv, tnp, tns⟩, ⟨x0, x1, x2⟩, ⟨m0, m1, m2⟩, ⟨t3, t3a, t3b⟩, tpit, tper, tsay, trul⟩ := hT
  rcases trul w hw with ⟨z1, z2, z3, z4⟩ | ⟨f, N, hf, ht, hN, hfN, mf, mt, hcode, hrun⟩
  · refine ⟨false, ?_, ?_, fun h => by cases h⟩
    · rw [x_told hw (by omega) (by omega), decide_eq_false (by omega)]
    · rw [m_told hw tb tb2 (by omega), decide_eq_false (by omega)]
  · refine ⟨true, ?_, ?_, fun _ => by omega⟩
    · rw [x_told hw (by omega) (by omega), decide_eq_true (by omega)]
    · rw [m_told hw tb tb2 (by omega), decide_eq_true (by omega)]
theorem known_b {nv np ns bk th v s : Nat} {X M X1 M1 : Mem} (hT : RT nv np ns bk X M) (hI : SI nv ns th X) (hs : s < ns) (hK : Known th s X X1 M1) :
    (X1 33 11 = M1 38 1 ∧ X1 33 12 = M1 38 2 ∧ X1 33 13 = M1 38 3 ∧ X1 33 10 = M1 38 4) ∧ (0 ≤ M1 38 1 ∧ M1 38 1 ≤ 9) ∧ (0 ≤ M1 38 2 ∧ M1 38 2 ≤ 99) ∧ (0 ≤ M1 38 3 ∧ M1 38 3 ≤ 999) ∧ (1 ≤ M1 38 4 ∧ M1 38 4 ≤ 20) ∧ (0 ≤ M1 38 8 ∧ M1 38 8 ≤ 99) := by
  obtain ⟨⟨tb, tb2, tnv, tnp, tns⟩, ⟨x0, x1, x2⟩, ⟨m0, m1, m2⟩, ⟨t3, t3a, t3b⟩, tpit, tper, tsay, trul⟩ := hT
  obtain ⟨ip, is, ib, iw, id, it, iv, il, ix, isnd, inm, iin, im, ik⟩ := hI
  obtain ⟨y1, y2, y3, y4, y5, y6, y7, y8, y9⟩ := tsay s hs
  obtain ⟨z1, z2, z3, z4, z5, z6, z7⟩ := tper (X 29 s).toNat (by omega)
  obtain ⟨k1, k2, k3, k4, k5, k6, k7, k8, k9⟩ := hK
  have := it s hs
  refine ⟨⟨?_, ?_, ?_, ?_⟩, ?_, ?_, ?_, ?_, ?_⟩ <;> omega
theorem sim_pick {nv np ns bk th v s k : Nat} {X M : Mem} (hT : RT nv np ns bk X M) (hS : RS nv ns th v X M) (hI : SI nv ns th X) (hth : 38 ≤ th) (hv : v < 22) (hs : s < ns) (hk : k < nv) :
    two (x_State_sumOfPicks th (s : Int) (k : Int) X) (m_pickOf (v : Int) (s : Int) (k : Int) M) (fun r q => r.1 = q.1 ∧ -1000000 ≤ r.1 ∧ r.1 ≤ 1000000 ∧ FXs X r.2 ∧ FMs M q.2) := by
  obtain ⟨b, hb1, hb2, hb3⟩ := told_both hT (show 0 < 3 by omega)
  obtain ⟨X1, M1, e1, e2, hK, hX1, hM1⟩ := sim_know hT hS hth hv hs
  have hb := known_b (v := v) hT hI hs hK
  have hT1 : RT nv np ns bk X1 M1 := RT_s hT (fun a h1 h2 => hX1 a h1) (fun a h1 h2 => hM1 a h2)
  obtain ⟨b', hb1', hb2', hb3'⟩ := told_both hT1 (show 0 < 3 by omega)
  have hbb : b' = b := by
    have : x_Rules_isTold 32 ((0 : Nat) : Int) X1 = x_Rules_isTold 32 ((0 : Nat) : Int) X := by
      unfold x_Rules_isTold
      rw [hX1 (32 + 4) (by omega), hX1 (32 + 3) (by omega)]
    rw [this, hb1] at hb1'
    exact (Option.some.inj hb1').symm
  subst hbb
  have hT' := hT
  obtain ⟨⟨tb, tb2, tnv, tnp, tns⟩, ⟨x0, x1, x2⟩, ⟨m0, m1, m2⟩, ⟨t3, t3a, t3b⟩, tpit, tper, tsay, trul⟩ := hT
  obtain ⟨rp, rs, rb, rw, rd, rt, rv, rl, rx, rk, rm, rk1, rk2, rk3, rz1, rz2⟩ := hS
  obtain ⟨ip, is, ib, iw, id, it, iv, il, ix, isnd, inm, iin, im, ik⟩ := hI
  have q1 := ip k hk
  have q2 := ib k hk
  have r1 : M1 26 (7 * v + k) = X (th + 1) k := by rw [hM1 26 (by omega)]; exact rp k hk
  have r2 : M1 27 (7 * v + k) = X (th + 3) k := by rw [hM1 27 (by omega)]; exact rb k hk
  have a1 : X1 (th + 3) = X (th + 3) := hX1 _ (by omega)
  have a2 : X1 (th + 1) = X (th + 1) := hX1 _ (by omega)
  unfold x_State_sumOfPicks m_pickOf
  refine two_bnd_l hb1 ?_
  refine two_bnd_r e2 ?_
  repeat' (first | with_reducible refine two_lt_r ?_ | (with_reducible refine two_chk_r ?_ ?_; focus ((try simp (disch := omega) only [Bool.false_eq_true, not_true_eq_false, not_false_eq_true, Nat.reduceAdd, Nat.reduceMul, w32_eq, w64_eq, lc_eq, lc_lt, lc_le, lc_gt, lc_ge, up_k, up_i, up_e, Int.toNat_natCast, tn7, tn8, tn12, tn3, tn120, tn1600, w32_and, w32_or, w32_xor, w32_shl, w32_shr, has2_eq]) <;> omega)) | (with_reducible refine two_ite_r (fun hcr => ?_) (fun hcr => ?_) <;> (try simp (disch := omega) only [Bool.false_eq_true, not_true_eq_false, not_false_eq_true, Nat.reduceAdd, Nat.reduceMul, w32_eq, w64_eq, lc_eq, lc_lt, lc_le, lc_gt, lc_ge, up_k, up_i, up_e, Int.toNat_natCast, tn7, tn8, tn12, tn3, tn120, tn1600, w32_and, w32_or, w32_xor, w32_shl, w32_shr, has2_eq] at hcr) <;> (try (exfalso; first | omega | exact hcr rfl | exact hcr trivial | contradiction))))
  refine two_bnd_r hb2' ?_
  cases b'
  · repeat' (first | with_reducible refine two_lt_l ?_ | (with_reducible refine two_chk_l ?_ ?_; focus ((try simp (disch := omega) only [Bool.false_eq_true, not_true_eq_false, not_false_eq_true, Nat.reduceAdd, Nat.reduceMul, w32_eq, w64_eq, lc_eq, lc_lt, lc_le, lc_gt, lc_ge, up_k, up_i, up_e, Int.toNat_natCast, tn7, tn8, tn12, tn3, tn120, tn1600, w32_and, w32_or, w32_xor, w32_shl, w32_shr, has2_eq]) <;> omega)) | (with_reducible refine two_ite_l (fun hcl => ?_) (fun hcl => ?_) <;> (try simp (disch := omega) only [Bool.false_eq_true, not_true_eq_false, not_false_eq_true, Nat.reduceAdd, Nat.reduceMul, w32_eq, w64_eq, lc_eq, lc_lt, lc_le, lc_gt, lc_ge, up_k, up_i, up_e, Int.toNat_natCast, tn7, tn8, tn12, tn3, tn120, tn1600, w32_and, w32_or, w32_xor, w32_shl, w32_shr, has2_eq] at hcl) <;> (try (exfalso; first | omega | exact hcl rfl | exact hcl trivial | contradiction))))
    obtain ⟨y1, y2, y3, y4, y5, y6, y7, y8, y9⟩ := tsay s hs
    refine two_bnd_l (x_tone tnp tns hs ⟨y2, y3⟩) ?_
    have k5 := hK.2.2.2.2.1
    have hb2 := hb.2.1
    simp only [Int.toNat_natCast, tn7, r1, k5]
    have hab : j_Math_abs_0f7a4 (X (th + 1) k - X 27 (X 29 s).toNat) = some (if X 27 (X 29 s).toNat ≤ X (th + 1) k then X (th + 1) k - X 27 (X 29 s).toNat else X 27 (X 29 s).toNat - X (th + 1) k) := by
      unfold j_Math_abs_0f7a4
      rw [w32_eq (by omega) (by omega)]
      by_cases z : X 27 (X 29 s).toNat ≤ X (th + 1) k
      · rw [if_pos (by omega), if_pos z]
      · rw [if_neg (by omega), if_neg z]; congr 1; omega
    refine two_bnd_l hab ?_
    repeat' (first | with_reducible refine two_lt_r ?_ | (with_reducible refine two_chk_r ?_ ?_; focus ((try simp (disch := omega) only [Bool.false_eq_true, not_true_eq_false, not_false_eq_true, Nat.reduceAdd, Nat.reduceMul, w32_eq, w64_eq, lc_eq, lc_lt, lc_le, lc_gt, lc_ge, up_k, up_i, up_e, Int.toNat_natCast, tn7, tn8, tn12, tn3, tn120, tn1600, w32_and, w32_or, w32_xor, w32_shl, w32_shr, has2_eq]) <;> omega)) | (with_reducible refine two_ite_r (fun hcr => ?_) (fun hcr => ?_) <;> (try simp (disch := omega) only [Bool.false_eq_true, not_true_eq_false, not_false_eq_true, Nat.reduceAdd, Nat.reduceMul, w32_eq, w64_eq, lc_eq, lc_lt, lc_le, lc_gt, lc_ge, up_k, up_i, up_e, Int.toNat_natCast, tn7, tn8, tn12, tn3, tn120, tn1600, w32_and, w32_or, w32_xor, w32_shl, w32_shr, has2_eq] at hcr) <;> (try (exfalso; first | omega | exact hcr rfl | exact hcr trivial | contradiction))))
    · refine two_some ⟨?_, ?_, ?_, FXs_refl X, fun a h1 h2 => hM1 a h2⟩
      · rw [w32_eq (by omega) (by omega)]
        split <;> omega
      · split <;> omega
      · split <;> omega
    · refine two_some ⟨?_, ?_, ?_, FXs_refl X, fun a h1 h2 => hM1 a h2⟩
      · rw [w32_eq (by omega) (by omega)]
        split <;> omega
      · split <;> omega
      · split <;> omega
  · repeat' (first | with_reducible refine two_lt_l ?_ | (with_reducible refine two_chk_l ?_ ?_; focus ((try simp (disch := omega) only [Bool.false_eq_true, not_true_eq_false, not_false_eq_true, Nat.reduceAdd, Nat.reduceMul, w32_eq, w64_eq, lc_eq, lc_lt, lc_le, lc_gt, lc_ge, up_k, up_i, up_e, Int.toNat_natCast, tn7, tn8, tn12, tn3, tn120, tn1600, w32_and, w32_or, w32_xor, w32_shl, w32_shr, has2_eq]) <;> omega)) | (with_reducible refine two_ite_l (fun hcl => ?_) (fun hcl => ?_) <;> (try simp (disch := omega) only [Bool.false_eq_true, not_true_eq_false, not_false_eq_true, Nat.reduceAdd, Nat.reduceMul, w32_eq, w64_eq, lc_eq, lc_lt, lc_le, lc_gt, lc_ge, up_k, up_i, up_e, Int.toNat_natCast, tn7, tn8, tn12, tn3, tn120, tn1600, w32_and, w32_or, w32_xor, w32_shl, w32_shr, has2_eq] at hcl) <;> (try (exfalso; first | omega | exact hcl rfl | exact hcl trivial | contradiction))))
    refine two_bnd_l e1 ?_
    repeat' (first | with_reducible refine two_lt_l ?_ | (with_reducible refine two_chk_l ?_ ?_; focus ((try simp (disch := omega) only [Bool.false_eq_true, not_true_eq_false, not_false_eq_true, Nat.reduceAdd, Nat.reduceMul, w32_eq, w64_eq, lc_eq, lc_lt, lc_le, lc_gt, lc_ge, up_k, up_i, up_e, Int.toNat_natCast, tn7, tn8, tn12, tn3, tn120, tn1600, w32_and, w32_or, w32_xor, w32_shl, w32_shr, has2_eq, a1, a2]) <;> omega)) | (with_reducible refine two_ite_l (fun hcl => ?_) (fun hcl => ?_) <;> (try simp (disch := omega) only [Bool.false_eq_true, not_true_eq_false, not_false_eq_true, Nat.reduceAdd, Nat.reduceMul, w32_eq, w64_eq, lc_eq, lc_lt, lc_le, lc_gt, lc_ge, up_k, up_i, up_e, Int.toNat_natCast, tn7, tn8, tn12, tn3, tn120, tn1600, w32_and, w32_or, w32_xor, w32_shl, w32_shr, has2_eq, a1, a2] at hcl) <;> (try (exfalso; first | omega | exact hcl rfl | exact hcl trivial | contradiction))))
    repeat' (first | with_reducible refine two_lt_r ?_ | (with_reducible refine two_chk_r ?_ ?_; focus ((try simp (disch := omega) only [Bool.false_eq_true, not_true_eq_false, not_false_eq_true, Nat.reduceAdd, Nat.reduceMul, w32_eq, w64_eq, lc_eq, lc_lt, lc_le, lc_gt, lc_ge, up_k, up_i, up_e, Int.toNat_natCast, tn7, tn8, tn12, tn3, tn120, tn1600, w32_and, w32_or, w32_xor, w32_shl, w32_shr, has2_eq]) <;> omega)) | (with_reducible refine two_ite_r (fun hcr => ?_) (fun hcr => ?_) <;> (try simp (disch := omega) only [Bool.false_eq_true, not_true_eq_false, not_false_eq_true, Nat.reduceAdd, Nat.reduceMul, w32_eq, w64_eq, lc_eq, lc_lt, lc_le, lc_gt, lc_ge, up_k, up_i, up_e, Int.toNat_natCast, tn7, tn8, tn12, tn3, tn120, tn1600, w32_and, w32_or, w32_xor, w32_shl, w32_shr, has2_eq] at hcr) <;> (try (exfalso; first | omega | exact hcr rfl | exact hcr trivial | contradiction))))
    simp (disch := omega) only [Int.toNat_natCast, tn7, upM_row, a1, a2, r1, r2]
    refine two_bnd22 (sim_value (w := 0) (RT_s hT1 ?_ ?_) (by omega) ?_ ?_) ?_
    · exact fun a h1 h2 => by simp (disch := omega) only [upM_row]
    · exact fun a h1 h2 => by simp (disch := omega) only [upM_row]
    · simp (disch := omega) only [upM_row]; rw [hX1 35 (by omega), hX1 36 (by omega)]; exact hb3 rfl
    · obtain ⟨⟨c1, c2, c3, c4⟩, c5, c6, c7, c8, c9⟩ := hb
      refine fact_mk ?_ ?_ ?_ ?_ ?_ ?_ ?_ ?_ ?_ ?_ ?_ ?_ ?_ ?_ ?_ ?_ <;> simp (disch := omega) only [Bool.false_eq_true, not_true_eq_false, not_false_eq_true, Nat.reduceAdd, Nat.reduceMul, w32_eq, w64_eq, lc_eq, lc_lt, lc_le, lc_gt, lc_ge, up_k, up_i, up_e, Int.toNat_natCast, tn7, tn8, tn12, tn3, tn120, tn1600, w32_and, w32_or, w32_xor, w32_shl, w32_shr, has2_eq, c1, c2, c3, c4] <;> first | omega | (intro h; omega)
    · intro r X2 q M2 ⟨g1, g2, g3, g4, g5, g6⟩
      refine two_some ⟨g1, g2, g3, fun a h1 h2 => ?_, fun a h1 h2 => ?_⟩
      · have := g5 a h2
        simp only at this ⊢
        rw [this]
        simp (disch := omega) only [upM_row]
        exact hX1 a h1
      · have := g6 a h1
        simp only at this ⊢
        rw [this]
        simp (disch := omega) only [upM_row]
        exact hM1 a h2
