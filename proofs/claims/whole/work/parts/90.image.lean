/-! THE PURE PART: image -/
theorem low255 : ∀ n : Nat, n < 256 → and32 (n : Int) 255 = (n : Int) := by decide +kernel
theorem high8 : ∀ n : Nat, n < 1000 → and32 (shr32 (n : Int) 8) 255 = shr32 (n : Int) 8 ∧ 0 ≤ shr32 (n : Int) 8 ∧ shr32 (n : Int) 8 ≤ 255 := by decide +kernel
theorem and255r {y : Int} : 0 ≤ and32 y 255 ∧ and32 y 255 ≤ 255 := and255 _
/-- the picture, n bytes of it written, and all else as it was -/
def Pic (n : Nat) (X M X1 M1 : Mem) : Prop := RPic X1 M1 ∧ X1 370 1 = (n : Int) ∧ (∀ a, a ≠ 370 → a ≠ 371 → X1 a = X a) ∧ (∀ a, a ≠ 0 → a ≠ 45 → M1 a = M a) ∧ (∀ j, j ≠ 69 → M1 0 j = M 0 j)
theorem RAll_pic {nv np ns bk k n : Nat} {X M X1 M1 : Mem} (h : RAll nv np ns bk k X M) (hp : Pic n X M X1 M1) : RAll nv np ns bk k X1 M1 := by
  obtain ⟨h1, h2, h3, h4, h5, h6, h7, h8, h9, h10⟩ := h
  obtain ⟨g1, g2, ex, em, e0⟩ := hp
  have hns := h1.1.2.2.2.2
  have hnv := h1.1.2.2.1
  exact ⟨RT_of h1 (fun a q1 q2 q3 => ex a (by omega) (by omega)) (e0 13 (by omega)) (fun a q1 q2 => em a (by omega) (by omega)), RS_of h2 (fun a q1 q2 => ex a (by omega) (by omega)) (fun a q1 q2 => em a (by omega) (by omega)), SI_of h3 (fun a q1 q2 => ex a (by omega) (by omega)),
    RPast_of h4 hnv hns (ex 64 (by omega) (by omega)) (fun a q1 q2 => ex a (by omega) (by omega)) (e0 56 (by omega)) (e0 57 (by omega)) (fun a i q1 q2 q3 => by rw [em a (by omega) (by omega)]),
    RTape_of h5 (by rw [ex 1 (by omega) (by omega)]) (ex 2 (by omega) (by omega)) (e0 1 (by omega)) (em 1 (by omega) (by omega)), RFault_of h6 (ex 3 (by omega) (by omega)) (e0 10 (by omega)) (e0 11 (by omega)), RRef_of h7 (ex 372 (by omega) (by omega)) (em 24 (by omega) (by omega)),
    RSeed_of h8 (by rw [ex 0 (by omega) (by omega)]) (e0 58 (by omega)), RHeard_of h9 (by rw [ex 354 (by omega) (by omega)]) (ex 355 (by omega) (by omega)) (ex 356 (by omega) (by omega)) (ex 357 (by omega) (by omega)) (e0 63 (by omega)) (em 41 (by omega) (by omega)) (em 42 (by omega) (by omega)) (em 43 (by omega) (by omega)), g1⟩
theorem sim_wr {n : Nat} {x y : Int} {X M X1 M1 : Mem} (h : Pic n X M X1 M1) (hn : n < 108) (hx : and32 y 255 = x) : ∃ X2 M2, x_Picture_put x X1 = some X2 ∧ m_writes y M1 = some M2 ∧ Pic (n + 1) X M X2 M2 := by
  obtain ⟨⟨g1, g2, g3, g4⟩, gn, ex, em, e0⟩ := h
  have hr := and255r (y := y)
  rw [hx] at hr
  refine ⟨upM (upM X1 371 n x) 370 1 ((n : Int) + 1), upM (upM M1 45 n x) 0 69 ((n : Int) + 1), ?_, ?_, ⟨?_, ?_, ?_, fun j hj => ?_⟩, ?_, fun a q1 q2 => ?_, fun a q1 q2 => ?_, fun j hj => ?_⟩
  · have : post (x_Picture_put x X1) (fun r => r = upM (upM X1 371 n x) 370 1 ((n : Int) + 1)) := by
      unfold x_Picture_put
      repeat' (first | with_reducible refine post_lt ?_ | (with_reducible refine post_chk ?_ ?_; focus ((try simp (disch := omega) only [Bool.false_eq_true, not_true_eq_false, not_false_eq_true, Nat.reduceAdd, Nat.reduceMul, w32_eq, w64_eq, lc_eq, lc_lt, lc_le, lc_gt, lc_ge, up_k, up_i, up_e, Int.toNat_natCast, tn7, tn8, tn12, tn3, tn120, tn1600, w32_and, w32_or, w32_xor, w32_shl, w32_shr, has2_eq, gn]) <;> omega)) | (with_reducible refine post_ite (fun hcp => ?_) (fun hcp => ?_) <;> (try simp (disch := omega) only [Bool.false_eq_true, not_true_eq_false, not_false_eq_true, Nat.reduceAdd, Nat.reduceMul, w32_eq, w64_eq, lc_eq, lc_lt, lc_le, lc_gt, lc_ge, up_k, up_i, up_e, Int.toNat_natCast, tn7, tn8, tn12, tn3, tn120, tn1600, w32_and, w32_or, w32_xor, w32_shl, w32_shr, has2_eq, gn] at hcp) <;> (try (exfalso; first | omega | exact hcp rfl | exact hcp trivial | contradiction))))
      simp (disch := omega) only [gn, up_k, Int.toNat_natCast]
      exact post_some rfl
    obtain ⟨_, e, rfl⟩ := this
    exact e
  · have : post (m_writes y M1) (fun r => r = upM (upM M1 45 n x) 0 69 ((n : Int) + 1)) := by
      unfold m_writes
      rw [← g1]
      repeat' (first | with_reducible refine post_lt ?_ | (with_reducible refine post_chk ?_ ?_; focus ((try simp (disch := omega) only [Bool.false_eq_true, not_true_eq_false, not_false_eq_true, Nat.reduceAdd, Nat.reduceMul, w32_eq, w64_eq, lc_eq, lc_lt, lc_le, lc_gt, lc_ge, up_k, up_i, up_e, Int.toNat_natCast, tn7, tn8, tn12, tn3, tn120, tn1600, w32_and, w32_or, w32_xor, w32_shl, w32_shr, has2_eq, gn]) <;> omega)) | (with_reducible refine post_ite (fun hcp => ?_) (fun hcp => ?_) <;> (try simp (disch := omega) only [Bool.false_eq_true, not_true_eq_false, not_false_eq_true, Nat.reduceAdd, Nat.reduceMul, w32_eq, w64_eq, lc_eq, lc_lt, lc_le, lc_gt, lc_ge, up_k, up_i, up_e, Int.toNat_natCast, tn7, tn8, tn12, tn3, tn120, tn1600, w32_and, w32_or, w32_xor, w32_shl, w32_shr, has2_eq, gn] at hcp) <;> (try (exfalso; first | omega | exact hcp rfl | exact hcp trivial | contradiction))))
      simp (disch := omega) only [gn, up_k, Int.toNat_natCast, hx, ← g1]
      exact post_some rfl
    obtain ⟨_, e, rfl⟩ := this
    exact e
  · rw [up_e, up_e]
  · rw [up_e]; omega
  · rw [up_e]; omega
  · rw [up_e] at hj
    by_cases e : j = n
    · subst e
      simp (disch := omega) only [up_k, up_e]
      exact ⟨trivial, hr⟩
    · simp (disch := omega) only [up_k, up_i]
      exact g4 j (by omega)
  · rw [up_e]; omega
  · rw [upM_row (by omega), upM_row (by omega)]; exact ex a q1 q2
  · rw [upM_row (by omega), upM_row (by omega)]; exact em a q1 q2
  · rw [up_i (by omega), up_k (by omega)]; exact e0 j hj
theorem mask {y : Int} (h : 0 ≤ y ∧ y ≤ 255) : and32 y 255 = y := by
  obtain ⟨n, rfl⟩ := Int.eq_ofNat_of_zero_le h.1
  exact low255 n (by omega)
theorem sim_pair {n : Nat} {w : Int} {X M X1 M1 : Mem} (h : Pic n X M X1 M1) (hn : n < 107) (hw : 0 ≤ w ∧ w ≤ 999) : ∃ X2 M2 M3, x_Picture_putPair w X1 = some X2 ∧ m_writes (shr32 w 8) M1 = some M2 ∧ m_writes w M2 = some M3 ∧ (∀ a, a ≠ 0 → a ≠ 45 → M2 a = M a) ∧ Pic (n + 2) X M X2 M3 := by
  obtain ⟨u, rfl⟩ := Int.eq_ofNat_of_zero_le hw.1
  have h8 := high8 u (by omega)
  obtain ⟨Xa, Ma, e1, f1, g1⟩ := sim_wr (x := shr32 (u : Int) 8) (y := shr32 (u : Int) 8) h (by omega) h8.1
  obtain ⟨Xb, Mb, e2, f2, g2⟩ := sim_wr (x := and32 (u : Int) 255) (y := (u : Int)) g1 (by omega) rfl
  refine ⟨Xb, Ma, Mb, ?_, f1, f2, g1.2.2.2.1, g2⟩
  unfold x_Picture_putPair
  rw [e1, bnd_some, e2, bnd_some]
theorem sim_voices {nv np ns bk k : Nat} {X M X1 M1 : Mem} (hR : RAll nv np ns bk k X M) (h : Pic 2 X M X1 M1) :
    two (itr2 x_Picture_write_L18 FUEL 0 X1) (itr2 m_image_L30 FUEL 0 M1) (fun p q => Pic (2 + 3 * nv) X M p.2 q.2) := by
  have hT := hR.1
  have hS := hR.2.1
  have hI := hR.2.2.1
  obtain ⟨⟨tb, tb2, tnv, tnp, tns⟩, ⟨x0, x1, x2⟩, ⟨m0, m1, m2⟩, ⟨t3, t3a, t3b⟩, tpit, tper, tsay, trul⟩ := hT
  obtain ⟨rp, rs, rb, -⟩ := hS
  obtain ⟨ip, is, ib, -⟩ := hI
  refine two_itr22 (fun n (i : Int) X1 (j : Int) M1 => ∃ c : Nat, i = (c : Int) ∧ j = (c : Int) ∧ c ≤ nv ∧ n = nv - c ∧ Pic (2 + 3 * c) X M X1 M1) _ ?_ FUEL nv 0 X1 0 M1 (fuel_lt (by omega)) ⟨0, rfl, rfl, by omega, rfl, h⟩
  rintro n i X1 j M1 ⟨c, rfl, rfl, hc, rfl, hp⟩ F G ih
  unfold x_Picture_write_L18 m_image_L30 m_image_L30_B72
  have k0 : M1 0 13 = (bk : Int) := by rw [hp.2.2.2.2 13 (by omega)]; exact tb
  have k2 : M1 2 = M 2 := hp.2.2.2.1 2 (by omega) (by omega)
  have k23 : X1 23 0 = (nv : Int) := by rw [hp.2.2.1 23 (by omega) (by omega)]; exact x0
  by_cases hcn : c < nv
  · have v1 := ip c hcn
    have v2 := is c hcn
    have v3 := ib c hcn
    have r1 : M 26 c = X 39 c := by have := rp c hcn; simpa using this
    have r2 := rs c hcn
    have r3 : M 27 c = X 41 c := by have := rb c hcn; simpa using this
    simp only [Nat.reduceAdd] at v1 v2 v3 r2
    obtain ⟨Xa, Ma, e1, f1, g1⟩ := sim_wr (x := X 39 c) (y := M 26 c) hp (by omega) (by rw [r1]; exact mask (by omega))
    obtain ⟨Xb, Mb, e2, f2, g2⟩ := sim_wr (x := X 40 c) (y := X 40 c) g1 (by omega) (mask (by omega))
    obtain ⟨Xc, Mc, e3, f3, g3⟩ := sim_wr (x := X 41 c) (y := M 27 c) g2 (by omega) (by rw [r3]; exact mask (by omega))
    have go := ih (nv - (c + 1)) ((c : Int) + 1) Xc ((c : Int) + 1) Mc (by omega) ⟨c + 1, rfl, rfl, by omega, rfl, by rw [show 2 + 3 * (c + 1) = 2 + 3 * c + 1 + 1 + 1 by omega]; exact g3⟩
    rw [← hp.2.2.1 39 (by omega) (by omega)] at e1
    rw [← g1.2.2.1 40 (by omega) (by omega)] at e2
    rw [← g2.2.2.1 41 (by omega) (by omega)] at e3
    rw [← hp.2.2.2.1 26 (by omega) (by omega)] at f1
    rw [← g2.2.2.2.1 27 (by omega) (by omega)] at f3
    have m28 : Ma 28 0 = M 28 0 := by rw [g1.2.2.2.1 28 (by omega) (by omega)]
    repeat' (first | with_reducible refine two_lt_l ?_ | (with_reducible refine two_chk_l ?_ ?_; focus ((try simp (disch := omega) only [Bool.false_eq_true, not_true_eq_false, not_false_eq_true, Nat.reduceAdd, Nat.reduceMul, w32_eq, w64_eq, lc_eq, lc_lt, lc_le, lc_gt, lc_ge, up_k, up_i, up_e, Int.toNat_natCast, tn7, tn8, tn12, tn3, tn120, tn1600, w32_and, w32_or, w32_xor, w32_shl, w32_shr, has2_eq, k23]) <;> omega)) | (with_reducible refine two_ite_l (fun hcl => ?_) (fun hcl => ?_) <;> (try simp (disch := omega) only [Bool.false_eq_true, not_true_eq_false, not_false_eq_true, Nat.reduceAdd, Nat.reduceMul, w32_eq, w64_eq, lc_eq, lc_lt, lc_le, lc_gt, lc_ge, up_k, up_i, up_e, Int.toNat_natCast, tn7, tn8, tn12, tn3, tn120, tn1600, w32_and, w32_or, w32_xor, w32_shl, w32_shr, has2_eq, k23] at hcl) <;> (try (exfalso; first | omega | exact hcl rfl | exact hcl trivial | contradiction))))
    (try simp only [Int.toNat_natCast])
    refine two_bnd_l e1 ?_
    repeat' (first | with_reducible refine two_lt_l ?_ | (with_reducible refine two_chk_l ?_ ?_; focus ((try simp (disch := omega) only [Bool.false_eq_true, not_true_eq_false, not_false_eq_true, Nat.reduceAdd, Nat.reduceMul, w32_eq, w64_eq, lc_eq, lc_lt, lc_le, lc_gt, lc_ge, up_k, up_i, up_e, Int.toNat_natCast, tn7, tn8, tn12, tn3, tn120, tn1600, w32_and, w32_or, w32_xor, w32_shl, w32_shr, has2_eq]) <;> omega)) | (with_reducible refine two_ite_l (fun hcl => ?_) (fun hcl => ?_) <;> (try simp (disch := omega) only [Bool.false_eq_true, not_true_eq_false, not_false_eq_true, Nat.reduceAdd, Nat.reduceMul, w32_eq, w64_eq, lc_eq, lc_lt, lc_le, lc_gt, lc_ge, up_k, up_i, up_e, Int.toNat_natCast, tn7, tn8, tn12, tn3, tn120, tn1600, w32_and, w32_or, w32_xor, w32_shl, w32_shr, has2_eq] at hcl) <;> (try (exfalso; first | omega | exact hcl rfl | exact hcl trivial | contradiction))))
    refine two_bnd_l e2 ?_
    repeat' (first | with_reducible refine two_lt_l ?_ | (with_reducible refine two_chk_l ?_ ?_; focus ((try simp (disch := omega) only [Bool.false_eq_true, not_true_eq_false, not_false_eq_true, Nat.reduceAdd, Nat.reduceMul, w32_eq, w64_eq, lc_eq, lc_lt, lc_le, lc_gt, lc_ge, up_k, up_i, up_e, Int.toNat_natCast, tn7, tn8, tn12, tn3, tn120, tn1600, w32_and, w32_or, w32_xor, w32_shl, w32_shr, has2_eq]) <;> omega)) | (with_reducible refine two_ite_l (fun hcl => ?_) (fun hcl => ?_) <;> (try simp (disch := omega) only [Bool.false_eq_true, not_true_eq_false, not_false_eq_true, Nat.reduceAdd, Nat.reduceMul, w32_eq, w64_eq, lc_eq, lc_lt, lc_le, lc_gt, lc_ge, up_k, up_i, up_e, Int.toNat_natCast, tn7, tn8, tn12, tn3, tn120, tn1600, w32_and, w32_or, w32_xor, w32_shl, w32_shr, has2_eq] at hcl) <;> (try (exfalso; first | omega | exact hcl rfl | exact hcl trivial | contradiction))))
    refine two_bnd_l e3 ?_
    refine two_lt_l ?_
    repeat' (first | with_reducible refine two_lt_r ?_ | (with_reducible refine two_chk_r ?_ ?_; focus ((try simp (disch := omega) only [Bool.false_eq_true, not_true_eq_false, not_false_eq_true, Nat.reduceAdd, Nat.reduceMul, w32_eq, w64_eq, lc_eq, lc_lt, lc_le, lc_gt, lc_ge, up_k, up_i, up_e, Int.toNat_natCast, tn7, tn8, tn12, tn3, tn120, tn1600, w32_and, w32_or, w32_xor, w32_shl, w32_shr, has2_eq, k0, k2, m0]) <;> omega)) | (with_reducible refine two_ite_r (fun hcr => ?_) (fun hcr => ?_) <;> (try simp (disch := omega) only [Bool.false_eq_true, not_true_eq_false, not_false_eq_true, Nat.reduceAdd, Nat.reduceMul, w32_eq, w64_eq, lc_eq, lc_lt, lc_le, lc_gt, lc_ge, up_k, up_i, up_e, Int.toNat_natCast, tn7, tn8, tn12, tn3, tn120, tn1600, w32_and, w32_or, w32_xor, w32_shl, w32_shr, has2_eq, k0, k2, m0] at hcr) <;> (try (exfalso; first | omega | exact hcr rfl | exact hcr trivial | contradiction))))
    (try simp only [Int.toNat_natCast])
    refine two_bnd_r f1 ?_
    refine two_bnd_r has2_eq ?_
    simp only [m28, r2]
    by_cases hs : X 40 c = 1
    · simp only [decide_eq_true hs, ↓reduceIte]
      rw [hs] at f2
      refine two_bnd_r f2 ?_
      repeat' (first | with_reducible refine two_lt_r ?_ | (with_reducible refine two_chk_r ?_ ?_; focus ((try simp (disch := omega) only [Bool.false_eq_true, not_true_eq_false, not_false_eq_true, Nat.reduceAdd, Nat.reduceMul, w32_eq, w64_eq, lc_eq, lc_lt, lc_le, lc_gt, lc_ge, up_k, up_i, up_e, Int.toNat_natCast, tn7, tn8, tn12, tn3, tn120, tn1600, w32_and, w32_or, w32_xor, w32_shl, w32_shr, has2_eq]) <;> omega)) | (with_reducible refine two_ite_r (fun hcr => ?_) (fun hcr => ?_) <;> (try simp (disch := omega) only [Bool.false_eq_true, not_true_eq_false, not_false_eq_true, Nat.reduceAdd, Nat.reduceMul, w32_eq, w64_eq, lc_eq, lc_lt, lc_le, lc_gt, lc_ge, up_k, up_i, up_e, Int.toNat_natCast, tn7, tn8, tn12, tn3, tn120, tn1600, w32_and, w32_or, w32_xor, w32_shl, w32_shr, has2_eq] at hcr) <;> (try (exfalso; first | omega | exact hcr rfl | exact hcr trivial | contradiction))))
      (try simp only [Int.toNat_natCast])
      refine two_bnd_r f3 ?_
      exact go
    · simp only [decide_eq_false hs, Bool.false_eq_true, ↓reduceIte]
      have hs0 : X 40 c = 0 := by omega
      rw [hs0] at f2
      refine two_bnd_r f2 ?_
      repeat' (first | with_reducible refine two_lt_r ?_ | (with_reducible refine two_chk_r ?_ ?_; focus ((try simp (disch := omega) only [Bool.false_eq_true, not_true_eq_false, not_false_eq_true, Nat.reduceAdd, Nat.reduceMul, w32_eq, w64_eq, lc_eq, lc_lt, lc_le, lc_gt, lc_ge, up_k, up_i, up_e, Int.toNat_natCast, tn7, tn8, tn12, tn3, tn120, tn1600, w32_and, w32_or, w32_xor, w32_shl, w32_shr, has2_eq]) <;> omega)) | (with_reducible refine two_ite_r (fun hcr => ?_) (fun hcr => ?_) <;> (try simp (disch := omega) only [Bool.false_eq_true, not_true_eq_false, not_false_eq_true, Nat.reduceAdd, Nat.reduceMul, w32_eq, w64_eq, lc_eq, lc_lt, lc_le, lc_gt, lc_ge, up_k, up_i, up_e, Int.toNat_natCast, tn7, tn8, tn12, tn3, tn120, tn1600, w32_and, w32_or, w32_xor, w32_shl, w32_shr, has2_eq] at hcr) <;> (try (exfalso; first | omega | exact hcr rfl | exact hcr trivial | contradiction))))
      (try simp only [Int.toNat_natCast])
      refine two_bnd_r f3 ?_
      exact go
  · have e : c = nv := by omega
    subst e
    repeat' (first | with_reducible refine two_lt_l ?_ | (with_reducible refine two_chk_l ?_ ?_; focus ((try simp (disch := omega) only [Bool.false_eq_true, not_true_eq_false, not_false_eq_true, Nat.reduceAdd, Nat.reduceMul, w32_eq, w64_eq, lc_eq, lc_lt, lc_le, lc_gt, lc_ge, up_k, up_i, up_e, Int.toNat_natCast, tn7, tn8, tn12, tn3, tn120, tn1600, w32_and, w32_or, w32_xor, w32_shl, w32_shr, has2_eq, k23]) <;> omega)) | (with_reducible refine two_ite_l (fun hcl => ?_) (fun hcl => ?_) <;> (try simp (disch := omega) only [Bool.false_eq_true, not_true_eq_false, not_false_eq_true, Nat.reduceAdd, Nat.reduceMul, w32_eq, w64_eq, lc_eq, lc_lt, lc_le, lc_gt, lc_ge, up_k, up_i, up_e, Int.toNat_natCast, tn7, tn8, tn12, tn3, tn120, tn1600, w32_and, w32_or, w32_xor, w32_shl, w32_shr, has2_eq, k23] at hcl) <;> (try (exfalso; first | omega | exact hcl rfl | exact hcl trivial | contradiction))))
    repeat' (first | with_reducible refine two_lt_r ?_ | (with_reducible refine two_chk_r ?_ ?_; focus ((try simp (disch := omega) only [Bool.false_eq_true, not_true_eq_false, not_false_eq_true, Nat.reduceAdd, Nat.reduceMul, w32_eq, w64_eq, lc_eq, lc_lt, lc_le, lc_gt, lc_ge, up_k, up_i, up_e, Int.toNat_natCast, tn7, tn8, tn12, tn3, tn120, tn1600, w32_and, w32_or, w32_xor, w32_shl, w32_shr, has2_eq, k0, k2, m0]) <;> omega)) | (with_reducible refine two_ite_r (fun hcr => ?_) (fun hcr => ?_) <;> (try simp (disch := omega) only [Bool.false_eq_true, not_true_eq_false, not_false_eq_true, Nat.reduceAdd, Nat.reduceMul, w32_eq, w64_eq, lc_eq, lc_lt, lc_le, lc_gt, lc_ge, up_k, up_i, up_e, Int.toNat_natCast, tn7, tn8, tn12, tn3, tn120, tn1600, w32_and, w32_or, w32_xor, w32_shl, w32_shr, has2_eq, k0, k2, m0] at hcr) <;> (try (exfalso; first | omega | exact hcr rfl | exact hcr trivial | contradiction))))
    exact two_some hp
theorem sim_says {nv np ns bk k n : Nat} {X M X1 M1 : Mem} (hR : RAll nv np ns bk k X M) (hn : n ≤ 23) (h : Pic n X M X1 M1) :
    two (itr2 x_Picture_write_L76 FUEL 0 X1) (itr2 m_image_L93 FUEL 0 M1) (fun p q => Pic (n + 7 * ns) X M p.2 q.2) := by
  have hT := hR.1
  have hS := hR.2.1
  have hI := hR.2.2.1
  obtain ⟨⟨tb, tb2, tnv, tnp, tns⟩, ⟨x0, x1, x2⟩, ⟨m0, m1, m2⟩, ⟨t3, t3a, t3b⟩, tpit, tper, tsay, trul⟩ := hT
  obtain ⟨rp, rs, rb, rw, rd, rt, rv, rl, rx, rk, rm, rk1, rk2, rk3, rz1, rz2⟩ := hS
  obtain ⟨ip, is, ib, iw, id, it, iv, il, ix, isnd, inm, iin, im, ik⟩ := hI
  refine two_itr22 (fun n' (i : Int) X1 (j : Int) M1 => ∃ c : Nat, i = (c : Int) ∧ j = (c : Int) ∧ c ≤ ns ∧ n' = ns - c ∧ Pic (n + 7 * c) X M X1 M1) _ ?_ FUEL ns 0 X1 0 M1 (fuel_lt (by omega)) ⟨0, rfl, rfl, by omega, rfl, h⟩
  rintro n' i X1 j M1 ⟨c, rfl, rfl, hc, rfl, hp⟩ F G ih
  unfold x_Picture_write_L76 x_Picture_write_L76_B155 m_image_L93
  have k0 : M1 0 13 = (bk : Int) := by rw [hp.2.2.2.2 13 (by omega)]; exact tb
  have k2 : M1 7 = M 7 := hp.2.2.2.1 7 (by omega) (by omega)
  have k23 : X1 23 2 = (ns : Int) := by rw [hp.2.2.1 23 (by omega) (by omega)]; exact x2
  by_cases hcn : c < ns
  · have w1 := iw c hcn
    have w2 := id c hcn
    have w3 := it c hcn
    have w4 := iv c hcn
    have w5 := il c hcn
    have w6 := ix c hcn
    have r1 : M 29 c = X 42 c := by have := rw c hcn; simpa using this
    have r2 : M 30 c = X 43 c := by have := rd c hcn; simpa using this
    have r3 : M 31 c = X 44 c := by have := rt c hcn; simpa using this
    have r4 : M 32 c = X 45 c := by have := rv c hcn; simpa using this
    have r5 : M 33 c = X 46 c := by have := rl c hcn; simpa using this
    have r6 := rx c hcn
    simp only [Nat.reduceAdd] at w1 w2 w3 w4 w5 w6 r6
    obtain ⟨vb, hvb⟩ : ∃ vb : Int, vb = if X 45 c = -1 then 255 else X 45 c := ⟨_, rfl⟩
    obtain ⟨Xa, Ma, e1, f1, g1⟩ := sim_wr (x := X 42 c) (y := M 29 c) hp (by omega) (by rw [r1]; exact mask (by omega))
    obtain ⟨Xb, Mb, Mc, e2, f2, f3, hb, g2⟩ := sim_pair (w := X 43 c) g1 (by omega) (by omega)
    obtain ⟨Xd, Md, e4, f4, g4⟩ := sim_wr (x := X 44 c) (y := M 31 c) g2 (by omega) (by rw [r3]; exact mask (by omega))
    obtain ⟨Xe, Me, e5, f5, g5⟩ := sim_wr (x := vb) (y := M 32 c) g4 (by omega) (by
      rw [r4, hvb]
      by_cases q : X 45 c = -1
      · rw [if_pos q, q]; decide +kernel
      · rw [if_neg q]; exact mask (by omega))
    obtain ⟨Xf, Mf, e6, f6, g6⟩ := sim_wr (x := X 46 c) (y := M 33 c) g5 (by omega) (by rw [r5]; exact mask (by omega))
    obtain ⟨Xg, Mg, e7, f7, g7⟩ := sim_wr (x := X 47 c) (y := X 47 c) g6 (by omega) (mask (by omega))
    have go := ih (ns - (c + 1)) ((c : Int) + 1) Xg ((c : Int) + 1) Mg (by omega) ⟨c + 1, rfl, rfl, by omega, rfl, by rw [show n + 7 * (c + 1) = n + 7 * c + 1 + 2 + 1 + 1 + 1 + 1 by omega]; exact g7⟩
    rw [← hp.2.2.1 42 (by omega) (by omega)] at e1
    rw [← g1.2.2.1 43 (by omega) (by omega)] at e2
    rw [← g2.2.2.1 44 (by omega) (by omega)] at e4
    have x45 : Xd 45 c = X 45 c := by rw [g4.2.2.1 45 (by omega) (by omega)]
    rw [← g5.2.2.1 46 (by omega) (by omega)] at e6
    rw [← g6.2.2.1 47 (by omega) (by omega)] at e7
    rw [← hp.2.2.2.1 29 (by omega) (by omega)] at f1
    rw [← r2] at f2 f3
    rw [← hb 30 (by omega) (by omega)] at f3
    rw [← g1.2.2.2.1 30 (by omega) (by omega)] at f2
    rw [← g2.2.2.2.1 31 (by omega) (by omega)] at f4
    rw [← g4.2.2.2.1 32 (by omega) (by omega)] at f5
    rw [← g5.2.2.2.1 33 (by omega) (by omega)] at f6
    have m34 : Mf 34 0 = M 34 0 := by rw [g6.2.2.2.1 34 (by omega) (by omega)]
    have left : ∀ (y : Option (Int × Mem)) (P : Int × Mem → Int × Mem → Prop), two (F ((c : Int) + 1) Xg) y P → two (x_Picture_write_L76 F (c : Int) X1) y P := fun y P hh => by
      unfold x_Picture_write_L76 x_Picture_write_L76_B155
      repeat' (first | with_reducible refine two_lt_l ?_ | (with_reducible refine two_chk_l ?_ ?_; focus ((try simp (disch := omega) only [Bool.false_eq_true, not_true_eq_false, not_false_eq_true, Nat.reduceAdd, Nat.reduceMul, w32_eq, w64_eq, lc_eq, lc_lt, lc_le, lc_gt, lc_ge, up_k, up_i, up_e, Int.toNat_natCast, tn7, tn8, tn12, tn3, tn120, tn1600, w32_and, w32_or, w32_xor, w32_shl, w32_shr, has2_eq, k23]) <;> omega)) | (with_reducible refine two_ite_l (fun hcl => ?_) (fun hcl => ?_) <;> (try simp (disch := omega) only [Bool.false_eq_true, not_true_eq_false, not_false_eq_true, Nat.reduceAdd, Nat.reduceMul, w32_eq, w64_eq, lc_eq, lc_lt, lc_le, lc_gt, lc_ge, up_k, up_i, up_e, Int.toNat_natCast, tn7, tn8, tn12, tn3, tn120, tn1600, w32_and, w32_or, w32_xor, w32_shl, w32_shr, has2_eq, k23] at hcl) <;> (try (exfalso; first | omega | exact hcl rfl | exact hcl trivial | contradiction))))
      (try simp only [Int.toNat_natCast])
      refine two_bnd_l e1 ?_
      repeat' (first | with_reducible refine two_lt_l ?_ | (with_reducible refine two_chk_l ?_ ?_; focus ((try simp (disch := omega) only [Bool.false_eq_true, not_true_eq_false, not_false_eq_true, Nat.reduceAdd, Nat.reduceMul, w32_eq, w64_eq, lc_eq, lc_lt, lc_le, lc_gt, lc_ge, up_k, up_i, up_e, Int.toNat_natCast, tn7, tn8, tn12, tn3, tn120, tn1600, w32_and, w32_or, w32_xor, w32_shl, w32_shr, has2_eq]) <;> omega)) | (with_reducible refine two_ite_l (fun hcl => ?_) (fun hcl => ?_) <;> (try simp (disch := omega) only [Bool.false_eq_true, not_true_eq_false, not_false_eq_true, Nat.reduceAdd, Nat.reduceMul, w32_eq, w64_eq, lc_eq, lc_lt, lc_le, lc_gt, lc_ge, up_k, up_i, up_e, Int.toNat_natCast, tn7, tn8, tn12, tn3, tn120, tn1600, w32_and, w32_or, w32_xor, w32_shl, w32_shr, has2_eq] at hcl) <;> (try (exfalso; first | omega | exact hcl rfl | exact hcl trivial | contradiction))))
      (try simp only [Int.toNat_natCast])
      refine two_bnd_l e2 ?_
      repeat' (first | with_reducible refine two_lt_l ?_ | (with_reducible refine two_chk_l ?_ ?_; focus ((try simp (disch := omega) only [Bool.false_eq_true, not_true_eq_false, not_false_eq_true, Nat.reduceAdd, Nat.reduceMul, w32_eq, w64_eq, lc_eq, lc_lt, lc_le, lc_gt, lc_ge, up_k, up_i, up_e, Int.toNat_natCast, tn7, tn8, tn12, tn3, tn120, tn1600, w32_and, w32_or, w32_xor, w32_shl, w32_shr, has2_eq]) <;> omega)) | (with_reducible refine two_ite_l (fun hcl => ?_) (fun hcl => ?_) <;> (try simp (disch := omega) only [Bool.false_eq_true, not_true_eq_false, not_false_eq_true, Nat.reduceAdd, Nat.reduceMul, w32_eq, w64_eq, lc_eq, lc_lt, lc_le, lc_gt, lc_ge, up_k, up_i, up_e, Int.toNat_natCast, tn7, tn8, tn12, tn3, tn120, tn1600, w32_and, w32_or, w32_xor, w32_shl, w32_shr, has2_eq] at hcl) <;> (try (exfalso; first | omega | exact hcl rfl | exact hcl trivial | contradiction))))
      (try simp only [Int.toNat_natCast])
      refine two_bnd_l e4 ?_
      by_cases q : X 45 c = -1
      · rw [if_pos q] at hvb
        subst hvb
        repeat' (first | with_reducible refine two_lt_l ?_ | (with_reducible refine two_chk_l ?_ ?_; focus ((try simp (disch := omega) only [Bool.false_eq_true, not_true_eq_false, not_false_eq_true, Nat.reduceAdd, Nat.reduceMul, w32_eq, w64_eq, lc_eq, lc_lt, lc_le, lc_gt, lc_ge, up_k, up_i, up_e, Int.toNat_natCast, tn7, tn8, tn12, tn3, tn120, tn1600, w32_and, w32_or, w32_xor, w32_shl, w32_shr, has2_eq, x45]) <;> omega)) | (with_reducible refine two_ite_l (fun hcl => ?_) (fun hcl => ?_) <;> (try simp (disch := omega) only [Bool.false_eq_true, not_true_eq_false, not_false_eq_true, Nat.reduceAdd, Nat.reduceMul, w32_eq, w64_eq, lc_eq, lc_lt, lc_le, lc_gt, lc_ge, up_k, up_i, up_e, Int.toNat_natCast, tn7, tn8, tn12, tn3, tn120, tn1600, w32_and, w32_or, w32_xor, w32_shl, w32_shr, has2_eq, x45] at hcl) <;> (try (exfalso; first | omega | exact hcl rfl | exact hcl trivial | contradiction))))
        (try simp only [Int.toNat_natCast])
        refine two_bnd_l e5 ?_
        repeat' (first | with_reducible refine two_lt_l ?_ | (with_reducible refine two_chk_l ?_ ?_; focus ((try simp (disch := omega) only [Bool.false_eq_true, not_true_eq_false, not_false_eq_true, Nat.reduceAdd, Nat.reduceMul, w32_eq, w64_eq, lc_eq, lc_lt, lc_le, lc_gt, lc_ge, up_k, up_i, up_e, Int.toNat_natCast, tn7, tn8, tn12, tn3, tn120, tn1600, w32_and, w32_or, w32_xor, w32_shl, w32_shr, has2_eq]) <;> omega)) | (with_reducible refine two_ite_l (fun hcl => ?_) (fun hcl => ?_) <;> (try simp (disch := omega) only [Bool.false_eq_true, not_true_eq_false, not_false_eq_true, Nat.reduceAdd, Nat.reduceMul, w32_eq, w64_eq, lc_eq, lc_lt, lc_le, lc_gt, lc_ge, up_k, up_i, up_e, Int.toNat_natCast, tn7, tn8, tn12, tn3, tn120, tn1600, w32_and, w32_or, w32_xor, w32_shl, w32_shr, has2_eq] at hcl) <;> (try (exfalso; first | omega | exact hcl rfl | exact hcl trivial | contradiction))))
        (try simp only [Int.toNat_natCast])
        refine two_bnd_l e6 ?_
        repeat' (first | with_reducible refine two_lt_l ?_ | (with_reducible refine two_chk_l ?_ ?_; focus ((try simp (disch := omega) only [Bool.false_eq_true, not_true_eq_false, not_false_eq_true, Nat.reduceAdd, Nat.reduceMul, w32_eq, w64_eq, lc_eq, lc_lt, lc_le, lc_gt, lc_ge, up_k, up_i, up_e, Int.toNat_natCast, tn7, tn8, tn12, tn3, tn120, tn1600, w32_and, w32_or, w32_xor, w32_shl, w32_shr, has2_eq]) <;> omega)) | (with_reducible refine two_ite_l (fun hcl => ?_) (fun hcl => ?_) <;> (try simp (disch := omega) only [Bool.false_eq_true, not_true_eq_false, not_false_eq_true, Nat.reduceAdd, Nat.reduceMul, w32_eq, w64_eq, lc_eq, lc_lt, lc_le, lc_gt, lc_ge, up_k, up_i, up_e, Int.toNat_natCast, tn7, tn8, tn12, tn3, tn120, tn1600, w32_and, w32_or, w32_xor, w32_shl, w32_shr, has2_eq] at hcl) <;> (try (exfalso; first | omega | exact hcl rfl | exact hcl trivial | contradiction))))
        (try simp only [Int.toNat_natCast])
        refine two_bnd_l e7 ?_
        exact hh
      · rw [if_neg q] at hvb
        subst hvb
        rw [← x45] at e5
        repeat' (first | with_reducible refine two_lt_l ?_ | (with_reducible refine two_chk_l ?_ ?_; focus ((try simp (disch := omega) only [Bool.false_eq_true, not_true_eq_false, not_false_eq_true, Nat.reduceAdd, Nat.reduceMul, w32_eq, w64_eq, lc_eq, lc_lt, lc_le, lc_gt, lc_ge, up_k, up_i, up_e, Int.toNat_natCast, tn7, tn8, tn12, tn3, tn120, tn1600, w32_and, w32_or, w32_xor, w32_shl, w32_shr, has2_eq, x45]) <;> omega)) | (with_reducible refine two_ite_l (fun hcl => ?_) (fun hcl => ?_) <;> (try simp (disch := omega) only [Bool.false_eq_true, not_true_eq_false, not_false_eq_true, Nat.reduceAdd, Nat.reduceMul, w32_eq, w64_eq, lc_eq, lc_lt, lc_le, lc_gt, lc_ge, up_k, up_i, up_e, Int.toNat_natCast, tn7, tn8, tn12, tn3, tn120, tn1600, w32_and, w32_or, w32_xor, w32_shl, w32_shr, has2_eq, x45] at hcl) <;> (try (exfalso; first | omega | exact hcl rfl | exact hcl trivial | contradiction))))
        (try simp only [Int.toNat_natCast])
        refine two_bnd_l e5 ?_
        repeat' (first | with_reducible refine two_lt_l ?_ | (with_reducible refine two_chk_l ?_ ?_; focus ((try simp (disch := omega) only [Bool.false_eq_true, not_true_eq_false, not_false_eq_true, Nat.reduceAdd, Nat.reduceMul, w32_eq, w64_eq, lc_eq, lc_lt, lc_le, lc_gt, lc_ge, up_k, up_i, up_e, Int.toNat_natCast, tn7, tn8, tn12, tn3, tn120, tn1600, w32_and, w32_or, w32_xor, w32_shl, w32_shr, has2_eq]) <;> omega)) | (with_reducible refine two_ite_l (fun hcl => ?_) (fun hcl => ?_) <;> (try simp (disch := omega) only [Bool.false_eq_true, not_true_eq_false, not_false_eq_true, Nat.reduceAdd, Nat.reduceMul, w32_eq, w64_eq, lc_eq, lc_lt, lc_le, lc_gt, lc_ge, up_k, up_i, up_e, Int.toNat_natCast, tn7, tn8, tn12, tn3, tn120, tn1600, w32_and, w32_or, w32_xor, w32_shl, w32_shr, has2_eq] at hcl) <;> (try (exfalso; first | omega | exact hcl rfl | exact hcl trivial | contradiction))))
        (try simp only [Int.toNat_natCast])
        refine two_bnd_l e6 ?_
        repeat' (first | with_reducible refine two_lt_l ?_ | (with_reducible refine two_chk_l ?_ ?_; focus ((try simp (disch := omega) only [Bool.false_eq_true, not_true_eq_false, not_false_eq_true, Nat.reduceAdd, Nat.reduceMul, w32_eq, w64_eq, lc_eq, lc_lt, lc_le, lc_gt, lc_ge, up_k, up_i, up_e, Int.toNat_natCast, tn7, tn8, tn12, tn3, tn120, tn1600, w32_and, w32_or, w32_xor, w32_shl, w32_shr, has2_eq]) <;> omega)) | (with_reducible refine two_ite_l (fun hcl => ?_) (fun hcl => ?_) <;> (try simp (disch := omega) only [Bool.false_eq_true, not_true_eq_false, not_false_eq_true, Nat.reduceAdd, Nat.reduceMul, w32_eq, w64_eq, lc_eq, lc_lt, lc_le, lc_gt, lc_ge, up_k, up_i, up_e, Int.toNat_natCast, tn7, tn8, tn12, tn3, tn120, tn1600, w32_and, w32_or, w32_xor, w32_shl, w32_shr, has2_eq] at hcl) <;> (try (exfalso; first | omega | exact hcl rfl | exact hcl trivial | contradiction))))
        (try simp only [Int.toNat_natCast])
        refine two_bnd_l e7 ?_
        exact hh
    refine left _ _ ?_
    repeat' (first | with_reducible refine two_lt_r ?_ | (with_reducible refine two_chk_r ?_ ?_; focus ((try simp (disch := omega) only [Bool.false_eq_true, not_true_eq_false, not_false_eq_true, Nat.reduceAdd, Nat.reduceMul, w32_eq, w64_eq, lc_eq, lc_lt, lc_le, lc_gt, lc_ge, up_k, up_i, up_e, Int.toNat_natCast, tn7, tn8, tn12, tn3, tn120, tn1600, w32_and, w32_or, w32_xor, w32_shl, w32_shr, has2_eq, k0, k2, m2]) <;> omega)) | (with_reducible refine two_ite_r (fun hcr => ?_) (fun hcr => ?_) <;> (try simp (disch := omega) only [Bool.false_eq_true, not_true_eq_false, not_false_eq_true, Nat.reduceAdd, Nat.reduceMul, w32_eq, w64_eq, lc_eq, lc_lt, lc_le, lc_gt, lc_ge, up_k, up_i, up_e, Int.toNat_natCast, tn7, tn8, tn12, tn3, tn120, tn1600, w32_and, w32_or, w32_xor, w32_shl, w32_shr, has2_eq, k0, k2, m2] at hcr) <;> (try (exfalso; first | omega | exact hcr rfl | exact hcr trivial | contradiction))))
    (try simp only [Int.toNat_natCast])
    refine two_bnd_r f1 ?_
    repeat' (first | with_reducible refine two_lt_r ?_ | (with_reducible refine two_chk_r ?_ ?_; focus ((try simp (disch := omega) only [Bool.false_eq_true, not_true_eq_false, not_false_eq_true, Nat.reduceAdd, Nat.reduceMul, w32_eq, w64_eq, lc_eq, lc_lt, lc_le, lc_gt, lc_ge, up_k, up_i, up_e, Int.toNat_natCast, tn7, tn8, tn12, tn3, tn120, tn1600, w32_and, w32_or, w32_xor, w32_shl, w32_shr, has2_eq]) <;> omega)) | (with_reducible refine two_ite_r (fun hcr => ?_) (fun hcr => ?_) <;> (try simp (disch := omega) only [Bool.false_eq_true, not_true_eq_false, not_false_eq_true, Nat.reduceAdd, Nat.reduceMul, w32_eq, w64_eq, lc_eq, lc_lt, lc_le, lc_gt, lc_ge, up_k, up_i, up_e, Int.toNat_natCast, tn7, tn8, tn12, tn3, tn120, tn1600, w32_and, w32_or, w32_xor, w32_shl, w32_shr, has2_eq] at hcr) <;> (try (exfalso; first | omega | exact hcr rfl | exact hcr trivial | contradiction))))
    (try simp only [Int.toNat_natCast])
    refine two_bnd_r f2 ?_
    repeat' (first | with_reducible refine two_lt_r ?_ | (with_reducible refine two_chk_r ?_ ?_; focus ((try simp (disch := omega) only [Bool.false_eq_true, not_true_eq_false, not_false_eq_true, Nat.reduceAdd, Nat.reduceMul, w32_eq, w64_eq, lc_eq, lc_lt, lc_le, lc_gt, lc_ge, up_k, up_i, up_e, Int.toNat_natCast, tn7, tn8, tn12, tn3, tn120, tn1600, w32_and, w32_or, w32_xor, w32_shl, w32_shr, has2_eq]) <;> omega)) | (with_reducible refine two_ite_r (fun hcr => ?_) (fun hcr => ?_) <;> (try simp (disch := omega) only [Bool.false_eq_true, not_true_eq_false, not_false_eq_true, Nat.reduceAdd, Nat.reduceMul, w32_eq, w64_eq, lc_eq, lc_lt, lc_le, lc_gt, lc_ge, up_k, up_i, up_e, Int.toNat_natCast, tn7, tn8, tn12, tn3, tn120, tn1600, w32_and, w32_or, w32_xor, w32_shl, w32_shr, has2_eq] at hcr) <;> (try (exfalso; first | omega | exact hcr rfl | exact hcr trivial | contradiction))))
    (try simp only [Int.toNat_natCast])
    refine two_bnd_r f3 ?_
    repeat' (first | with_reducible refine two_lt_r ?_ | (with_reducible refine two_chk_r ?_ ?_; focus ((try simp (disch := omega) only [Bool.false_eq_true, not_true_eq_false, not_false_eq_true, Nat.reduceAdd, Nat.reduceMul, w32_eq, w64_eq, lc_eq, lc_lt, lc_le, lc_gt, lc_ge, up_k, up_i, up_e, Int.toNat_natCast, tn7, tn8, tn12, tn3, tn120, tn1600, w32_and, w32_or, w32_xor, w32_shl, w32_shr, has2_eq]) <;> omega)) | (with_reducible refine two_ite_r (fun hcr => ?_) (fun hcr => ?_) <;> (try simp (disch := omega) only [Bool.false_eq_true, not_true_eq_false, not_false_eq_true, Nat.reduceAdd, Nat.reduceMul, w32_eq, w64_eq, lc_eq, lc_lt, lc_le, lc_gt, lc_ge, up_k, up_i, up_e, Int.toNat_natCast, tn7, tn8, tn12, tn3, tn120, tn1600, w32_and, w32_or, w32_xor, w32_shl, w32_shr, has2_eq] at hcr) <;> (try (exfalso; first | omega | exact hcr rfl | exact hcr trivial | contradiction))))
    (try simp only [Int.toNat_natCast])
    refine two_bnd_r f4 ?_
    repeat' (first | with_reducible refine two_lt_r ?_ | (with_reducible refine two_chk_r ?_ ?_; focus ((try simp (disch := omega) only [Bool.false_eq_true, not_true_eq_false, not_false_eq_true, Nat.reduceAdd, Nat.reduceMul, w32_eq, w64_eq, lc_eq, lc_lt, lc_le, lc_gt, lc_ge, up_k, up_i, up_e, Int.toNat_natCast, tn7, tn8, tn12, tn3, tn120, tn1600, w32_and, w32_or, w32_xor, w32_shl, w32_shr, has2_eq]) <;> omega)) | (with_reducible refine two_ite_r (fun hcr => ?_) (fun hcr => ?_) <;> (try simp (disch := omega) only [Bool.false_eq_true, not_true_eq_false, not_false_eq_true, Nat.reduceAdd, Nat.reduceMul, w32_eq, w64_eq, lc_eq, lc_lt, lc_le, lc_gt, lc_ge, up_k, up_i, up_e, Int.toNat_natCast, tn7, tn8, tn12, tn3, tn120, tn1600, w32_and, w32_or, w32_xor, w32_shl, w32_shr, has2_eq] at hcr) <;> (try (exfalso; first | omega | exact hcr rfl | exact hcr trivial | contradiction))))
    (try simp only [Int.toNat_natCast])
    refine two_bnd_r f5 ?_
    repeat' (first | with_reducible refine two_lt_r ?_ | (with_reducible refine two_chk_r ?_ ?_; focus ((try simp (disch := omega) only [Bool.false_eq_true, not_true_eq_false, not_false_eq_true, Nat.reduceAdd, Nat.reduceMul, w32_eq, w64_eq, lc_eq, lc_lt, lc_le, lc_gt, lc_ge, up_k, up_i, up_e, Int.toNat_natCast, tn7, tn8, tn12, tn3, tn120, tn1600, w32_and, w32_or, w32_xor, w32_shl, w32_shr, has2_eq]) <;> omega)) | (with_reducible refine two_ite_r (fun hcr => ?_) (fun hcr => ?_) <;> (try simp (disch := omega) only [Bool.false_eq_true, not_true_eq_false, not_false_eq_true, Nat.reduceAdd, Nat.reduceMul, w32_eq, w64_eq, lc_eq, lc_lt, lc_le, lc_gt, lc_ge, up_k, up_i, up_e, Int.toNat_natCast, tn7, tn8, tn12, tn3, tn120, tn1600, w32_and, w32_or, w32_xor, w32_shl, w32_shr, has2_eq] at hcr) <;> (try (exfalso; first | omega | exact hcr rfl | exact hcr trivial | contradiction))))
    (try simp only [Int.toNat_natCast])
    refine two_bnd_r f6 ?_
    refine two_bnd_r has2_eq ?_
    simp only [m34, r6]
    by_cases hs : X 47 c = 1
    · simp only [decide_eq_true hs, ↓reduceIte]
      rw [hs] at f7
      refine two_bnd_r f7 ?_
      exact go
    · simp only [decide_eq_false hs, Bool.false_eq_true, ↓reduceIte]
      have hs0 : X 47 c = 0 := by omega
      rw [hs0] at f7
      refine two_bnd_r f7 ?_
      exact go
  · have e : c = ns := by omega
    subst e
    repeat' (first | with_reducible refine two_lt_l ?_ | (with_reducible refine two_chk_l ?_ ?_; focus ((try simp (disch := omega) only [Bool.false_eq_true, not_true_eq_false, not_false_eq_true, Nat.reduceAdd, Nat.reduceMul, w32_eq, w64_eq, lc_eq, lc_lt, lc_le, lc_gt, lc_ge, up_k, up_i, up_e, Int.toNat_natCast, tn7, tn8, tn12, tn3, tn120, tn1600, w32_and, w32_or, w32_xor, w32_shl, w32_shr, has2_eq, k23]) <;> omega)) | (with_reducible refine two_ite_l (fun hcl => ?_) (fun hcl => ?_) <;> (try simp (disch := omega) only [Bool.false_eq_true, not_true_eq_false, not_false_eq_true, Nat.reduceAdd, Nat.reduceMul, w32_eq, w64_eq, lc_eq, lc_lt, lc_le, lc_gt, lc_ge, up_k, up_i, up_e, Int.toNat_natCast, tn7, tn8, tn12, tn3, tn120, tn1600, w32_and, w32_or, w32_xor, w32_shl, w32_shr, has2_eq, k23] at hcl) <;> (try (exfalso; first | omega | exact hcl rfl | exact hcl trivial | contradiction))))
    repeat' (first | with_reducible refine two_lt_r ?_ | (with_reducible refine two_chk_r ?_ ?_; focus ((try simp (disch := omega) only [Bool.false_eq_true, not_true_eq_false, not_false_eq_true, Nat.reduceAdd, Nat.reduceMul, w32_eq, w64_eq, lc_eq, lc_lt, lc_le, lc_gt, lc_ge, up_k, up_i, up_e, Int.toNat_natCast, tn7, tn8, tn12, tn3, tn120, tn1600, w32_and, w32_or, w32_xor, w32_shl, w32_shr, has2_eq, k0, k2, m2]) <;> omega)) | (with_reducible refine two_ite_r (fun hcr => ?_) (fun hcr => ?_) <;> (try simp (disch := omega) only [Bool.false_eq_true, not_true_eq_false, not_false_eq_true, Nat.reduceAdd, Nat.reduceMul, w32_eq, w64_eq, lc_eq, lc_lt, lc_le, lc_gt, lc_ge, up_k, up_i, up_e, Int.toNat_natCast, tn7, tn8, tn12, tn3, tn120, tn1600, w32_and, w32_or, w32_xor, w32_shl, w32_shr, has2_eq, k0, k2, m2] at hcr) <;> (try (exfalso; first | omega | exact hcr rfl | exact hcr trivial | contradiction))))
    exact two_some hp
