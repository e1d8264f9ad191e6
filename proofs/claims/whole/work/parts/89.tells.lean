/-! THE PURE PART: tells -/
theorem sim_most {nv ns C z m s : Nat} {X M X1 : Mem} (hz : z < 1024) (hC : C ≤ 31) (hm : m < C) (hs : s < ns) (hns : ns ≤ 12) (hnv : nv ≤ 7) (hc : Cells nv ns C 310 X M) (hx : ∀ a, a ≠ 369 → X1 a = X a) :
    ∃ (A : Nat) (X2 : Mem), x_Heard_mostAlike (z : Int) ((m : Int) * 12 + (s : Int)) X1 = some ((A : Int), X2) ∧ (∀ a, a ≠ 369 → X2 a = X a) ∧ m_mostBy (z : Int) (m : Int) (s : Int) M = some (A : Int) ∧ A ≤ 10 := by
  have hcell : ∀ p, p < 10 → CellOk nv (X (359 + p) (12 * m + s)) (M 44 (12 * (31 * p + m) + s)) := fun p hp => hc p m s hp hm hs (by omega)
  have hcx : ∀ p, p < 10 → 0 ≤ X1 (359 + p) (12 * m + s) ∧ X1 (359 + p) (12 * m + s) ≤ 7 := fun p hp => by
    have := hcell p hp
    unfold CellOk at this
    rw [hx _ (by omega)]
    omega
  obtain ⟨⟨r, X2⟩, e1, e2, B, e3, e4, e5, e6⟩ := x_most (z := z) (j := 12 * m + s) (X := X1) hz (by omega) hcx
  obtain ⟨r', f1, A, f2, f3, f4, f5⟩ := m_most (z := z) (m := m) (s := s) (M := M) hz (by omega) (by omega) (fun p hp => by
    have := hcell p hp
    unfold CellOk at this
    omega)
  simp only at e2 e3
  subst e3
  subst f2
  have same : ∀ a, a < 10 → lk z (fun p => X1 (359 + p) (12 * m + s)) (X1 (359 + a) (12 * m + s)) 10 = lk z (fun p => M 44 (12 * (31 * p + m) + s)) (M 44 (12 * (31 * a + m) + s)) 10 := fun a ha => by
    unfold lk
    refine cnt_ext fun p hp => ?_
    have h1 := cell_eq hnv (hcell p hp) (hcell a ha)
    rw [← hx (359 + p) (by omega), ← hx (359 + a) (by omega)] at h1
    rw [Bool.eq_iff_iff, decide_eq_true_eq, decide_eq_true_eq]
    exact ⟨fun q => ⟨q.1, h1.mpr q.2⟩, fun q => ⟨q.1, h1.mp q.2⟩⟩
  have hBA : B = A := by
    apply Nat.le_antisymm
    · rcases e6 with e6 | ⟨w, hw, e6⟩
      · omega
      · by_cases h0 : B = 0
        · omega
        · obtain ⟨a, a1, a2, a3⟩ := lk_pos (z := z) (c := 10) (g := fun p => X1 (359 + p) (12 * m + s)) (w := (w : Int)) (by omega)
          have := f4 a a1 a2
          rw [← same a a1] at this
          rw [← a3] at e6
          have e6' : lk z (fun p => X1 (359 + p) (12 * m + s)) (X1 (359 + a) (12 * m + s)) 10 = B := e6
          omega
    · rcases f5 with f5 | ⟨a, a1, a2, f5⟩
      · omega
      · obtain ⟨u, hu⟩ := Int.eq_ofNat_of_zero_le (hcx a a1).1
        have h8 := (hcx a a1).2
        have := e5 u (by omega)
        have hs2 := same a a1
        rw [hu] at hs2
        omega
  subst hBA
  refine ⟨B, X2, ?_, fun a ha => by rw [e2 a ha, hx a ha], f1, e4⟩
  rw [show (m : Int) * 12 + (s : Int) = ((12 * m + s : Nat) : Int) by omega]
  exact e1
/-- the best so far: none, or a minute and a saying -/
def Tl (a b f best least : Int) : Prop := (a = -1 ∧ b = -1 ∧ f = -1 ∧ best = -1 ∧ least = 100000000) ∨ (∃ m s g : Nat, a = (m : Int) ∧ b = (s : Int) ∧ f = (g : Int) ∧ best = ((12 * m + s : Nat) : Int) ∧ least = (g : Int) ∧ m < 31 ∧ s < 12 ∧ g ≤ 10)
theorem tells_min {nv np ns bk C z m : Nat} {x2 : Int} {X M X1 : Mem} {a b f best least : Int} (hT : RT nv np ns bk X M) (hz : z < 1024) (hC : C ≤ 31) (hm : m < C) (hc : Cells nv ns C 310 X M) (hx : ∀ a, a ≠ 369 → X1 a = X a) (ht : Tl a b f best least) :
    two (itr5 (x_Heard_telling_L32 (z : Int) x2 (C : Int) (m : Int)) FUEL a b f 0 X1) (itr3 (m_tells_L57 x2 (z : Int) (m : Int) M) FUEL best least 0) (fun r q => Tl r.1 r.2.1 r.2.2.1 q.1 q.2.1 ∧ ∀ a, a ≠ 369 → r.2.2.2.2 a = X a) := by
  have hns := hT.1.2.2.2.2
  have hnv := hT.1.2.2.1
  obtain ⟨⟨tb, tb2, tnv, tnp, tns⟩, ⟨x0, x1, x2⟩, ⟨m0, m1, m2⟩, ⟨t3, t3a, t3b⟩, tpit, tper, tsay, trul⟩ := hT
  refine two_itr53 (fun n a b f (i : Int) X1 best least (j : Int) => ∃ c : Nat, i = (c : Int) ∧ j = (c : Int) ∧ c ≤ ns ∧ n = ns - c ∧ Tl a b f best least ∧ ∀ a, a ≠ 369 → X1 a = X a) _ ?_ FUEL ns a b f 0 X1 best least 0 (fuel_lt (by omega)) ⟨0, rfl, rfl, by omega, rfl, ht, hx⟩
  rintro n a b f i X1 best least j ⟨c, rfl, rfl, hcn, rfl, ht, hx⟩ F G ih
  unfold x_Heard_telling_L32 x_Heard_telling_L32_B72 m_tells_L57
  have e2 : X1 23 2 = (ns : Int) := by rw [hx 23 (by omega)]; exact x2
  by_cases h : c < ns
  · obtain ⟨A, X2, g1, g2, g3, g4⟩ := sim_most (z := z) (m := m) (s := c) hz hC hm h hns hnv hc hx
    repeat' (first | with_reducible refine two_lt_l ?_ | (with_reducible refine two_chk_l ?_ ?_; focus ((try simp (disch := omega) only [Bool.false_eq_true, not_true_eq_false, not_false_eq_true, Nat.reduceAdd, Nat.reduceMul, w32_eq, w64_eq, lc_eq, lc_lt, lc_le, lc_gt, lc_ge, up_k, up_i, up_e, Int.toNat_natCast, tn7, tn8, tn12, tn3, tn120, tn1600, w32_and, w32_or, w32_xor, w32_shl, w32_shr, has2_eq, e2]) <;> omega)) | (with_reducible refine two_ite_l (fun hcl => ?_) (fun hcl => ?_) <;> (try simp (disch := omega) only [Bool.false_eq_true, not_true_eq_false, not_false_eq_true, Nat.reduceAdd, Nat.reduceMul, w32_eq, w64_eq, lc_eq, lc_lt, lc_le, lc_gt, lc_ge, up_k, up_i, up_e, Int.toNat_natCast, tn7, tn8, tn12, tn3, tn120, tn1600, w32_and, w32_or, w32_xor, w32_shl, w32_shr, has2_eq, e2] at hcl) <;> (try (exfalso; first | omega | exact hcl rfl | exact hcl trivial | contradiction))))
    refine two_bnd2_l g1 ?_
    repeat' (first | with_reducible refine two_lt_r ?_ | (with_reducible refine two_chk_r ?_ ?_; focus ((try simp (disch := omega) only [Bool.false_eq_true, not_true_eq_false, not_false_eq_true, Nat.reduceAdd, Nat.reduceMul, w32_eq, w64_eq, lc_eq, lc_lt, lc_le, lc_gt, lc_ge, up_k, up_i, up_e, Int.toNat_natCast, tn7, tn8, tn12, tn3, tn120, tn1600, w32_and, w32_or, w32_xor, w32_shl, w32_shr, has2_eq, tb, m2]) <;> omega)) | (with_reducible refine two_ite_r (fun hcr => ?_) (fun hcr => ?_) <;> (try simp (disch := omega) only [Bool.false_eq_true, not_true_eq_false, not_false_eq_true, Nat.reduceAdd, Nat.reduceMul, w32_eq, w64_eq, lc_eq, lc_lt, lc_le, lc_gt, lc_ge, up_k, up_i, up_e, Int.toNat_natCast, tn7, tn8, tn12, tn3, tn120, tn1600, w32_and, w32_or, w32_xor, w32_shl, w32_shr, has2_eq, tb, m2] at hcr) <;> (try (exfalso; first | omega | exact hcr rfl | exact hcr trivial | contradiction))))
    refine two_bnd_r g3 ?_
    have new : Tl (m : Int) (c : Int) (A : Int) (12 * (m : Int) + (c : Int)) (A : Int) := Or.inr ⟨m, c, A, rfl, rfl, rfl, by omega, rfl, by omega, by omega, g4⟩
    have fin : ∀ a' b' f' be' le', Tl a' b' f' be' le' → two (F a' b' f' ((c : Int) + 1) X2) (G be' le' ((c : Int) + 1)) (fun r q => Tl r.1 r.2.1 r.2.2.1 q.1 q.2.1 ∧ ∀ a, a ≠ 369 → r.2.2.2.2 a = X a) := fun a' b' f' be' le' h' =>
      ih (ns - (c + 1)) _ _ _ _ _ _ _ _ (by omega) ⟨c + 1, rfl, rfl, by omega, rfl, h', g2⟩
    rcases ht with ⟨rfl, rfl, rfl, rfl, rfl⟩ | ⟨m', s', g', rfl, rfl, rfl, rfl, rfl, k1, k2, k3⟩
    · repeat' (first | with_reducible refine two_lt_l ?_ | (with_reducible refine two_chk_l ?_ ?_; focus ((try simp (disch := omega) only [Bool.false_eq_true, not_true_eq_false, not_false_eq_true, Nat.reduceAdd, Nat.reduceMul, w32_eq, w64_eq, lc_eq, lc_lt, lc_le, lc_gt, lc_ge, up_k, up_i, up_e, Int.toNat_natCast, tn7, tn8, tn12, tn3, tn120, tn1600, w32_and, w32_or, w32_xor, w32_shl, w32_shr, has2_eq]) <;> omega)) | (with_reducible refine two_ite_l (fun hcl => ?_) (fun hcl => ?_) <;> (try simp (disch := omega) only [Bool.false_eq_true, not_true_eq_false, not_false_eq_true, Nat.reduceAdd, Nat.reduceMul, w32_eq, w64_eq, lc_eq, lc_lt, lc_le, lc_gt, lc_ge, up_k, up_i, up_e, Int.toNat_natCast, tn7, tn8, tn12, tn3, tn120, tn1600, w32_and, w32_or, w32_xor, w32_shl, w32_shr, has2_eq] at hcl) <;> (try (exfalso; first | omega | exact hcl rfl | exact hcl trivial | contradiction))))
      repeat' (first | with_reducible refine two_lt_r ?_ | (with_reducible refine two_chk_r ?_ ?_; focus ((try simp (disch := omega) only [Bool.false_eq_true, not_true_eq_false, not_false_eq_true, Nat.reduceAdd, Nat.reduceMul, w32_eq, w64_eq, lc_eq, lc_lt, lc_le, lc_gt, lc_ge, up_k, up_i, up_e, Int.toNat_natCast, tn7, tn8, tn12, tn3, tn120, tn1600, w32_and, w32_or, w32_xor, w32_shl, w32_shr, has2_eq]) <;> omega)) | (with_reducible refine two_ite_r (fun hcr => ?_) (fun hcr => ?_) <;> (try simp (disch := omega) only [Bool.false_eq_true, not_true_eq_false, not_false_eq_true, Nat.reduceAdd, Nat.reduceMul, w32_eq, w64_eq, lc_eq, lc_lt, lc_le, lc_gt, lc_ge, up_k, up_i, up_e, Int.toNat_natCast, tn7, tn8, tn12, tn3, tn120, tn1600, w32_and, w32_or, w32_xor, w32_shl, w32_shr, has2_eq] at hcr) <;> (try (exfalso; first | omega | exact hcr rfl | exact hcr trivial | contradiction))))
      exact fin _ _ _ _ _ new
    · repeat' (first | with_reducible refine two_lt_l ?_ | (with_reducible refine two_chk_l ?_ ?_; focus ((try simp (disch := omega) only [Bool.false_eq_true, not_true_eq_false, not_false_eq_true, Nat.reduceAdd, Nat.reduceMul, w32_eq, w64_eq, lc_eq, lc_lt, lc_le, lc_gt, lc_ge, up_k, up_i, up_e, Int.toNat_natCast, tn7, tn8, tn12, tn3, tn120, tn1600, w32_and, w32_or, w32_xor, w32_shl, w32_shr, has2_eq]) <;> omega)) | (with_reducible refine two_ite_l (fun hcl => ?_) (fun hcl => ?_) <;> (try simp (disch := omega) only [Bool.false_eq_true, not_true_eq_false, not_false_eq_true, Nat.reduceAdd, Nat.reduceMul, w32_eq, w64_eq, lc_eq, lc_lt, lc_le, lc_gt, lc_ge, up_k, up_i, up_e, Int.toNat_natCast, tn7, tn8, tn12, tn3, tn120, tn1600, w32_and, w32_or, w32_xor, w32_shl, w32_shr, has2_eq] at hcl) <;> (try (exfalso; first | omega | exact hcl rfl | exact hcl trivial | contradiction))))
      · repeat' (first | with_reducible refine two_lt_r ?_ | (with_reducible refine two_chk_r ?_ ?_; focus ((try simp (disch := omega) only [Bool.false_eq_true, not_true_eq_false, not_false_eq_true, Nat.reduceAdd, Nat.reduceMul, w32_eq, w64_eq, lc_eq, lc_lt, lc_le, lc_gt, lc_ge, up_k, up_i, up_e, Int.toNat_natCast, tn7, tn8, tn12, tn3, tn120, tn1600, w32_and, w32_or, w32_xor, w32_shl, w32_shr, has2_eq]) <;> omega)) | (with_reducible refine two_ite_r (fun hcr => ?_) (fun hcr => ?_) <;> (try simp (disch := omega) only [Bool.false_eq_true, not_true_eq_false, not_false_eq_true, Nat.reduceAdd, Nat.reduceMul, w32_eq, w64_eq, lc_eq, lc_lt, lc_le, lc_gt, lc_ge, up_k, up_i, up_e, Int.toNat_natCast, tn7, tn8, tn12, tn3, tn120, tn1600, w32_and, w32_or, w32_xor, w32_shl, w32_shr, has2_eq] at hcr) <;> (try (exfalso; first | omega | exact hcr rfl | exact hcr trivial | contradiction))))
        exact fin _ _ _ _ _ (Or.inr ⟨m', s', g', rfl, rfl, rfl, rfl, rfl, k1, k2, k3⟩)
      · repeat' (first | with_reducible refine two_lt_r ?_ | (with_reducible refine two_chk_r ?_ ?_; focus ((try simp (disch := omega) only [Bool.false_eq_true, not_true_eq_false, not_false_eq_true, Nat.reduceAdd, Nat.reduceMul, w32_eq, w64_eq, lc_eq, lc_lt, lc_le, lc_gt, lc_ge, up_k, up_i, up_e, Int.toNat_natCast, tn7, tn8, tn12, tn3, tn120, tn1600, w32_and, w32_or, w32_xor, w32_shl, w32_shr, has2_eq]) <;> omega)) | (with_reducible refine two_ite_r (fun hcr => ?_) (fun hcr => ?_) <;> (try simp (disch := omega) only [Bool.false_eq_true, not_true_eq_false, not_false_eq_true, Nat.reduceAdd, Nat.reduceMul, w32_eq, w64_eq, lc_eq, lc_lt, lc_le, lc_gt, lc_ge, up_k, up_i, up_e, Int.toNat_natCast, tn7, tn8, tn12, tn3, tn120, tn1600, w32_and, w32_or, w32_xor, w32_shl, w32_shr, has2_eq] at hcr) <;> (try (exfalso; first | omega | exact hcr rfl | exact hcr trivial | contradiction))))
        exact fin _ _ _ _ _ new
  · have e : c = ns := by omega
    subst e
    repeat' (first | with_reducible refine two_lt_l ?_ | (with_reducible refine two_chk_l ?_ ?_; focus ((try simp (disch := omega) only [Bool.false_eq_true, not_true_eq_false, not_false_eq_true, Nat.reduceAdd, Nat.reduceMul, w32_eq, w64_eq, lc_eq, lc_lt, lc_le, lc_gt, lc_ge, up_k, up_i, up_e, Int.toNat_natCast, tn7, tn8, tn12, tn3, tn120, tn1600, w32_and, w32_or, w32_xor, w32_shl, w32_shr, has2_eq, e2]) <;> omega)) | (with_reducible refine two_ite_l (fun hcl => ?_) (fun hcl => ?_) <;> (try simp (disch := omega) only [Bool.false_eq_true, not_true_eq_false, not_false_eq_true, Nat.reduceAdd, Nat.reduceMul, w32_eq, w64_eq, lc_eq, lc_lt, lc_le, lc_gt, lc_ge, up_k, up_i, up_e, Int.toNat_natCast, tn7, tn8, tn12, tn3, tn120, tn1600, w32_and, w32_or, w32_xor, w32_shl, w32_shr, has2_eq, e2] at hcl) <;> (try (exfalso; first | omega | exact hcl rfl | exact hcl trivial | contradiction))))
    repeat' (first | with_reducible refine two_lt_r ?_ | (with_reducible refine two_chk_r ?_ ?_; focus ((try simp (disch := omega) only [Bool.false_eq_true, not_true_eq_false, not_false_eq_true, Nat.reduceAdd, Nat.reduceMul, w32_eq, w64_eq, lc_eq, lc_lt, lc_le, lc_gt, lc_ge, up_k, up_i, up_e, Int.toNat_natCast, tn7, tn8, tn12, tn3, tn120, tn1600, w32_and, w32_or, w32_xor, w32_shl, w32_shr, has2_eq, tb, m2]) <;> omega)) | (with_reducible refine two_ite_r (fun hcr => ?_) (fun hcr => ?_) <;> (try simp (disch := omega) only [Bool.false_eq_true, not_true_eq_false, not_false_eq_true, Nat.reduceAdd, Nat.reduceMul, w32_eq, w64_eq, lc_eq, lc_lt, lc_le, lc_gt, lc_ge, up_k, up_i, up_e, Int.toNat_natCast, tn7, tn8, tn12, tn3, tn120, tn1600, w32_and, w32_or, w32_xor, w32_shl, w32_shr, has2_eq, tb, m2] at hcr) <;> (try (exfalso; first | omega | exact hcr rfl | exact hcr trivial | contradiction))))
    exact two_some ⟨ht, hx⟩
theorem tells_all {nv np ns bk k C z : Nat} {x2 : Int} {X M X0 M0 : Mem} (hR : RAll nv np ns bk k X M) (hxq : QX X X0) (hmq : QM M M0) (hz : z < 1024) (hz0 : z ≠ 0) (hC : C ≤ 31) (hCm : X 38 13 + C ≤ 999) (hCx : C = 31 ∨ X 38 13 + C = 999) (hc : Cells nv ns C 310 X0 M0) :
    two (itr5 (x_Heard_telling_L23 (z : Int) x2 (C : Int)) FUEL (-1) (-1) (-1) 0 X0) (itr3 (m_tells_L36 x2 (z : Int) M0) FUEL (-1) 100000000 0) (fun r q => Tl r.1 r.2.1 r.2.2.1 q.1 q.2.1 ∧ ∀ a, a ≠ 369 → r.2.2.2.2 a = X0 a) := by
  have hR0 := RAll_q hR hxq hmq
  have hm13 : 0 ≤ X 38 13 := hR.2.2.1.2.2.2.2.2.2.2.2.2.2.2.2.1.1
  refine two_itr53 (fun n a b f (i : Int) X1 best least (j : Int) => ∃ c : Nat, i = (c : Int) ∧ j = (c : Int) ∧ c ≤ C ∧ n = C - c ∧ Tl a b f best least ∧ ∀ a, a ≠ 369 → X1 a = X0 a) _ ?_ FUEL C (-1) (-1) (-1) 0 X0 (-1) 100000000 0 (fuel_lt (by omega)) ⟨0, rfl, rfl, by omega, rfl, Or.inl ⟨rfl, rfl, rfl, rfl, rfl⟩, fun _ _ => rfl⟩
  rintro n a b f i X1 best least j ⟨c, rfl, rfl, hcn, rfl, ht, hx⟩ F G ih
  have hcm := (xm_comes (a := (c : Int) + 1) (b := 1) (c := 31) hR0 (by omega) (by omega) (by omega)).2
  rw [hxq 38 (by omega) (by omega) (by omega) (by omega) (by omega)] at hcm
  unfold x_Heard_telling_L23 m_tells_L36
  refine two_bnd_r hcm ?_
  by_cases h : c < C
  · rw [decide_eq_true (show 1 ≤ (c : Int) + 1 ∧ (c : Int) + 1 ≤ 31 ∧ X 38 13 + ((c : Int) + 1) ≤ 999 by omega), if_pos rfl]
    repeat' (first | with_reducible refine two_lt_l ?_ | (with_reducible refine two_chk_l ?_ ?_; focus ((try simp (disch := omega) only [Bool.false_eq_true, not_true_eq_false, not_false_eq_true, Nat.reduceAdd, Nat.reduceMul, w32_eq, w64_eq, lc_eq, lc_lt, lc_le, lc_gt, lc_ge, up_k, up_i, up_e, Int.toNat_natCast, tn7, tn8, tn12, tn3, tn120, tn1600, w32_and, w32_or, w32_xor, w32_shl, w32_shr, has2_eq]) <;> omega)) | (with_reducible refine two_ite_l (fun hcl => ?_) (fun hcl => ?_) <;> (try simp (disch := omega) only [Bool.false_eq_true, not_true_eq_false, not_false_eq_true, Nat.reduceAdd, Nat.reduceMul, w32_eq, w64_eq, lc_eq, lc_lt, lc_le, lc_gt, lc_ge, up_k, up_i, up_e, Int.toNat_natCast, tn7, tn8, tn12, tn3, tn120, tn1600, w32_and, w32_or, w32_xor, w32_shl, w32_shr, has2_eq] at hcl) <;> (try (exfalso; first | omega | exact hcl rfl | exact hcl trivial | contradiction))))
    repeat' (first | with_reducible refine two_lt_r ?_ | (with_reducible refine two_chk_r ?_ ?_; focus ((try simp (disch := omega) only [Bool.false_eq_true, not_true_eq_false, not_false_eq_true, Nat.reduceAdd, Nat.reduceMul, w32_eq, w64_eq, lc_eq, lc_lt, lc_le, lc_gt, lc_ge, up_k, up_i, up_e, Int.toNat_natCast, tn7, tn8, tn12, tn3, tn120, tn1600, w32_and, w32_or, w32_xor, w32_shl, w32_shr, has2_eq]) <;> omega)) | (with_reducible refine two_ite_r (fun hcr => ?_) (fun hcr => ?_) <;> (try simp (disch := omega) only [Bool.false_eq_true, not_true_eq_false, not_false_eq_true, Nat.reduceAdd, Nat.reduceMul, w32_eq, w64_eq, lc_eq, lc_lt, lc_le, lc_gt, lc_ge, up_k, up_i, up_e, Int.toNat_natCast, tn7, tn8, tn12, tn3, tn120, tn1600, w32_and, w32_or, w32_xor, w32_shl, w32_shr, has2_eq] at hcr) <;> (try (exfalso; first | omega | exact hcr rfl | exact hcr trivial | contradiction))))
    refine two_bnd (tells_min hR0.1 hz hC h hc hx ht) ?_
    rintro ⟨a1, b1, f1, i1, X2⟩ ⟨best1, least1, j1⟩ ⟨g1, g2⟩
    simp only at g1 g2
    refine two_lt_l ?_
    refine two_lt_r ?_
    exact ih (C - (c + 1)) _ _ _ _ _ _ _ _ (by omega) ⟨c + 1, rfl, rfl, by omega, rfl, g1, g2⟩
  · have e : c = C := by omega
    subst e
    rw [decide_eq_false (by omega), if_neg (show ¬ (false = true) from Bool.false_ne_true)]
    repeat' (first | with_reducible refine two_lt_l ?_ | (with_reducible refine two_chk_l ?_ ?_; focus ((try simp (disch := omega) only [Bool.false_eq_true, not_true_eq_false, not_false_eq_true, Nat.reduceAdd, Nat.reduceMul, w32_eq, w64_eq, lc_eq, lc_lt, lc_le, lc_gt, lc_ge, up_k, up_i, up_e, Int.toNat_natCast, tn7, tn8, tn12, tn3, tn120, tn1600, w32_and, w32_or, w32_xor, w32_shl, w32_shr, has2_eq]) <;> omega)) | (with_reducible refine two_ite_l (fun hcl => ?_) (fun hcl => ?_) <;> (try simp (disch := omega) only [Bool.false_eq_true, not_true_eq_false, not_false_eq_true, Nat.reduceAdd, Nat.reduceMul, w32_eq, w64_eq, lc_eq, lc_lt, lc_le, lc_gt, lc_ge, up_k, up_i, up_e, Int.toNat_natCast, tn7, tn8, tn12, tn3, tn120, tn1600, w32_and, w32_or, w32_xor, w32_shl, w32_shr, has2_eq] at hcl) <;> (try (exfalso; first | omega | exact hcl rfl | exact hcl trivial | contradiction))))
    exact two_some ⟨ht, hx⟩
theorem ls_tells : LS_tells RR := by
  rintro k X M a1 a2 hk h1 h2 ⟨nv, np, ns, bk, hR⟩
  apply ls_of
  unfold i32 at h1 h2
  obtain ⟨e1, f1⟩ := xm_isVoice hR.1 h1
  have f2 := m_is_eq (a := a2) (b := 0) (c := 2) h2 (by omega) (by omega)
  have done : ∀ r : Int, two (some (r, X)) (some (r, M)) (fun p q => w32 p.1 = w32 q.1 ∧ RR (k + 1) p.2 q.2) := fun r => two_some ⟨rfl, nv, np, ns, bk, RAll_up hR⟩
  unfold x_X_tells m_tells
  refine two_bnd_l e1 ?_
  refine two_bnd_r f1 ?_
  by_cases c1 : 0 ≤ a1 ∧ a1 < (nv : Int)
  · simp only [decide_eq_true c1, ↓reduceIte]
    obtain ⟨v, rfl⟩ := Int.eq_ofNat_of_zero_le c1.1
    rw [f2, bnd_some]
    by_cases c2 : 0 ≤ a2 ∧ a2 ≤ 2
    · simp only [decide_eq_true c2, ↓reduceIte]
      repeat' (first | with_reducible refine two_lt_l ?_ | (with_reducible refine two_chk_l ?_ ?_; focus ((try simp (disch := omega) only [Bool.false_eq_true, not_true_eq_false, not_false_eq_true, Nat.reduceAdd, Nat.reduceMul, w32_eq, w64_eq, lc_eq, lc_lt, lc_le, lc_gt, lc_ge, up_k, up_i, up_e, Int.toNat_natCast, tn7, tn8, tn12, tn3, tn120, tn1600, w32_and, w32_or, w32_xor, w32_shl, w32_shr, has2_eq]) <;> omega)) | (with_reducible refine two_ite_l (fun hcl => ?_) (fun hcl => ?_) <;> (try simp (disch := omega) only [Bool.false_eq_true, not_true_eq_false, not_false_eq_true, Nat.reduceAdd, Nat.reduceMul, w32_eq, w64_eq, lc_eq, lc_lt, lc_le, lc_gt, lc_ge, up_k, up_i, up_e, Int.toNat_natCast, tn7, tn8, tn12, tn3, tn120, tn1600, w32_and, w32_or, w32_xor, w32_shl, w32_shr, has2_eq] at hcl) <;> (try (exfalso; first | omega | exact hcl rfl | exact hcl trivial | contradiction))))
      obtain ⟨⟨r, X1⟩, ⟨q, M1⟩, g1, g2, z, C, g3, g4, g5, g6, g7, g8, g9, g10, g11⟩ := sim_watch hR (v := v) (by omega)
      simp only at g3 g4 g9 g10
      subst g3
      subst g4
      refine two_bnd2_l g1 ?_
      refine two_bnd2_r g2 ?_
      have hm13 : 0 ≤ X 38 13 ∧ X 38 13 ≤ 999 := hR.2.2.1.2.2.2.2.2.2.2.2.2.2.2.2.1
      have hmin : x_Heard_minutesComing X1 = some (C : Int) := by
        unfold x_Heard_minutesComing
        rw [g9 38 (by omega) (by omega) (by omega) (by omega) (by omega), xmin (by omega) (by omega), bnd_some]
        congr 1
        split <;> omega
      unfold x_Heard_telling
      by_cases hz0 : z = 0
      · subst hz0
        have hf : itr3 (m_tells_L36 a2 ((0 : Nat) : Int) M1) FUEL (-1) 100000000 0 = some (-1, 100000000, 0) := by
          have : post (itr3 (m_tells_L36 a2 ((0 : Nat) : Int) M1) FUEL (-1) 100000000 0) (fun r => r = (-1, 100000000, 0)) := by
            refine post_itr3 (fun n a b c => a = -1 ∧ b = 100000000 ∧ c = 0) _ ?_ FUEL 0 _ _ _ (fuel_lt (by omega)) ⟨rfl, rfl, rfl⟩
            rintro n a b c ⟨rfl, rfl, rfl⟩ F ih
            have hcm := (xm_comes (a := (0 : Int) + 1) (b := 1) (c := 31) (RAll_q hR g9 g10) (by omega) (by omega) (by omega)).2
            unfold m_tells_L36
            refine post_bnde hcm ?_
            split
            · rw [if_pos (by simp [w32_0])]
              exact post_some rfl
            · exact post_some rfl
          obtain ⟨_, e, rfl⟩ := this
          exact e
        rw [hf]
        simp only [bnd_some]
        rw [if_neg (by simp [w32_0]), bnd2_some]
        repeat' (first | with_reducible refine two_lt_r ?_ | (with_reducible refine two_chk_r ?_ ?_; focus ((try simp (disch := omega) only [Bool.false_eq_true, not_true_eq_false, not_false_eq_true, Nat.reduceAdd, Nat.reduceMul, w32_eq, w64_eq, lc_eq, lc_lt, lc_le, lc_gt, lc_ge, up_k, up_i, up_e, Int.toNat_natCast, tn7, tn8, tn12, tn3, tn120, tn1600, w32_and, w32_or, w32_xor, w32_shl, w32_shr, has2_eq]) <;> omega)) | (with_reducible refine two_ite_r (fun hcr => ?_) (fun hcr => ?_) <;> (try simp (disch := omega) only [Bool.false_eq_true, not_true_eq_false, not_false_eq_true, Nat.reduceAdd, Nat.reduceMul, w32_eq, w64_eq, lc_eq, lc_lt, lc_le, lc_gt, lc_ge, up_k, up_i, up_e, Int.toNat_natCast, tn7, tn8, tn12, tn3, tn120, tn1600, w32_and, w32_or, w32_xor, w32_shl, w32_shr, has2_eq] at hcr) <;> (try (exfalso; first | omega | exact hcr rfl | exact hcr trivial | contradiction))))
        exact two_some ⟨rfl, nv, np, ns, bk, RAll_up (RAll_q hR g9 g10)⟩
      · obtain ⟨⟨a, b, f, i, X2⟩, ⟨best, least, j⟩, k1, k2, k3, k4⟩ := tells_all (x2 := a2) hR g9 g10 g5 hz0 g6 g7 g8 g11
        simp only at k3 k4
        have hx2 : QX X X2 := fun a q1 q2 q3 q4 q5 => by rw [k4 a (by omega)]; exact g9 a q1 q2 q3 q4 q5
        have hfin := RAll_up (RAll_q hR hx2 g10)
        rw [if_pos (by rw [w32_eq (by omega) (by omega)]; omega), hmin, bnd_some, k1, bnd_some, k2, bnd_some]
        simp only
        have h3 : a2 = 0 ∨ a2 = 1 ∨ a2 = 2 := by omega
        have c12 : chk (w32 12 ≠ 0) = (fun k : Option (Int × Mem) => k) := by funext k; exact chk_p (by rw [w32_eq (by omega) (by omega)]; omega)
        rcases k3 with ⟨rfl, rfl, rfl, rfl, rfl⟩ | ⟨m', s', g', rfl, rfl, rfl, rfl, rfl, q1, q2, q3⟩
        · rcases h3 with rfl | rfl | rfl
          all_goals
            simp (disch := omega) only [w32_eq, not_true_eq_false, not_false_eq_true, ↓reduceIte, Int.reduceEq, bnd2_some]
            exact two_some ⟨rfl, nv, np, ns, bk, hfin⟩
        · have d1 : ((12 * m' + s' : Nat) : Int).tdiv 12 = (m' : Int) := by rw [Int.tdiv_eq_ediv_of_nonneg (by omega)]; omega
          have d2 : ((12 * m' + s' : Nat) : Int).tmod 12 = (s' : Int) := by rw [Int.tmod_eq_emod_of_nonneg (by omega)]; omega
          have hne : ¬ ((12 * m' + s' : Nat) : Int) = -1 := by omega
          rcases h3 with rfl | rfl | rfl
          all_goals
            simp (disch := omega) only [w32_eq, hne, not_true_eq_false, not_false_eq_true, ↓reduceIte, Int.reduceEq, bnd2_some, c12, d1, d2]
            exact two_some ⟨rfl, nv, np, ns, bk, hfin⟩
    · simp only [decide_eq_false c2, Bool.false_eq_true, ↓reduceIte]
      repeat' (first | with_reducible refine two_lt_l ?_ | (with_reducible refine two_chk_l ?_ ?_; focus ((try simp (disch := omega) only [Bool.false_eq_true, not_true_eq_false, not_false_eq_true, Nat.reduceAdd, Nat.reduceMul, w32_eq, w64_eq, lc_eq, lc_lt, lc_le, lc_gt, lc_ge, up_k, up_i, up_e, Int.toNat_natCast, tn7, tn8, tn12, tn3, tn120, tn1600, w32_and, w32_or, w32_xor, w32_shl, w32_shr, has2_eq]) <;> omega)) | (with_reducible refine two_ite_l (fun hcl => ?_) (fun hcl => ?_) <;> (try simp (disch := omega) only [Bool.false_eq_true, not_true_eq_false, not_false_eq_true, Nat.reduceAdd, Nat.reduceMul, w32_eq, w64_eq, lc_eq, lc_lt, lc_le, lc_gt, lc_ge, up_k, up_i, up_e, Int.toNat_natCast, tn7, tn8, tn12, tn3, tn120, tn1600, w32_and, w32_or, w32_xor, w32_shl, w32_shr, has2_eq] at hcl) <;> (try (exfalso; first | omega | exact hcl rfl | exact hcl trivial | contradiction))))
      all_goals exact done _
  · simp only [decide_eq_false c1, Bool.false_eq_true, ↓reduceIte]
    exact done _
