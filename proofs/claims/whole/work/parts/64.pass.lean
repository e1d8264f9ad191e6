/-! THE PURE PART: copies side by side, minutes on end -/
theorem SI_move {nv ns th o : Nat} {X X1 : Mem} (hI : SI nv ns o X) (hnv : nv ≤ 7) (hns : ns ≤ 12) (h1 : ∀ j, j < 7 → X1 (th + 1) j = X (o + 1) j ∧ X1 (th + 2) j = X (o + 2) j ∧ X1 (th + 3) j = X (o + 3) j)
    (h2 : ∀ j, j < 12 → X1 (th + 4) j = X (o + 4) j ∧ X1 (th + 5) j = X (o + 5) j ∧ X1 (th + 6) j = X (o + 6) j ∧ X1 (th + 7) j = X (o + 7) j ∧ X1 (th + 8) j = X (o + 8) j ∧ X1 (th + 9) j = X (o + 9) j ∧ X1 (th + 10) j = X (o + 10) j ∧ X1 (th + 11) j = X (o + 11) j ∧ X1 (th + 12) j = X (o + 12) j)
    (h3 : X1 th 12 = X o 12) (h4 : X1 th 13 = X o 13) : SI nv ns th X1 := by
  obtain ⟨ip, is, ib, iw, id, it, iv, il, ix, isnd, inm, iin, im, ik⟩ := hI
  refine ⟨?_, ?_, ?_, ?_, ?_, ?_, ?_, ?_, ?_, ?_, ?_, ?_, ?_, ?_⟩
  · intro j hj; rw [(h1 j (by omega)).1]; exact ip j hj
  · intro j hj; rw [(h1 j (by omega)).2.1]; exact is j hj
  · intro j hj; rw [(h1 j (by omega)).2.2]; exact ib j hj
  · intro j hj; rw [(h2 j (by omega)).1]; exact iw j hj
  · intro j hj; rw [(h2 j (by omega)).2.1]; exact id j hj
  · intro j hj; rw [(h2 j (by omega)).2.2.1]; exact it j hj
  · intro j hj; rw [(h2 j (by omega)).2.2.2.1]; exact iv j hj
  · intro j hj; rw [(h2 j (by omega)).2.2.2.2.1]; exact il j hj
  · intro j hj; rw [(h2 j (by omega)).2.2.2.2.2.1]; exact ix j hj
  · intro j hj; rw [(h2 j (by omega)).1, (h2 j (by omega)).2.2.2.1, (h2 j (by omega)).2.2.2.2.1]
    intro hw
    have := iv j hj
    obtain ⟨q1, q2, q3⟩ := isnd j hj hw
    rw [(h1 (X (o + 7) j).toNat (by omega)).2.1]
    exact ⟨q1, q2, q3⟩
  · intro j hj; rw [(h2 j (by omega)).1, (h2 j (by omega)).2.2.2.2.2.1]; exact inm j hj
  · intro j t hj ht; rw [(h2 j (by omega)).1, (h2 t (by omega)).1, (h2 j (by omega)).2.2.2.1, (h2 t (by omega)).2.2.2.1]; exact iin j t hj ht
  · rw [h4]; exact im
  · rw [h3]
    have : cnt (fun j => decide (3 ≤ X1 (th + 4) j)) ns = cnt (fun j => decide (3 ≤ X (o + 4) j)) ns := cnt_ext (fun j hj => by rw [(h2 j (by omega)).1])
    rw [this]; exact ik
/-- a state copied -/
def Copied (ns th o : Nat) (X X1 : Mem) : Prop := (∀ j, j < 7 → X1 (th + 1) j = X (o + 1) j ∧ X1 (th + 2) j = X (o + 2) j ∧ X1 (th + 3) j = X (o + 3) j) ∧ (∀ j, j < ns → X1 (th + 4) j = X (o + 4) j ∧ X1 (th + 7) j = X (o + 7) j ∧ X1 (th + 9) j = X (o + 9) j) ∧ X1 th 13 = X o 13
theorem cw_copied {ns th o : Nat} {k : Int} {X X1 : Mem} (h : Copied ns th o X X1) : cw ns th X1 k = cw ns o X k := cnt_ext (fun j hj => by rw [(h.2.1 j hj).1])
theorem sim_copy {nv ns th o to fr : Nat} {X M : Mem} (hnv : nv ≤ 7) (hns : ns ≤ 12) (hS : RS nv ns o fr X M) (hI : SI nv ns o X) (hd : th + 12 < o ∨ o + 12 < th) (ht : to < 22) (hf : fr < 22) (hne : to ≠ fr) :
    two (x_State_copyFrom th o X) (m_copies (to : Int) (fr : Int) M) (fun X1 M1 => RS nv ns th to X1 M1 ∧ SI nv ns th X1 ∧ (∀ a, (a < th ∨ th + 12 < a) → X1 a = X a) ∧ FMt to M M1 ∧ Copied ns th o X X1) := by
  obtain ⟨X1, e1, h1, h2, h3, h4, h5⟩ := x_copy (X := X) hd
  have hk := SI_kept2 hI hns
  have hS' := hS
  obtain ⟨rp, rs, rb, rw, rd, rt, rv, rl, rx, rk, rm, rk1, rk2, rk3, rz1, rz2⟩ := hS
  obtain ⟨M1, f1, g1, g2, g3, g4, g5, g6, g7, g8⟩ := m_copy (M := M) ht hf hne (by omega)
  have g7' : ∀ j : Nat, (j : Int) < X o 12 → ∀ z, z < 3 → M1 36 (120 * to + (3 * j + z)) = M 36 (120 * fr + (3 * j + z)) := fun j hj z hz => g7 (3 * j + z) (by omega)
  refine ⟨X1, M1, e1, f1, ⟨?_, ?_, ?_, ?_, ?_, ?_, ?_, ?_, ?_, ?_, ?_, ?_, ?_, ?_, ?_, ?_⟩, SI_move hI hnv hns h1 h2 h3 h4, h5, g8, ⟨h1, fun j hj => ⟨(h2 j (by omega)).1, (h2 j (by omega)).2.2.2.1, (h2 j (by omega)).2.2.2.2.2.1⟩, h4⟩⟩
  · intro j hj; rw [(g1 j (by omega)).1, (h1 j (by omega)).1]; exact rp j hj
  · intro j hj; rw [g4, (h1 j (by omega)).2.1]; exact rs j hj
  · intro j hj; rw [(g1 j (by omega)).2, (h1 j (by omega)).2.2]; exact rb j hj
  · intro j hj; rw [(g2 j (by omega)).1, (h2 j (by omega)).1]; exact rw j hj
  · intro j hj; rw [(g2 j (by omega)).2.1, (h2 j (by omega)).2.1]; exact rd j hj
  · intro j hj; rw [(g2 j (by omega)).2.2.1, (h2 j (by omega)).2.2.1]; exact rt j hj
  · intro j hj; rw [(g2 j (by omega)).2.2.2.1, (h2 j (by omega)).2.2.2.1]; exact rv j hj
  · intro j hj; rw [(g2 j (by omega)).2.2.2.2, (h2 j (by omega)).2.2.2.2.1]; exact rl j hj
  · intro j hj; rw [g5, (h2 j (by omega)).2.2.2.2.2.1]; exact rx j hj
  · rw [g6, h3]; exact rk
  · rw [g3, h4]; exact rm
  · intro j hj; rw [h3] at hj; rw [show 120 * to + 3 * j = 120 * to + (3 * j + 0) by omega, g7' j hj 0 (by omega), (h2 j (by omega)).2.2.2.2.2.2.1]; exact rk1 j hj
  · intro j hj; rw [h3] at hj; rw [show 120 * to + 3 * j + 1 = 120 * to + (3 * j + 1) by omega, g7' j hj 1 (by omega), (h2 j (by omega)).2.2.2.2.2.2.2.1]; exact rk2 j hj
  · intro j hj; rw [h3] at hj; rw [show 120 * to + 3 * j + 2 = 120 * to + (3 * j + 2) by omega, g7' j hj 2 (by omega), (h2 j (by omega)).2.2.2.2.2.2.2.2]; exact rk3 j hj
  · rw [g4]; exact rz1
  · rw [g5]; exact rz2
def PassInv (nv ns th v c h d : Nat) (X M X1 M1 : Mem) : Prop := RS nv ns th v X1 M1 ∧ SI nv ns th X1 ∧ FXt th X X1 ∧ FMt v M M1 ∧ Sem ns th h d X X1 ∧ X1 th 13 = X th 13 + c
theorem PassInv_step {nv ns th v c h d h1 d1 : Nat} {X M X1 M1 Xm X2 M2 : Mem} (a : PassInv nv ns th v c h d X M X1 M1) (b : Ticked nv ns th v h1 d1 X1 M1 Xm X2 M2) : PassInv nv ns th v (c + 1) (h + h1) (d + d1) X M X2 M2 := by
  obtain ⟨a1, a2, a3, a4, a5, a6⟩ := a
  obtain ⟨b0, b1, b2, b3, b4, b5, b6, b7, -⟩ := b
  exact ⟨b4, b5, FXt_trans a3 (FXt_trans b1 b2), FMt_trans a4 b3, Sem_trans a5 b6, by rw [b7, a6]; omega⟩
/-- minutes without draws, in both -/
theorem sim_pass {nv np ns bk th n : Nat} {am : Int} {X M : Mem} (hT : RT nv np ns bk X M) (hS : RS nv ns th 1 X M) (hI : SI nv ns th X) (hth : 38 ≤ th) (hal : Same nv 127 am) (hn : n ≤ 60) (hm : X th 13 + n ≤ 999) :
    two (x_State_pass th (n : Int) X) (m_goesOn_ (n : Int) am M) (fun r M1 => ∃ h d : Nat, r.1 = (d : Int) ∧ d ≤ 12 * n ∧ PassInv nv ns th 1 n h d X M r.2 M1) := by
  have hns := hT.1.2.2.2.2
  unfold x_State_pass m_goesOn_
  refine two_bnd (two_itr32 (fun k a i X1 j M1 => ∃ c h d : Nat, a = (d : Int) ∧ d ≤ 12 * c ∧ i = (c : Int) ∧ j = (c : Int) ∧ k = n - c ∧ c ≤ n ∧ PassInv nv ns th 1 c h d X M X1 M1) (fun p q => ∃ h d : Nat, p.1 = (d : Int) ∧ d ≤ 12 * n ∧ PassInv nv ns th 1 n h d X M p.2.2 q.2) ?_ FUEL n 0 0 X 0 M (fuel_lt (by omega)) ⟨0, 0, 0, rfl, by omega, rfl, rfl, rfl, by omega, hS, hI, FXt_refl _ _, FMt_refl _ _, Sem_refl, by simp⟩) ?_
  · rintro k a i X1 j M1 ⟨c, h, d, rfl, hd, rfl, rfl, rfl, hc, hp⟩ F G ih
    unfold x_State_pass_L4 m_goesOn__L2
    by_cases hcn : c < n
    · have hp' := hp
      obtain ⟨p1, p2, p3, p4, p5, p6⟩ := hp'
      obtain ⟨h1, d1, Xm, X2, M2, e1, e2, e3, ht⟩ := sim_tick (RT_t hT hth p3 p4) p1 p2 hth (by omega) hal (by omega)
      have hd1 : d1 ≤ ns := ht.2.2.2.2.2.2.2.2.2.2
      repeat' (first | with_reducible refine two_lt_l ?_ | (with_reducible refine two_chk_l ?_ ?_; focus ((try simp (disch := omega) only [Bool.false_eq_true, not_true_eq_false, not_false_eq_true, Nat.reduceAdd, Nat.reduceMul, w32_eq, w64_eq, lc_eq, lc_lt, lc_le, lc_gt, lc_ge, up_k, up_i, up_e, Int.toNat_natCast, tn7, tn8, tn12, tn3, tn120, tn1600, w32_and, w32_or, w32_xor, w32_shl, w32_shr, has2_eq]) <;> omega)) | (with_reducible refine two_ite_l (fun hcl => ?_) (fun hcl => ?_) <;> (try simp (disch := omega) only [Bool.false_eq_true, not_true_eq_false, not_false_eq_true, Nat.reduceAdd, Nat.reduceMul, w32_eq, w64_eq, lc_eq, lc_lt, lc_le, lc_gt, lc_ge, up_k, up_i, up_e, Int.toNat_natCast, tn7, tn8, tn12, tn3, tn120, tn1600, w32_and, w32_or, w32_xor, w32_shl, w32_shr, has2_eq] at hcl) <;> (try (exfalso; first | omega | exact hcl rfl | exact hcl trivial | contradiction))))
      repeat' (first | with_reducible refine two_lt_r ?_ | (with_reducible refine two_chk_r ?_ ?_; focus ((try simp (disch := omega) only [Bool.false_eq_true, not_true_eq_false, not_false_eq_true, Nat.reduceAdd, Nat.reduceMul, w32_eq, w64_eq, lc_eq, lc_lt, lc_le, lc_gt, lc_ge, up_k, up_i, up_e, Int.toNat_natCast, tn7, tn8, tn12, tn3, tn120, tn1600, w32_and, w32_or, w32_xor, w32_shl, w32_shr, has2_eq]) <;> omega)) | (with_reducible refine two_ite_r (fun hcr => ?_) (fun hcr => ?_) <;> (try simp (disch := omega) only [Bool.false_eq_true, not_true_eq_false, not_false_eq_true, Nat.reduceAdd, Nat.reduceMul, w32_eq, w64_eq, lc_eq, lc_lt, lc_le, lc_gt, lc_ge, up_k, up_i, up_e, Int.toNat_natCast, tn7, tn8, tn12, tn3, tn120, tn1600, w32_and, w32_or, w32_xor, w32_shl, w32_shr, has2_eq] at hcr) <;> (try (exfalso; first | omega | exact hcr rfl | exact hcr trivial | contradiction))))
      refine two_bnd2_l e1 ?_
      refine two_bnd2_l e2 ?_
      refine two_bnd_r e3 ?_
      exact ih (n - (c + 1)) _ _ _ _ _ (by omega) ⟨c + 1, h + h1, d + d1, by omega, by omega, rfl, rfl, rfl, by omega, PassInv_step hp ht⟩
    · have : c = n := by omega
      subst this
      repeat' (first | with_reducible refine two_lt_l ?_ | (with_reducible refine two_chk_l ?_ ?_; focus ((try simp (disch := omega) only [Bool.false_eq_true, not_true_eq_false, not_false_eq_true, Nat.reduceAdd, Nat.reduceMul, w32_eq, w64_eq, lc_eq, lc_lt, lc_le, lc_gt, lc_ge, up_k, up_i, up_e, Int.toNat_natCast, tn7, tn8, tn12, tn3, tn120, tn1600, w32_and, w32_or, w32_xor, w32_shl, w32_shr, has2_eq]) <;> omega)) | (with_reducible refine two_ite_l (fun hcl => ?_) (fun hcl => ?_) <;> (try simp (disch := omega) only [Bool.false_eq_true, not_true_eq_false, not_false_eq_true, Nat.reduceAdd, Nat.reduceMul, w32_eq, w64_eq, lc_eq, lc_lt, lc_le, lc_gt, lc_ge, up_k, up_i, up_e, Int.toNat_natCast, tn7, tn8, tn12, tn3, tn120, tn1600, w32_and, w32_or, w32_xor, w32_shl, w32_shr, has2_eq] at hcl) <;> (try (exfalso; first | omega | exact hcl rfl | exact hcl trivial | contradiction))))
      repeat' (first | with_reducible refine two_lt_r ?_ | (with_reducible refine two_chk_r ?_ ?_; focus ((try simp (disch := omega) only [Bool.false_eq_true, not_true_eq_false, not_false_eq_true, Nat.reduceAdd, Nat.reduceMul, w32_eq, w64_eq, lc_eq, lc_lt, lc_le, lc_gt, lc_ge, up_k, up_i, up_e, Int.toNat_natCast, tn7, tn8, tn12, tn3, tn120, tn1600, w32_and, w32_or, w32_xor, w32_shl, w32_shr, has2_eq]) <;> omega)) | (with_reducible refine two_ite_r (fun hcr => ?_) (fun hcr => ?_) <;> (try simp (disch := omega) only [Bool.false_eq_true, not_true_eq_false, not_false_eq_true, Nat.reduceAdd, Nat.reduceMul, w32_eq, w64_eq, lc_eq, lc_lt, lc_le, lc_gt, lc_ge, up_k, up_i, up_e, Int.toNat_natCast, tn7, tn8, tn12, tn3, tn120, tn1600, w32_and, w32_or, w32_xor, w32_shl, w32_shr, has2_eq] at hcr) <;> (try (exfalso; first | omega | exact hcr rfl | exact hcr trivial | contradiction))))
      exact two_some ⟨h, d, rfl, hd, hp⟩
  · rintro ⟨a, i, X1⟩ ⟨j, M1⟩ h
    exact two_some h
theorem same_all {nv : Nat} (h : nv ≤ 7) : Same nv 127 (((2 ^ nv : Nat) : Int) - 1) := fun k hk => by
  have e1 := bit_all (n := 7) (k := k) (by omega) (by omega)
  have e2 := bit_all (n := nv) (k := k) (by omega) hk
  have e3 : (((2 ^ 7 : Nat) : Int) - 1) = 127 := by decide
  rw [e3] at e1
  rw [e1, e2]
  omega
theorem m_all_eq {nv np ns bk : Nat} {X M : Mem} (hT : RT nv np ns bk X M) : m_all M = some (((2 ^ nv : Nat) : Int) - 1) := by
  obtain ⟨⟨tb, tb2, tnv, tnp, tns⟩, ⟨x0, x1, x2⟩, ⟨m0, m1, m2⟩, ⟨t3, t3a, t3b⟩, tpit, tper, tsay, trul⟩ := hT
  unfold m_all chk
  simp only [tb, Int.toNat_natCast, m0]
  rw [if_pos (by omega), shl1 nv (by omega)]
