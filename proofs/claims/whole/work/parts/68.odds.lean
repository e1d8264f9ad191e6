/-! THE PURE PART: ends, odds -/
/-- a tick goes through, beyond the last minute too -/
theorem tick_some {nv np ns bk th v : Nat} {am : Int} {X M : Mem} (hT : RT nv np ns bk X M) (hS : RS nv ns th v X M) (hI : SI nv ns th X) (hth : 38 ≤ th) (hv : v < 22) (hal : Same nv 127 am) : post (m_ticks (v : Int) am M) (fun M1 => FMt v M M1) := by
  obtain ⟨⟨i1, Xa⟩, ⟨j1, Ma⟩, e1, f1, hSa, hIa, hxa, hma, hsa, h13a⟩ := sim_line (ax := 127) (am := am) hT hS hI hth hv
  simp only at hSa hIa hxa hma hsa h13a
  have hTa := RT_t hT hth hxa hma
  obtain ⟨⟨i2, Xb⟩, ⟨j2, Mb⟩, e2, f2, hSb, hIb, hxb, hmb, hsb, h13b⟩ := sim_gives hTa hSa hIa hth hv hal
  simp only at hSb hIb hxb hmb hsb h13b
  have hTb := RT_t hTa hth hxb hmb
  obtain ⟨⟨a3, i3, Xc⟩, ⟨j3, Mc⟩, e3, f3, h, hh, hhn, hSc, hIc, hxc, hmc, hsc, h13c⟩ := sim_hushes hTb hSb hIb hth hv
  simp only at hh hSc hIc hxc hmc hsc h13c
  have hTc := RT_t hTb hth hxc hmc
  obtain ⟨⟨a4, i4, Xd⟩, ⟨j4, Md⟩, e4, f4, d, hd, hdn, ⟨hSd, hId, hxd, hmd, hsd, h13d⟩, hhd⟩ := sim_said hTc hSc hIc hth hv
  simp only at hd hSd hId hxd hmd hsd h13d hhd
  unfold m_ticks
  rw [f1]; simp only [bnd_some]
  rw [f2]; simp only [bnd_some]
  rw [f3]; simp only [bnd_some]
  rw [f4]; simp only [bnd_some, lt_eq, Int.toNat_natCast]
  unfold chk
  rw [if_pos (by omega), if_pos (by omega)]
  exact post_some (FMt_trans hma (FMt_trans hmb (FMt_trans hmc (FMt_trans hmd (FMt_up ⟨by omega, by omega, fun _ => lay1 (by omega)⟩)))))
theorem pass1 {nv np ns bk th : Nat} {am : Int} {X M : Mem} (hT : RT nv np ns bk X M) (hS : RS nv ns th 1 X M) (hI : SI nv ns th X) (hth : 38 ≤ th) (hal : Same nv 127 am) (hm : X th 13 < 999) :
    ∃ (h d : Nat) (Xm X1 M1 : Mem), x_State_pass th 1 X = some ((d : Int), X1) ∧ m_ticks 1 am M = some M1 ∧ Ticked nv ns th 1 h d X M Xm X1 M1 := by
  obtain ⟨h, d, Xm, X1, M1, e1, e2, e3, ht⟩ := sim_tick (v := 1) hT hS hI hth (by omega) hal hm
  refine ⟨h, d, Xm, X1, M1, ?_, e3, ht⟩
  have e0 : FUEL = 999998 + 1 + 1 := rfl
  unfold x_State_pass
  rw [e0]
  show bnd (x_State_pass_L4 th 1 (fun a b c => x_State_pass_L4 th 1 (itr3 (x_State_pass_L4 th 1) 999998) a b c) 0 0 X) _ = _
  have h1 : ∀ (F : Int → Int → Mem → Option (Int × Int × Mem)), x_State_pass_L4 th 1 F 0 0 X = F (d : Int) 1 X1 := fun F => by
    unfold x_State_pass_L4
    rw [if_neg (by rw [w32_eq (by omega) (by omega), w32_eq (by omega) (by omega)]; omega), e1, bnd2_some, e2, bnd2_some]
    simp only [lt_eq, Int.zero_add]
  rw [h1]
  have h2 : ∀ (F : Int → Int → Mem → Option (Int × Int × Mem)), x_State_pass_L4 th 1 F (d : Int) 1 X1 = some ((d : Int), 1, X1) := fun F => by
    unfold x_State_pass_L4
    rw [if_pos (by omega)]
  rw [h2]
  rfl
theorem pass1' {nv np ns bk th v : Nat} {am : Int} {X M : Mem} (hT : RT nv np ns bk X M) (hS : RS nv ns th v X M) (hI : SI nv ns th X) (hth : 38 ≤ th) (hv : v < 22) (hal : Same nv 127 am) (hm : X th 13 < 999) :
    ∃ (h d : Nat) (Xm X1 M1 : Mem), x_State_pass th 1 X = some ((d : Int), X1) ∧ m_ticks (v : Int) am M = some M1 ∧ Ticked nv ns th v h d X M Xm X1 M1 := by
  obtain ⟨h, d, Xm, X1, M1, e1, e2, e3, ht⟩ := sim_tick (v := v) hT hS hI hth hv hal hm
  refine ⟨h, d, Xm, X1, M1, ?_, e3, ht⟩
  have e0 : FUEL = 999998 + 1 + 1 := rfl
  unfold x_State_pass
  rw [e0]
  show bnd (x_State_pass_L4 th 1 (fun a b c => x_State_pass_L4 th 1 (itr3 (x_State_pass_L4 th 1) 999998) a b c) 0 0 X) _ = _
  have h1 : ∀ (F : Int → Int → Mem → Option (Int × Int × Mem)), x_State_pass_L4 th 1 F 0 0 X = F (d : Int) 1 X1 := fun F => by
    unfold x_State_pass_L4
    rw [if_neg (by rw [w32_eq (by omega) (by omega), w32_eq (by omega) (by omega)]; omega), e1, bnd2_some, e2, bnd2_some]
    simp only [lt_eq, Int.zero_add]
  rw [h1]
  have h2 : ∀ (F : Int → Int → Mem → Option (Int × Int × Mem)), x_State_pass_L4 th 1 F (d : Int) 1 X1 = some ((d : Int), 1, X1) := fun F => by
    unfold x_State_pass_L4
    rw [if_pos (by omega)]
  rw [h2]
  rfl
theorem ends_loop {nv np ns bk k s : Nat} {X M : Mem} (hR : RAll nv np ns bk k X M) (hs : s < ns) : ∀ (d c : Nat) (X1 M1 : Mem) (F1 F2 : Nat), (c : Int) + d = min 60 (999 - X 38 13) → d < F1 → d + 1 < F2 → RT nv np ns bk X1 M1 → RS nv ns 51 1 X1 M1 → SI nv ns 51 X1 → QX X X1 → QM M M1 → X1 51 13 = X 38 13 + c →
    two (itr2 (x_X_ends_L35 (s : Int) (min 60 (999 - X 38 13))) F1 (c : Int) X1) (itr2 (m_ends_L18 (s : Int)) F2 (c : Int) M1) (fun p q => QX X p.2 ∧ ((∃ M2, X 38 13 ≤ p.2 51 13 ∧ 0 ≤ p.2 (51 + 4) s ∧ p.2 (51 + 4) s ≤ 5 ∧ 3 ≤ p.2 (51 + 4) s ∧ p.2 51 13 ≤ 999 ∧ QM M M2 ∧ q = .inl (p.2 51 13 - X 38 13, M2)) ∨ (∃ u M2, 0 ≤ p.2 (51 + 4) s ∧ p.2 (51 + 4) s < 3 ∧ QM M M2 ∧ q = .inr (u, M2)))) := by
  have hT := hR.1
  have hns := hT.1.2.2.2.2
  have hnv := hT.1.2.2.1
  have hr : 0 ≤ X 38 13 ∧ X 38 13 ≤ 999 := hR.2.2.1.2.2.2.2.2.2.2.2.2.2.2.2.1
  intro d
  induction d with
  | zero =>
    intro c X1 M1 F1 F2 hcd hF1 hF2 hT1 hS1 hI1 hx hm h13
    obtain ⟨G1, rfl⟩ : ∃ G, F1 = G + 1 := ⟨F1 - 1, by omega⟩
    obtain ⟨G2, rfl⟩ : ∃ G, F2 = G + 1 + 1 := ⟨F2 - 2, by omega⟩
    have hR1 := RAll_q hR hx hm
    have h38 : X1 38 13 = X 38 13 := by rw [hx 38 (by omega) (by omega) (by omega) (by omega) (by omega)]
    have w4 : M1 29 (12 + s) = X1 (51 + 4) s := hS1.2.2.2.1 s hs
    have iw : 0 ≤ X1 (51 + 4) s ∧ X1 (51 + 4) s ≤ 5 := hI1.2.2.2.1 s hs
    have n1 : (12 + (s : Int)).toNat = 12 + s := by omega
    obtain ⟨e2, f2⟩ := xm_comes (a := (c : Int)) (b := 0) (c := 60) hR1 (by omega) (by omega) (by omega)
    show two (x_X_ends_L35 _ _ _ _ _) (m_ends_L18 _ (fun a b => m_ends_L18 (s : Int) (itr2 (m_ends_L18 (s : Int)) G2) a b) _ _) _
    unfold x_X_ends_L35
    rw [if_pos (by rw [w32_eq (by omega) (by omega), w32_eq (by omega) (by omega)]; omega)]
    have hm1 : m_ends_L18 (s : Int) (fun a b => m_ends_L18 (s : Int) (itr2 (m_ends_L18 (s : Int)) G2) a b) (c : Int) M1 = if X1 (51 + 4) s < 3 then bnd (m_ticks 1 (((2 ^ nv : Nat) : Int) - 1) M1) (fun M5 => m_ends_L18 (s : Int) (itr2 (m_ends_L18 (s : Int)) G2) ((c : Int) + 1) M5) else some (.inl ((c : Int), M1)) := by
      unfold m_ends_L18
      rw [f2, bnd_some, decide_eq_true (by omega), if_pos rfl, n1, w4, w32_eq (by omega) (by omega), w32_eq (x := 3) (by omega) (by omega), m_all_eq hT1, bnd_some]
      unfold chk
      rw [if_pos (by omega)]
      rfl
    rw [hm1]
    by_cases h3 : X1 (51 + 4) s < 3
    · rw [if_pos h3]
      obtain ⟨M2, g1, g2⟩ := tick_some (v := 1) hT1 hS1 hI1 (by omega) (by omega) (same_all hnv)
      refine two_bnd_r g1 ?_
      have hm2 := QM_trans hm (QM_t g2)
      have hR2 := RAll_q hR hx hm2
      obtain ⟨e3, f3⟩ := xm_comes (a := (c : Int) + 1) (b := 0) (c := 60) hR2 (by omega) (by omega) (by omega)
      have hm2' : m_ends_L18 (s : Int) (itr2 (m_ends_L18 (s : Int)) G2) ((c : Int) + 1) M2 = some (.inr ((c : Int) + 1, M2)) := by
        unfold m_ends_L18
        rw [f3, bnd_some, decide_eq_false (by omega)]
        rfl
      rw [hm2']
      exact two_some ⟨hx, Or.inr ⟨_, M2, iw.1, h3, hm2, rfl⟩⟩
    · rw [if_neg h3]
      refine two_some ?_
      simp only
      exact ⟨hx, Or.inl ⟨M1, by omega, iw.1, iw.2, by omega, by omega, hm, by rw [show X1 51 13 - X 38 13 = (c : Int) by omega]⟩⟩
  | succ d ih =>
    intro c X1 M1 F1 F2 hcd hF1 hF2 hT1 hS1 hI1 hx hm h13
    obtain ⟨G1, rfl⟩ : ∃ G, F1 = G + 1 := ⟨F1 - 1, by omega⟩
    obtain ⟨G2, rfl⟩ : ∃ G, F2 = G + 1 := ⟨F2 - 1, by omega⟩
    have hR1 := RAll_q hR hx hm
    have h38 : X1 38 13 = X 38 13 := by rw [hx 38 (by omega) (by omega) (by omega) (by omega) (by omega)]
    have w4 : M1 29 (12 + s) = X1 (51 + 4) s := hS1.2.2.2.1 s hs
    have iw : 0 ≤ X1 (51 + 4) s ∧ X1 (51 + 4) s ≤ 5 := hI1.2.2.2.1 s hs
    have n1 : (12 + (s : Int)).toNat = 12 + s := by omega
    obtain ⟨e2, f2⟩ := xm_comes (a := (c : Int)) (b := 0) (c := 60) hR1 (by omega) (by omega) (by omega)
    show two (x_X_ends_L35 _ _ (fun a b => itr2 (x_X_ends_L35 (s : Int) (min 60 (999 - X 38 13))) G1 a b) _ _) (m_ends_L18 _ (fun a b => itr2 (m_ends_L18 (s : Int)) G2 a b) _ _) _
    have hx1 : x_X_ends_L35 (s : Int) (min 60 (999 - X 38 13)) (fun a b => itr2 (x_X_ends_L35 (s : Int) (min 60 (999 - X 38 13))) G1 a b) (c : Int) X1 = if 3 ≤ X1 (51 + 4) s then some ((c : Int), X1) else bnd2 (x_State_pass 51 1 X1) (fun r4 M4 => itr2 (x_X_ends_L35 (s : Int) (min 60 (999 - X 38 13))) G1 ((c : Int) + 1) M4) := by
      unfold x_X_ends_L35
      rw [if_neg (by rw [w32_eq (by omega) (by omega), w32_eq (by omega) (by omega)]; omega)]
      unfold chk
      rw [if_pos (by omega)]
      show (if w32 3 ≤ w32 (X1 (51 + 4) s) then _ else _) = _
      rw [w32_eq (x := X1 (51 + 4) s) (by omega) (by omega), w32_eq (x := 3) (by omega) (by omega)]
      rfl
    have hm1 : m_ends_L18 (s : Int) (fun a b => itr2 (m_ends_L18 (s : Int)) G2 a b) (c : Int) M1 = if X1 (51 + 4) s < 3 then bnd (m_ticks 1 (((2 ^ nv : Nat) : Int) - 1) M1) (fun M5 => itr2 (m_ends_L18 (s : Int)) G2 ((c : Int) + 1) M5) else some (.inl ((c : Int), M1)) := by
      unfold m_ends_L18
      rw [f2, bnd_some, decide_eq_true (by omega), if_pos rfl, n1, w4, w32_eq (by omega) (by omega), w32_eq (x := 3) (by omega) (by omega), m_all_eq hT1, bnd_some]
      unfold chk
      rw [if_pos (by omega)]
      rfl
    rw [hm1, hx1]
    by_cases h3 : X1 (51 + 4) s < 3
    · rw [if_pos h3, if_neg (by omega)]
      obtain ⟨h, dd, Xm, X2, M2, g1, g2, gt⟩ := pass1 hT1 hS1 hI1 (by omega) (same_all hnv) (by omega)
      obtain ⟨t0, t1, t2, t3, t4, t5, t6, t7, t8⟩ := gt
      refine two_bnd2_l g1 ?_
      refine two_bnd_r g2 ?_
      have hT2 := RT_t hT1 (th := 51) (by omega) (FXt_trans t1 t2) t3
      exact ih (c + 1) X2 M2 G1 G2 (by omega) (by omega) (by omega) hT2 t4 t5 (QX_trans hx (QX_t (FXt_trans t1 t2))) (QM_trans hm (QM_t t3)) (by rw [t7, h13]; omega)
    · rw [if_neg h3, if_pos (by omega)]
      refine two_some ?_
      simp only
      exact ⟨hx, Or.inl ⟨M1, by omega, iw.1, iw.2, by omega, by omega, hm, by rw [show X1 51 13 - X 38 13 = (c : Int) by omega]⟩⟩
theorem ls_ends : LS_ends RR := by
  rintro k X M a1 hk h1 ⟨nv, np, ns, bk, hR⟩
  apply ls_of
  unfold i32 at h1
  have hT := hR.1
  have hns := hT.1.2.2.2.2
  have hnv := hT.1.2.2.1
  have hr : 0 ≤ X 38 13 ∧ X 38 13 ≤ 999 := hR.2.2.1.2.2.2.2.2.2.2.2.2.2.2.2.1
  obtain ⟨e1, f1⟩ := xm_isSaying hT h1
  have done : ∀ r : Int, two (some (r, X)) (some (r, M)) (fun p q => w32 p.1 = w32 q.1 ∧ RR (k + 1) p.2 q.2) := fun r => two_some ⟨rfl, nv, np, ns, bk, RAll_up hR⟩
  unfold x_X_ends m_ends
  refine two_bnd_l e1 ?_
  refine two_bnd_r f1 ?_
  by_cases c1 : 0 ≤ a1 ∧ a1 < (ns : Int)
  · simp only [decide_eq_true c1, ↓reduceIte]
    obtain ⟨s, rfl⟩ := Int.eq_ofNat_of_zero_le c1.1
    refine two_bnd (sim_fresh hR) ?_
    rintro X1 M1 ⟨g1, g2, g3, g4, g5, g6, g7, g8⟩
    have h38 : X1 38 13 = X 38 13 := by rw [g7 38 (by omega)]
    have hmin : j_Math_min_7cf53 60 (999 - X1 38 13) = some (min 60 (999 - X 38 13)) := by
      rw [h38, xmin (by omega) (by omega)]
      congr 1
      split <;> omega
    refine two_bnd_l hmin ?_
    refine two_bnd (ends_loop hR (s := s) (by omega) (min 60 (999 - X 38 13)).toNat 0 X1 M1 FUEL FUEL (by omega) (fuel_lt (by omega)) (fuel_lt (by omega)) g1 g2 g3 g4 g5 (by rw [g6.2.2]; simp)) ?_
    rintro ⟨u, X2⟩ q ⟨q1, q2⟩
    simp only at q1 q2 ⊢
    have h382 : X2 38 13 = X 38 13 := by rw [q1 38 (by omega) (by omega) (by omega) (by omega) (by omega)]
    rcases q2 with ⟨M2, r1, r2, r3, r4, r5, r6, rfl⟩ | ⟨v, M2, r2, r3, r6, rfl⟩
    · have y2 : 0 ≤ X2 55 s := r2
      have y3 : X2 55 s ≤ 5 := r3
      have y4 : 3 ≤ X2 55 s := r4
      repeat' (first | with_reducible refine two_lt_l ?_ | (with_reducible refine two_chk_l ?_ ?_; focus ((try simp (disch := omega) only [Bool.false_eq_true, not_true_eq_false, not_false_eq_true, Nat.reduceAdd, Nat.reduceMul, w32_eq, w64_eq, lc_eq, lc_lt, lc_le, lc_gt, lc_ge, up_k, up_i, up_e, Int.toNat_natCast, tn7, tn8, tn12, tn3, tn120, tn1600, w32_and, w32_or, w32_xor, w32_shl, w32_shr, has2_eq]) <;> omega)) | (with_reducible refine two_ite_l (fun hcl => ?_) (fun hcl => ?_) <;> (try simp (disch := omega) only [Bool.false_eq_true, not_true_eq_false, not_false_eq_true, Nat.reduceAdd, Nat.reduceMul, w32_eq, w64_eq, lc_eq, lc_lt, lc_le, lc_gt, lc_ge, up_k, up_i, up_e, Int.toNat_natCast, tn7, tn8, tn12, tn3, tn120, tn1600, w32_and, w32_or, w32_xor, w32_shl, w32_shr, has2_eq] at hcl) <;> (try (exfalso; first | omega | exact hcl rfl | exact hcl trivial | contradiction))))
      exact two_some ⟨by rw [h382], nv, np, ns, bk, RAll_up (RAll_q hR q1 r6)⟩
    · have y2 : 0 ≤ X2 55 s := r2
      have y3 : X2 55 s < 3 := r3
      repeat' (first | with_reducible refine two_lt_l ?_ | (with_reducible refine two_chk_l ?_ ?_; focus ((try simp (disch := omega) only [Bool.false_eq_true, not_true_eq_false, not_false_eq_true, Nat.reduceAdd, Nat.reduceMul, w32_eq, w64_eq, lc_eq, lc_lt, lc_le, lc_gt, lc_ge, up_k, up_i, up_e, Int.toNat_natCast, tn7, tn8, tn12, tn3, tn120, tn1600, w32_and, w32_or, w32_xor, w32_shl, w32_shr, has2_eq]) <;> omega)) | (with_reducible refine two_ite_l (fun hcl => ?_) (fun hcl => ?_) <;> (try simp (disch := omega) only [Bool.false_eq_true, not_true_eq_false, not_false_eq_true, Nat.reduceAdd, Nat.reduceMul, w32_eq, w64_eq, lc_eq, lc_lt, lc_le, lc_gt, lc_ge, up_k, up_i, up_e, Int.toNat_natCast, tn7, tn8, tn12, tn3, tn120, tn1600, w32_and, w32_or, w32_xor, w32_shl, w32_shr, has2_eq] at hcl) <;> (try (exfalso; first | omega | exact hcl rfl | exact hcl trivial | contradiction))))
      exact two_some ⟨rfl, nv, np, ns, bk, RAll_up (RAll_q hR q1 r6)⟩
  · simp only [decide_eq_false c1, Bool.false_eq_true, ↓reduceIte]
    exact done _
