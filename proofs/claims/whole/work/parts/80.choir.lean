/-! THE PURE PART: choir -/
theorem same_set {nv : Nat} {a : Int} (hnv : nv ≤ 7) (ha : 0 ≤ a ∧ a < 128) : Same nv a a := fun k hk => ⟨rfl, bit_rng ha.1 (by omega) (by omega)⟩
theorem goes_post {nv np ns bk n : Nat} {am : Int} (hal : Same nv am am) (hn : n ≤ 60) : ∀ (m c F : Nat) (X M : Mem), m = n - c → c ≤ n → m < F → RT nv np ns bk X M → RS nv ns 51 1 X M → SI nv ns 51 X → X 51 13 + (n - c : Nat) ≤ 999 →
    post (itr2 (m_goesOn__L2 (n : Int) am) F (c : Int) M) (fun p => ∃ X1 h d, RS nv ns 51 1 X1 p.2 ∧ SI nv ns 51 X1 ∧ FXt 51 X X1 ∧ FMt 1 M p.2 ∧ Sem ns 51 h d X X1) := by
  intro m
  induction m with
  | zero =>
    intro c F X M hm hc hF hT hS hI h13
    obtain ⟨G, rfl⟩ : ∃ G, F = G + 1 := ⟨F - 1, by omega⟩
    show post (m_goesOn__L2 (n : Int) am (fun a b => itr2 (m_goesOn__L2 (n : Int) am) G a b) (c : Int) M) _
    unfold m_goesOn__L2
    repeat' (first | with_reducible refine post_lt ?_ | (with_reducible refine post_chk ?_ ?_; focus ((try simp (disch := omega) only [Bool.false_eq_true, not_true_eq_false, not_false_eq_true, Nat.reduceAdd, Nat.reduceMul, w32_eq, w64_eq, lc_eq, lc_lt, lc_le, lc_gt, lc_ge, up_k, up_i, up_e, Int.toNat_natCast, tn7, tn8, tn12, tn3, tn120, tn1600, w32_and, w32_or, w32_xor, w32_shl, w32_shr, has2_eq]) <;> omega)) | (with_reducible refine post_ite (fun hcp => ?_) (fun hcp => ?_) <;> (try simp (disch := omega) only [Bool.false_eq_true, not_true_eq_false, not_false_eq_true, Nat.reduceAdd, Nat.reduceMul, w32_eq, w64_eq, lc_eq, lc_lt, lc_le, lc_gt, lc_ge, up_k, up_i, up_e, Int.toNat_natCast, tn7, tn8, tn12, tn3, tn120, tn1600, w32_and, w32_or, w32_xor, w32_shl, w32_shr, has2_eq] at hcp) <;> (try (exfalso; first | omega | exact hcp rfl | exact hcp trivial | contradiction))))
    exact post_some ⟨X, 0, 0, hS, hI, FXt_refl _ _, FMt_refl _ _, Sem_refl⟩
  | succ m ih =>
    intro c F X M hm hc hF hT hS hI h13
    obtain ⟨G, rfl⟩ : ∃ G, F = G + 1 := ⟨F - 1, by omega⟩
    show post (m_goesOn__L2 (n : Int) am (fun a b => itr2 (m_goesOn__L2 (n : Int) am) G a b) (c : Int) M) _
    obtain ⟨h, d, Xm, X1, M1, e1, e2, e3, t0, t1, t2, t3, t4, t5, t6, t7, t8⟩ := sim_tick (v := 1) hT hS hI (by omega) (by omega) hal (by omega)
    have e3' : m_ticks 1 am M = some M1 := e3
    unfold m_goesOn__L2
    repeat' (first | with_reducible refine post_lt ?_ | (with_reducible refine post_chk ?_ ?_; focus ((try simp (disch := omega) only [Bool.false_eq_true, not_true_eq_false, not_false_eq_true, Nat.reduceAdd, Nat.reduceMul, w32_eq, w64_eq, lc_eq, lc_lt, lc_le, lc_gt, lc_ge, up_k, up_i, up_e, Int.toNat_natCast, tn7, tn8, tn12, tn3, tn120, tn1600, w32_and, w32_or, w32_xor, w32_shl, w32_shr, has2_eq]) <;> omega)) | (with_reducible refine post_ite (fun hcp => ?_) (fun hcp => ?_) <;> (try simp (disch := omega) only [Bool.false_eq_true, not_true_eq_false, not_false_eq_true, Nat.reduceAdd, Nat.reduceMul, w32_eq, w64_eq, lc_eq, lc_lt, lc_le, lc_gt, lc_ge, up_k, up_i, up_e, Int.toNat_natCast, tn7, tn8, tn12, tn3, tn120, tn1600, w32_and, w32_or, w32_xor, w32_shl, w32_shr, has2_eq] at hcp) <;> (try (exfalso; first | omega | exact hcp rfl | exact hcp trivial | contradiction))))
    refine post_bnde e3' ?_
    refine post_mono (ih (c + 1) G X1 M1 (by omega) (by omega) (by omega) (RT_t hT (th := 51) (by omega) (FXt_trans t1 t2) t3) t4 t5 (by rw [t7]; omega)) ?_
    rintro p ⟨X2, h', d', y1, y2, y3, y4, y5⟩
    exact ⟨X2, h + h', d + d', y1, y2, FXt_trans (FXt_trans t1 t2) y3, FMt_trans t3 y4, Sem_trans t6 y5⟩
/-- whether a set is of voices that are not struck -/
def Clear (nv : Nat) (X : Mem) (z : Nat) : Prop := ∀ v, v < nv → and32 (shr32 (z : Int) (v : Int)) 1 = 1 → X 40 v = 0
theorem sim_enough {nv np ns bk k n z : Nat} {X M : Mem} (hR : RAll nv np ns bk k X M) (hz : z < 128) (hn : n ≤ 30) (h13 : X 38 13 + n ≤ 999) :
    ∃ b X2, x_X_isEnough (z : Int) (n : Int) X = some (b, X2) ∧ QX X X2 ∧ (b = true → Clear nv X z) ∧ (Clear nv X z → ∃ M2 M3 w, m_copies 1 0 M = some M2 ∧ m_goesOn_ (n : Int) (z : Int) M2 = some M3 ∧ QM M M3 ∧ m_manyOf 1 4 4 M3 = some w ∧ 0 ≤ w ∧ w ≤ 12 ∧ (b = true ↔ w = (cw ns 38 X 4 : Int))) := by
  have hT := hR.1
  have hns := hT.1.2.2.2.2
  have hnv := hT.1.2.2.1
  have x0 := hT.2.1.1
  have first : post (itr1 (x_X_isEnough_L2 (z : Int) (n : Int) X) FUEL 0) (fun p => (p = .inl (false, X) ∧ ¬ Clear nv X z) ∨ (∃ u, p = .inr u ∧ Clear nv X z)) := by
    refine post_itr1 (fun m (i : Int) => ∃ c : Nat, i = (c : Int) ∧ c ≤ nv ∧ m = nv - c ∧ ∀ v, v < c → and32 (shr32 (z : Int) (v : Int)) 1 = 1 → X 40 v = 0) _ ?_ FUEL nv 0 (fuel_lt (by omega)) ⟨0, rfl, by omega, rfl, fun v hv => by omega⟩
    rintro m i ⟨c, rfl, hc, rfl, hall⟩ F ih
    unfold x_X_isEnough_L2
    by_cases h : c < nv
    · have hb := bit_01 (n := z) (k := c) (by omega) (by omega)
      have hs : 0 ≤ X 40 c ∧ X 40 c ≤ 1 := hR.2.2.1.2.1 c h
      repeat' (first | with_reducible refine post_lt ?_ | (with_reducible refine post_chk ?_ ?_; focus ((try simp (disch := omega) only [Bool.false_eq_true, not_true_eq_false, not_false_eq_true, Nat.reduceAdd, Nat.reduceMul, w32_eq, w64_eq, lc_eq, lc_lt, lc_le, lc_gt, lc_ge, up_k, up_i, up_e, Int.toNat_natCast, tn7, tn8, tn12, tn3, tn120, tn1600, w32_and, w32_or, w32_xor, w32_shl, w32_shr, has2_eq, x0]) <;> omega)) | (with_reducible refine post_ite (fun hcp => ?_) (fun hcp => ?_) <;> (try simp (disch := omega) only [Bool.false_eq_true, not_true_eq_false, not_false_eq_true, Nat.reduceAdd, Nat.reduceMul, w32_eq, w64_eq, lc_eq, lc_lt, lc_le, lc_gt, lc_ge, up_k, up_i, up_e, Int.toNat_natCast, tn7, tn8, tn12, tn3, tn120, tn1600, w32_and, w32_or, w32_xor, w32_shl, w32_shr, has2_eq, x0] at hcp) <;> (try (exfalso; first | omega | exact hcp rfl | exact hcp trivial | contradiction))))
      · refine ih (nv - (c + 1)) _ (by omega) ⟨c + 1, rfl, by omega, rfl, fun v hv hb1 => ?_⟩
        by_cases e : v = c
        · subst e; omega
        · exact hall v (by omega) hb1
      · refine ih (nv - (c + 1)) _ (by omega) ⟨c + 1, rfl, by omega, rfl, fun v hv hb1 => ?_⟩
        by_cases e : v = c
        · subst e; omega
        · exact hall v (by omega) hb1
      · exact post_some (Or.inl ⟨rfl, fun q => by have := q c h (by omega); omega⟩)
    · repeat' (first | with_reducible refine post_lt ?_ | (with_reducible refine post_chk ?_ ?_; focus ((try simp (disch := omega) only [Bool.false_eq_true, not_true_eq_false, not_false_eq_true, Nat.reduceAdd, Nat.reduceMul, w32_eq, w64_eq, lc_eq, lc_lt, lc_le, lc_gt, lc_ge, up_k, up_i, up_e, Int.toNat_natCast, tn7, tn8, tn12, tn3, tn120, tn1600, w32_and, w32_or, w32_xor, w32_shl, w32_shr, has2_eq, x0]) <;> omega)) | (with_reducible refine post_ite (fun hcp => ?_) (fun hcp => ?_) <;> (try simp (disch := omega) only [Bool.false_eq_true, not_true_eq_false, not_false_eq_true, Nat.reduceAdd, Nat.reduceMul, w32_eq, w64_eq, lc_eq, lc_lt, lc_le, lc_gt, lc_ge, up_k, up_i, up_e, Int.toNat_natCast, tn7, tn8, tn12, tn3, tn120, tn1600, w32_and, w32_or, w32_xor, w32_shl, w32_shr, has2_eq, x0] at hcp) <;> (try (exfalso; first | omega | exact hcp rfl | exact hcp trivial | contradiction))))
      exact post_some (Or.inr ⟨_, rfl, fun v hv => hall v (by omega)⟩)
  obtain ⟨p, hp, hp2⟩ := first
  unfold x_X_isEnough
  rw [hp]
  rcases hp2 with ⟨rfl, hcl⟩ | ⟨u, rfl, hcl⟩
  · exact ⟨false, X, rfl, QX_refl X, fun q => (by cases q), fun q => absurd q hcl⟩
  · simp only [bnd_some]
    obtain ⟨X1, M1, e1, e2, g1, g2, g3, g4, g5, g6, g7, g8⟩ := sim_fresh hR
    rw [e1]
    simp only [bnd_some]
    have hal := same_set (nv := nv) (a := (z : Int)) hnv (by omega)
    have hc38 : cw ns 51 X1 4 = cw ns 38 X 4 := cw_copied g6
    -- the class's minutes; the reference's run beside them
    have loop : post (itr2 (x_X_isEnough_L49 (z : Int) (n : Int)) FUEL 0 X1) (fun p => ∃ b X2, p = (if b = true then .inr ((n : Int), X2) else .inl (false, X2)) ∧ FXt 51 X1 X2 ∧ ∃ M3 X3 h d, (∀ G, itr2 (m_goesOn__L2 (n : Int) (z : Int)) (G + n + 1) 0 M1 = some ((n : Int), M3)) ∧ RS nv ns 51 1 X3 M3 ∧ SI nv ns 51 X3 ∧ FXt 51 X1 X3 ∧ FMt 1 M1 M3 ∧ Sem ns 51 h d X1 X3 ∧ (b = true ↔ h = 0)) := by
      refine post_itr2 (fun m (i : Int) X2 => ∃ (c d : Nat) (M2 : Mem), i = (c : Int) ∧ c ≤ n ∧ m = n - c ∧ (∀ G, itr2 (m_goesOn__L2 (n : Int) (z : Int)) (G + c) 0 M1 = itr2 (m_goesOn__L2 (n : Int) (z : Int)) G (c : Int) M2) ∧ PassInv nv ns 51 1 c 0 d X1 M1 X2 M2) _ ?_ FUEL n 0 X1 (fuel_lt (by omega)) ⟨0, 0, M1, rfl, by omega, rfl, fun G => rfl, g2, g3, FXt_refl _ _, FMt_refl _ _, Sem_refl, by simp⟩
      rintro m i X2 ⟨c, d, M2, rfl, hc, rfl, hrun, hp⟩ F ih
      have hp' := hp
      obtain ⟨p1, p2, p3, p4, p5, p6⟩ := hp'
      unfold x_X_isEnough_L49
      by_cases h : c < n
      · have hT2 := RT_t g1 (th := 51) (by omega) p3 p4
        obtain ⟨hh, dd, Xm, X3, M3, y1, y2, y3, ht⟩ := sim_tick (v := 1) hT2 p1 p2 (by omega) (by omega) hal (by rw [p6, g6.2.2]; omega)
        have y3' : m_ticks 1 (z : Int) M2 = some M3 := y3
        have hrun2 : ∀ G, itr2 (m_goesOn__L2 (n : Int) (z : Int)) (G + (c + 1)) 0 M1 = itr2 (m_goesOn__L2 (n : Int) (z : Int)) G ((c + 1 : Nat) : Int) M3 := fun G => by
          rw [show G + (c + 1) = (G + 1) + c by omega, hrun (G + 1)]
          show m_goesOn__L2 (n : Int) (z : Int) (fun a b => itr2 (m_goesOn__L2 (n : Int) (z : Int)) G a b) (c : Int) M2 = _
          unfold m_goesOn__L2
          rw [if_neg (by rw [w32_eq (by omega) (by omega), w32_eq (by omega) (by omega)]; omega), y3', bnd_some]
          rfl
        have ht' := ht
        obtain ⟨t0, t1, t2, t3, t4, t5, t6, t7, t8, t9, t10⟩ := ht'
        repeat' (first | with_reducible refine post_lt ?_ | (with_reducible refine post_chk ?_ ?_; focus ((try simp (disch := omega) only [Bool.false_eq_true, not_true_eq_false, not_false_eq_true, Nat.reduceAdd, Nat.reduceMul, w32_eq, w64_eq, lc_eq, lc_lt, lc_le, lc_gt, lc_ge, up_k, up_i, up_e, Int.toNat_natCast, tn7, tn8, tn12, tn3, tn120, tn1600, w32_and, w32_or, w32_xor, w32_shl, w32_shr, has2_eq]) <;> omega)) | (with_reducible refine post_ite (fun hcp => ?_) (fun hcp => ?_) <;> (try simp (disch := omega) only [Bool.false_eq_true, not_true_eq_false, not_false_eq_true, Nat.reduceAdd, Nat.reduceMul, w32_eq, w64_eq, lc_eq, lc_lt, lc_le, lc_gt, lc_ge, up_k, up_i, up_e, Int.toNat_natCast, tn7, tn8, tn12, tn3, tn120, tn1600, w32_and, w32_or, w32_xor, w32_shl, w32_shr, has2_eq] at hcp) <;> (try (exfalso; first | omega | exact hcp rfl | exact hcp trivial | contradiction))))
        refine post_bnd2e y1 ?_
        repeat' (first | with_reducible refine post_lt ?_ | (with_reducible refine post_chk ?_ ?_; focus ((try simp (disch := omega) only [Bool.false_eq_true, not_true_eq_false, not_false_eq_true, Nat.reduceAdd, Nat.reduceMul, w32_eq, w64_eq, lc_eq, lc_lt, lc_le, lc_gt, lc_ge, up_k, up_i, up_e, Int.toNat_natCast, tn7, tn8, tn12, tn3, tn120, tn1600, w32_and, w32_or, w32_xor, w32_shl, w32_shr, has2_eq]) <;> omega)) | (with_reducible refine post_ite (fun hcp => ?_) (fun hcp => ?_) <;> (try simp (disch := omega) only [Bool.false_eq_true, not_true_eq_false, not_false_eq_true, Nat.reduceAdd, Nat.reduceMul, w32_eq, w64_eq, lc_eq, lc_lt, lc_le, lc_gt, lc_ge, up_k, up_i, up_e, Int.toNat_natCast, tn7, tn8, tn12, tn3, tn120, tn1600, w32_and, w32_or, w32_xor, w32_shl, w32_shr, has2_eq] at hcp) <;> (try (exfalso; first | omega | exact hcp rfl | exact hcp trivial | contradiction))))
        · have hh0 : hh = 0 := by omega
          subst hh0
          refine post_bnd2e y2 ?_
          repeat' (first | with_reducible refine post_lt ?_ | (with_reducible refine post_chk ?_ ?_; focus ((try simp (disch := omega) only [Bool.false_eq_true, not_true_eq_false, not_false_eq_true, Nat.reduceAdd, Nat.reduceMul, w32_eq, w64_eq, lc_eq, lc_lt, lc_le, lc_gt, lc_ge, up_k, up_i, up_e, Int.toNat_natCast, tn7, tn8, tn12, tn3, tn120, tn1600, w32_and, w32_or, w32_xor, w32_shl, w32_shr, has2_eq]) <;> omega)) | (with_reducible refine post_ite (fun hcp => ?_) (fun hcp => ?_) <;> (try simp (disch := omega) only [Bool.false_eq_true, not_true_eq_false, not_false_eq_true, Nat.reduceAdd, Nat.reduceMul, w32_eq, w64_eq, lc_eq, lc_lt, lc_le, lc_gt, lc_ge, up_k, up_i, up_e, Int.toNat_natCast, tn7, tn8, tn12, tn3, tn120, tn1600, w32_and, w32_or, w32_xor, w32_shl, w32_shr, has2_eq] at hcp) <;> (try (exfalso; first | omega | exact hcp rfl | exact hcp trivial | contradiction))))
          refine ih (n - (c + 1)) _ _ (by omega) ⟨c + 1, d + dd, M3, rfl, by omega, rfl, hrun2, ?_⟩
          have := PassInv_step hp ht
          simpa using this
        · obtain ⟨⟨qn, M4⟩, q1, X4, h4, d4, z1, z2, z3, z4, z5⟩ := goes_post hal (by omega) (n - (c + 1)) (c + 1) (n - (c + 1) + 1) X3 M3 rfl (by omega) (by omega) (RT_t hT2 (th := 51) (by omega) (FXt_trans t1 t2) t3) t4 t5 (by rw [t7, p6, g6.2.2]; omega)
          simp only at z1 z4
          refine post_some ⟨false, Xm, rfl, FXt_trans p3 t1, M4, X4, 0 + hh + h4, d + dd + d4, fun G => ?_, z1, z2, FXt_trans p3 (FXt_trans (FXt_trans t1 t2) z3), FMt_trans p4 (FMt_trans t3 z4), Sem_trans (Sem_trans p5 t6) z5, ⟨fun q => (by cases q), fun q => by omega⟩⟩
          have hq : ∀ (m c F : Nat) (M : Mem), m = n - c → c ≤ n → m < F → ∀ r, itr2 (m_goesOn__L2 (n : Int) (z : Int)) F (c : Int) M = some r → ∀ G, itr2 (m_goesOn__L2 (n : Int) (z : Int)) (G + m + 1) (c : Int) M = some ((n : Int), r.2) := by
            intro m
            induction m with
            | zero =>
              intro c F M hm hc hF r hr G
              obtain ⟨F', rfl⟩ : ∃ F', F = F' + 1 := ⟨F - 1, by omega⟩
              have hcn : c = n := by omega
              subst hcn
              have a1 : ∀ K, itr2 (m_goesOn__L2 (c : Int) (z : Int)) (K + 1) (c : Int) M = some ((c : Int), M) := fun K => by
                show m_goesOn__L2 (c : Int) (z : Int) _ (c : Int) M = _
                unfold m_goesOn__L2
                rw [if_pos (by omega)]
              rw [a1] at hr
              rw [show G + 0 + 1 = G + 1 by omega, a1]
              cases hr
              rfl
            | succ m ihm =>
              intro c F M hm hc hF r hr G
              obtain ⟨F', rfl⟩ : ∃ F', F = F' + 1 := ⟨F - 1, by omega⟩
              have a1 : ∀ K, itr2 (m_goesOn__L2 (n : Int) (z : Int)) (K + 1) (c : Int) M = bnd (m_ticks 1 (z : Int) M) (fun M1 => itr2 (m_goesOn__L2 (n : Int) (z : Int)) K ((c + 1 : Nat) : Int) M1) := fun K => by
                show m_goesOn__L2 (n : Int) (z : Int) (fun a b => itr2 (m_goesOn__L2 (n : Int) (z : Int)) K a b) (c : Int) M = _
                unfold m_goesOn__L2
                rw [if_neg (by rw [w32_eq (by omega) (by omega), w32_eq (by omega) (by omega)]; omega)]
                rfl
              rw [a1] at hr
              rw [show G + (m + 1) + 1 = (G + m + 1) + 1 by omega, a1]
              obtain ⟨Ma, b1, b2⟩ := bnd_inv hr
              rw [b1, bnd_some]
              exact ihm (c + 1) F' Ma (by omega) (by omega) (by omega) r b2 G
          have hfin := hq (n - (c + 1)) (c + 1) _ M3 rfl (by omega) (by omega) _ q1 G
          rw [show G + n + 1 = (G + (n - (c + 1)) + 1) + (c + 1) by omega, hrun2]
          exact hfin
      · have hcn : c = n := by omega
        subst hcn
        repeat' (first | with_reducible refine post_lt ?_ | (with_reducible refine post_chk ?_ ?_; focus ((try simp (disch := omega) only [Bool.false_eq_true, not_true_eq_false, not_false_eq_true, Nat.reduceAdd, Nat.reduceMul, w32_eq, w64_eq, lc_eq, lc_lt, lc_le, lc_gt, lc_ge, up_k, up_i, up_e, Int.toNat_natCast, tn7, tn8, tn12, tn3, tn120, tn1600, w32_and, w32_or, w32_xor, w32_shl, w32_shr, has2_eq]) <;> omega)) | (with_reducible refine post_ite (fun hcp => ?_) (fun hcp => ?_) <;> (try simp (disch := omega) only [Bool.false_eq_true, not_true_eq_false, not_false_eq_true, Nat.reduceAdd, Nat.reduceMul, w32_eq, w64_eq, lc_eq, lc_lt, lc_le, lc_gt, lc_ge, up_k, up_i, up_e, Int.toNat_natCast, tn7, tn8, tn12, tn3, tn120, tn1600, w32_and, w32_or, w32_xor, w32_shl, w32_shr, has2_eq] at hcp) <;> (try (exfalso; first | omega | exact hcp rfl | exact hcp trivial | contradiction))))
        refine post_some ⟨true, X2, rfl, p3, M2, X2, 0, d, fun G => ?_, p1, p2, p3, p4, p5, ⟨fun _ => rfl, fun _ => rfl⟩⟩
        rw [show G + c + 1 = (G + 1) + c by omega, hrun (G + 1)]
        show m_goesOn__L2 (c : Int) (z : Int) _ (c : Int) M2 = _
        unfold m_goesOn__L2
        rw [if_pos (by omega)]
    obtain ⟨p, hp, b, X2, rfl, hx2, M3, X3, h, d, hrun, r1, r2, r3, r4, r5, hb⟩ := loop
    rw [hp]
    refine ⟨b, X2, ?_, QX_trans g4 (QX_t hx2), fun _ => hcl, fun _ => ⟨M1, M3, (cw ns 51 X3 4 : Int), e2, ?_, QM_trans g5 (QM_t r4), ?_, by omega, by have := cw_le ns 51 X3 4; omega, ?_⟩⟩
    · cases b <;> rfl
    · unfold m_goesOn_
      rw [show FUEL = (999999 - n) + n + 1 by unfold FUEL; omega, hrun]
      rfl
    · have hT3 := RT_t g1 (th := 51) (by omega) r3 r4
      have := m_many (v := 1) (k := 4) (q := 4) hT3 r1 r2 (by omega) (by omega) (by omega)
      rw [show m_manyOf 1 4 4 M3 = _ from this]
      have e : cnt (fun s => decide (X3 (51 + 4) s = 4 ∨ X3 (51 + 4) s = 4)) ns = cw ns 51 X3 4 := cnt_ext (fun j hj => by simp)
      rw [e]
    · rw [hb, r5.2.2.2.1, hc38]
      constructor
      · intro q; omega
      · intro q; omega
