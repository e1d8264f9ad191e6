/-! THE PURE PART: odds -/
theorem sem5 {ns th h d : Nat} {X X1 : Mem} (hs : Sem ns th h d X X1) {j : Nat} (hj : j < ns) : X1 (th + 4) j = 5 ↔ X (th + 4) j = 5 := by
  constructor
  · exact hs.2.1 j hj
  · intro h; rw [hs.1 j hj (by omega)]; exact h
/-- what the c first voices give -/
def oddsAt (t : Int) (w u : Int) (c : Nat) : Int := if w = 5 then t * c else if w = 2 ∧ u < (c : Int) then t else 0
theorem odds_loop {nv np ns bk k s : Nat} {X M : Mem} (hR : RAll nv np ns bk k X M) (hs : s < ns) (hm9 : X 38 13 + 1 ≤ 999) (t0 : Int) (ht0 : t0 = (if X 42 s = 5 then (100 - X 23 3) * nv else 0)) {M0 : Mem} (hM0 : QM M M0) :
    post (m_odds_B109 (s : Int) t0 M0) (fun r => r.1 = t0 + oddsAt (X 23 3) (X 42 s) (X 45 s) nv ∧ QM M r.2) := by
  have hT := hR.1
  have hns := hT.1.2.2.2.2
  have hnv := hT.1.2.2.1
  have ht : 0 ≤ X 23 3 ∧ X 23 3 ≤ 100 := hT.2.2.2.1.2
  have hw : 0 ≤ X 42 s ∧ X 42 s ≤ 5 := hR.2.2.1.2.2.2.1 s hs
  have hv : -1 ≤ X 45 s ∧ X 45 s < nv := hR.2.2.1.2.2.2.2.2.2.1 s hs
  have hsnd : X 42 s = 2 → 0 ≤ X 45 s ∧ 1 ≤ X 46 s ∧ X 40 (X 45 s).toNat = 0 := hR.2.2.1.2.2.2.2.2.2.2.2.2.1 s hs
  unfold m_odds_B109
  refine post_bnd (post_itr3 (fun m (a i : Int) M1 => ∃ c : Nat, i = (c : Int) ∧ c ≤ nv ∧ m = nv - c ∧ a = t0 + oddsAt (X 23 3) (X 42 s) (X 45 s) c ∧ QM M M1) (fun p => p.1 = t0 + oddsAt (X 23 3) (X 42 s) (X 45 s) nv ∧ QM M p.2.2) ?_ FUEL nv t0 0 M0 (fuel_lt (by omega)) ⟨0, rfl, by omega, rfl, ?_, hM0⟩) ?_
  · rintro m a i M1 ⟨c, rfl, hc, rfl, rfl, hm⟩ F ih
    have hR1 := RAll_q hR (QX_refl X) hm
    obtain ⟨⟨tb, tb2, tnv, tnp, tns⟩, ⟨x0, x1, x2⟩, ⟨m0, m1, m2⟩, ⟨t3, t3a, t3b⟩, -⟩ := hR1.1
    unfold m_odds_L112
    by_cases h : c < nv
    · have hb : and32 (shr32 (M1 28 0) (c : Int)) 1 = X 40 c := hR1.2.1.2.1 c h
      have hbr : 0 ≤ X 40 c ∧ X 40 c ≤ 1 := hR1.2.2.1.2.1 c h
      repeat' (first | with_reducible refine post_lt ?_ | (with_reducible refine post_chk ?_ ?_; focus ((try simp (disch := omega) only [Bool.false_eq_true, not_true_eq_false, not_false_eq_true, Nat.reduceAdd, Nat.reduceMul, w32_eq, w64_eq, lc_eq, lc_lt, lc_le, lc_gt, lc_ge, up_k, up_i, up_e, Int.toNat_natCast, tn7, tn8, tn12, tn3, tn120, tn1600, w32_and, w32_or, w32_xor, w32_shl, w32_shr, has2_eq, tb, m0]) <;> omega)) | (with_reducible refine post_ite (fun hcp => ?_) (fun hcp => ?_) <;> (try simp (disch := omega) only [Bool.false_eq_true, not_true_eq_false, not_false_eq_true, Nat.reduceAdd, Nat.reduceMul, w32_eq, w64_eq, lc_eq, lc_lt, lc_le, lc_gt, lc_ge, up_k, up_i, up_e, Int.toNat_natCast, tn7, tn8, tn12, tn3, tn120, tn1600, w32_and, w32_or, w32_xor, w32_shl, w32_shr, has2_eq, tb, m0] at hcp) <;> (try (exfalso; first | omega | exact hcp rfl | exact hcp trivial | contradiction))))
      obtain ⟨X2, M2, e1, e2, g1, g2, g3, g4, g5, g6, g7, g8⟩ := sim_fresh hR1
      refine post_bnde e2 ?_
      have hb2 : and32 (shr32 (M2 28 0) (c : Int)) 1 = X 40 c := by rw [g8 28 0 (by rw [lay1 (by omega)]; omega)]; exact hb
      refine post_bnde has2_eq ?_
      rw [hb2]
      have s55 : X2 (51 + 4) s = X 42 s := (g6.2.1 s hs).1
      have s58 : X2 (51 + 7) s = X 45 s := (g6.2.1 s hs).2.1
      have n1 : (12 + (s : Int)).toNat = 12 + s := by omega
      -- behind the stroke, if there is one
      have hend : ∀ X3 M3, RT nv np ns bk X3 M3 → RS nv ns 51 1 X3 M3 → SI nv ns 51 X3 → FXt 51 X2 X3 → FMt 1 M2 M3 → X3 51 13 = X 38 13 → (X3 (51 + 4) s = 5 ↔ X 42 s = 5 ∨ (X 42 s = 2 ∧ X 45 s = (c : Int))) →
          post (m_odds_L112_B150 F (s : Int) (t0 + oddsAt (X 23 3) (X 42 s) (X 45 s) c) (c : Int) M3) (fun p => p.1 = t0 + oddsAt (X 23 3) (X 42 s) (X 45 s) nv ∧ QM M p.2.2) := by
        intro X3 M3 hT3 hS3 hI3 hx3 hm3 h13 h5
        unfold m_odds_L112_B150
        refine post_bnde (m_all_eq hT3) ?_
        obtain ⟨h, d, Xm, X4, M4, q1, q2, q3, y0, y1, y2, y3, y4, y5, y6, y7, y8⟩ := sim_tick (v := 1) hT3 hS3 hI3 (by omega) (by omega) (same_all hnv) (by omega)
        refine post_bnde q3 ?_
        have hm4 : QM M M4 := QM_trans hm (QM_trans g5 (QM_trans (QM_t hm3) (QM_t y3)))
        have w4 : M4 29 (12 + s) = X4 55 s := y4.2.2.2.1 s hs
        have i4 : 0 ≤ X4 55 s ∧ X4 55 s ≤ 5 := y5.2.2.2.1 s hs
        have h54 : X4 55 s = 5 ↔ X 42 s = 5 ∨ (X 42 s = 2 ∧ X 45 s = (c : Int)) := (sem5 y6 hs).trans h5
        have b0 : M4 0 13 = (bk : Int) := by rw [hm4 0 13 (by omega)]; exact hT.1.1
        have b3 : M4 11 bk = X 23 3 := by rw [hm4 11 bk (by omega)]; exact hT.2.2.2.1.1
        repeat' (first | with_reducible refine post_lt ?_ | (with_reducible refine post_chk ?_ ?_; focus ((try simp (disch := omega) only [Bool.false_eq_true, not_true_eq_false, not_false_eq_true, Nat.reduceAdd, Nat.reduceMul, w32_eq, w64_eq, lc_eq, lc_lt, lc_le, lc_gt, lc_ge, up_k, up_i, up_e, Int.toNat_natCast, tn7, tn8, tn12, tn3, tn120, tn1600, w32_and, w32_or, w32_xor, w32_shl, w32_shr, has2_eq, n1, w4, b0, b3]) <;> omega)) | (with_reducible refine post_ite (fun hcp => ?_) (fun hcp => ?_) <;> (try simp (disch := omega) only [Bool.false_eq_true, not_true_eq_false, not_false_eq_true, Nat.reduceAdd, Nat.reduceMul, w32_eq, w64_eq, lc_eq, lc_lt, lc_le, lc_gt, lc_ge, up_k, up_i, up_e, Int.toNat_natCast, tn7, tn8, tn12, tn3, tn120, tn1600, w32_and, w32_or, w32_xor, w32_shl, w32_shr, has2_eq, n1, w4, b0, b3] at hcp) <;> (try (exfalso; first | omega | exact hcp rfl | exact hcp trivial | contradiction))))
        · refine ih (nv - (c + 1)) _ _ _ (by omega) ⟨c + 1, rfl, by omega, rfl, ?_, hm4⟩
          have hn5 : ¬ (X 42 s = 5 ∨ (X 42 s = 2 ∧ X 45 s = (c : Int))) := fun z => hcp (h54.mpr z)
          unfold oddsAt
          rw [if_neg (fun z => hn5 (Or.inl z)), if_neg (fun z => hn5 (Or.inl z))]
          by_cases z : X 42 s = 2 ∧ X 45 s < (c : Int)
          · rw [if_pos z, if_pos ⟨z.1, by omega⟩]; omega
          · rw [if_neg z, if_neg (fun y => z ⟨y.1, by have : X 45 s ≠ (c : Int) := fun q => hn5 (Or.inr ⟨y.1, q⟩)
                                                      omega⟩)]; omega
        · simp only [b0, Int.toNat_natCast, b3]
          refine ih (nv - (c + 1)) _ _ _ (by omega) ⟨c + 1, rfl, by omega, rfl, ?_, hm4⟩
          have hy5 : X 42 s = 5 ∨ (X 42 s = 2 ∧ X 45 s = (c : Int)) := h54.mp (by omega)
          unfold oddsAt
          rcases hy5 with z | z
          · rw [if_pos z, if_pos z, show ((c + 1 : Nat) : Int) = (c : Int) + 1 by omega, Int.mul_add, Int.mul_one]; omega
          · rw [if_neg (by omega), if_neg (by omega), if_neg (by omega), if_pos ⟨z.1, by omega⟩]; omega
      by_cases h1 : X 40 c = 1
      · rw [decide_eq_true h1]
        simp only [↓reduceIte]
        refine hend X2 M2 g1 g2 g3 (FXt_refl _ _) (FMt_refl _ _) (by rw [g6.2.2]) ?_
        rw [s55]
        constructor
        · intro z; exact Or.inl z
        · intro z
          rcases z with z | ⟨z, y⟩
          · exact z
          · obtain ⟨q1, q2, q3⟩ := hsnd z
            rw [show (X 45 s).toNat = c by omega] at q3
            omega
      · rw [decide_eq_false h1]
        simp only [Bool.false_eq_true, ↓reduceIte]
        obtain ⟨X3, M3, q1, q2, k1, k2, k3, k4, k5, k6, k7⟩ := sim_strike (v := 1) (k := c) g1 g2 g3 (by omega) (by omega) h (by rw [(g6.1 c (by omega)).2.1]; show X 40 c = 0; omega)
        refine post_bnde q2 ?_
        refine hend X3 M3 (RT_t g1 (th := 51) (by omega) k3 k4) k1 k2 k3 k4 (by rw [k5, g6.2.2]) ?_
        rw [k6 s hs, s55, s58]
    · repeat' (first | with_reducible refine post_lt ?_ | (with_reducible refine post_chk ?_ ?_; focus ((try simp (disch := omega) only [Bool.false_eq_true, not_true_eq_false, not_false_eq_true, Nat.reduceAdd, Nat.reduceMul, w32_eq, w64_eq, lc_eq, lc_lt, lc_le, lc_gt, lc_ge, up_k, up_i, up_e, Int.toNat_natCast, tn7, tn8, tn12, tn3, tn120, tn1600, w32_and, w32_or, w32_xor, w32_shl, w32_shr, has2_eq, tb, m0]) <;> omega)) | (with_reducible refine post_ite (fun hcp => ?_) (fun hcp => ?_) <;> (try simp (disch := omega) only [Bool.false_eq_true, not_true_eq_false, not_false_eq_true, Nat.reduceAdd, Nat.reduceMul, w32_eq, w64_eq, lc_eq, lc_lt, lc_le, lc_gt, lc_ge, up_k, up_i, up_e, Int.toNat_natCast, tn7, tn8, tn12, tn3, tn120, tn1600, w32_and, w32_or, w32_xor, w32_shl, w32_shr, has2_eq, tb, m0] at hcp) <;> (try (exfalso; first | omega | exact hcp rfl | exact hcp trivial | contradiction))))
      have : c = nv := by omega
      subst this
      exact post_some ⟨rfl, hm⟩
  · unfold oddsAt
    by_cases z : X 42 s = 5
    · rw [if_pos z]; simp
    · rw [if_neg z, if_neg (by rintro ⟨q1, q2⟩; have := hsnd q1; omega)]; simp
  · rintro ⟨a, i, M1⟩ ⟨q1, q2⟩
    exact post_some ⟨q1, q2⟩
theorem ls_odds : LS_odds RR := by
  rintro k X M a1 hk h1 ⟨nv, np, ns, bk, hR⟩
  unfold i32 at h1
  have hT := hR.1
  have hns := hT.1.2.2.2.2
  have hnv := hT.1.2.2.1
  have hTc := hT
  obtain ⟨⟨tb, tb2, tnv, tnp, tns⟩, ⟨x0, x1, x2⟩, ⟨m0, m1, m2⟩, ⟨t3, t3a, t3b⟩, -⟩ := hTc
  have hr : 0 ≤ X 38 13 ∧ X 38 13 ≤ 999 := hR.2.2.1.2.2.2.2.2.2.2.2.2.2.2.2.1
  obtain ⟨e1, f1⟩ := xm_isSaying hT h1
  obtain ⟨e2, f2⟩ := xm_comes (a := 1) (b := 1) (c := 1) hR (by omega) (by omega) (by omega)
  have done : ∀ r : Int, post (some r) (fun r1 => post (some (r, M)) (fun q => w32 r1 = w32 q.1 ∧ RR (k + 1) X q.2)) := fun r => post_some (post_some ⟨rfl, nv, np, ns, bk, RAll_up hR⟩)
  have key : post (x_X_odds a1 X) (fun r => post (m_odds a1 M) (fun q => w32 r = w32 q.1 ∧ RR (k + 1) X q.2)) := by
    have main : (a1 = -1 ∨ (0 ≤ a1 ∧ a1 < (ns : Int))) → post (x_X_odds_B15 a1 X) (fun r => post (m_odds_B13 a1 M) (fun q => w32 r = w32 q.1 ∧ RR (k + 1) X q.2)) := by
      intro ha
      unfold x_X_odds_B15 m_odds_B13 chk
      simp (disch := omega) only [x0, tb, m0, Int.toNat_natCast, if_pos, w32_eq]
      by_cases z0 : (nv : Int) = 0
      · rw [if_pos z0]
        rw [if_pos z0]
        exact done _
      · rw [if_neg z0]
        rw [if_neg z0]
        rw [e2, f2]
        simp only [bnd_some]
        by_cases c3 : (1 : Int) ≤ 1 ∧ (1 : Int) ≤ 1 ∧ X 38 13 + 1 ≤ 999
        · simp only [decide_eq_true c3, ↓reduceIte, lt_eq]
          by_cases z1 : a1 = -1
          · rw [if_neg (by omega)]
            rw [if_neg (by omega)]
            exact done _
          · rw [if_pos z1]
            rw [if_pos z1]
            obtain ⟨s, rfl⟩ := Int.eq_ofNat_of_zero_le (show 0 ≤ a1 by omega)
            have hs : s < ns := by omega
            have hw : 0 ≤ X 42 s ∧ X 42 s ≤ 5 := hR.2.2.1.2.2.2.1 s hs
            have hv45 : X 42 s = 2 → X 45 s < (nv : Int) := fun _ => (hR.2.2.1.2.2.2.2.2.2.1 s hs).2
            have n1 : (12 + (s : Int)).toNat = 12 + s := by omega
            simp (disch := omega) only [Int.toNat_natCast, w32_eq]
            obtain ⟨X2, M2, k1, k2, g1, g2, g3, g4, g5, g6, g7, g8⟩ := sim_fresh hR
            obtain ⟨h, d, Xm, X4, M4, q1, q2, q3, y0, y1, y2, y3, y4, y5, y6, y7, y8⟩ := sim_tick (v := 1) (ax := 127) g1 g2 g3 (by omega) (by omega) (same_all hnv) (by rw [g6.2.2]; omega)
            have hm4 : QM M M4 := QM_trans g5 (QM_t y3)
            have w4 : M4 29 (12 + s) = X4 55 s := y4.2.2.2.1 s hs
            have i4 : 0 ≤ X4 55 s ∧ X4 55 s ≤ 5 := y5.2.2.2.1 s hs
            have s55 : X2 (51 + 4) s = X 42 s := (g6.2.1 s hs).1
            have h54 : X4 55 s = 5 ↔ X 42 s = 5 := by
              have := sem5 y6 hs
              rw [s55] at this
              exact this
            have b0 : M4 0 13 = (bk : Int) := by rw [hm4 0 13 (by omega)]; exact tb
            have b3 : M4 11 bk = X 23 3 := by rw [hm4 11 bk (by omega)]; exact t3
            have b2 : M4 2 bk = (nv : Int) := by rw [hm4 2 bk (by omega)]; exact m0
            have hend : ∀ t0, t0 = (if X 42 s = 5 then (100 - X 23 3) * (nv : Int) else 0) → post (m_odds_B109 (s : Int) t0 M4) (fun q => q.1 = (if X 42 s = 5 then 100 * (nv : Int) else if X 42 s = 2 then X 23 3 else 0) ∧ RR (k + 1) X q.2) := by
              intro t0 ht0
              refine post_mono (odds_loop hR hs (by omega) t0 ht0 hm4) ?_
              rintro ⟨a, M5⟩ ⟨r1, r2⟩
              simp only at r1 r2 ⊢
              refine ⟨?_, nv, np, ns, bk, RAll_up (RAll_q hR (QX_refl X) r2)⟩
              rw [r1, ht0]
              unfold oddsAt
              by_cases z : X 42 s = 5
              · rw [if_pos z, if_pos z, if_pos z, Int.sub_mul]; omega
              · rw [if_neg z, if_neg z, if_neg z]
                by_cases z2 : X 42 s = 2
                · rw [if_pos ⟨z2, hv45 z2⟩, if_pos z2]; omega
                · rw [if_neg (fun q => z2 q.1), if_neg z2]; omega
            rw [k2]
            simp only [bnd_some]
            rw [m_all_eq g1]
            simp only [bnd_some]
            rw [show m_ticks 1 (((2 ^ nv : Nat) : Int) - 1) M2 = some M4 from q3]
            simp only [bnd_some]
            by_cases z5 : X 42 s = 5
            · have h5 := h54.mpr z5
              simp (disch := omega) only [n1, w4, w32_eq, b0, b3, b2, Int.toNat_natCast, h5, z5, not_true_eq_false, ↓reduceIte, if_pos]
              refine post_some (post_mono (hend _ (by rw [if_pos z5])) ?_)
              rintro q ⟨r1, r2⟩
              exact ⟨by rw [r1, if_pos z5], r2⟩
            · have h5 : ¬ X4 55 s = 5 := fun z => z5 (h54.mp z)
              have hh := hend 0 (by rw [if_neg z5])
              by_cases z2 : X 42 s = 2
              · simp (disch := omega) only [n1, w4, w32_eq, h5, z5, z2, not_true_eq_false, not_false_eq_true, ↓reduceIte]
                refine post_some (post_mono hh ?_)
                rintro q ⟨r1, r2⟩
                exact ⟨by rw [r1, if_neg z5, if_pos z2], r2⟩
              · simp (disch := omega) only [n1, w4, w32_eq, h5, z5, z2, not_true_eq_false, not_false_eq_true, ↓reduceIte]
                refine post_some (post_mono hh ?_)
                rintro q ⟨r1, r2⟩
                exact ⟨by rw [r1, if_neg z5, if_neg z2], r2⟩
        · simp only [decide_eq_false c3, Bool.false_eq_true, ↓reduceIte]
          exact done _
    unfold x_X_odds m_odds
    by_cases c1 : a1 = -1
    · rw [if_pos (by rw [c1])]
      rw [if_pos (by rw [c1])]
      exact main (Or.inl c1)
    · rw [if_neg (by rw [w32_eq (by omega) (by omega), w32_eq (by omega) (by omega)]; exact c1)]
      rw [if_neg (by rw [w32_eq (by omega) (by omega), w32_eq (by omega) (by omega)]; exact c1)]
      rw [e1, f1]
      simp only [bnd_some]
      by_cases c2 : 0 ≤ a1 ∧ a1 < (ns : Int)
      · simp only [decide_eq_true c2, ↓reduceIte]
        exact main (Or.inr c2)
      · simp only [decide_eq_false c2, Bool.false_eq_true, ↓reduceIte]
        exact post_some (post_some ⟨rfl, nv, np, ns, bk, RAll_up hR⟩)
  obtain ⟨r, g1, ⟨q, M1⟩, g2, g3, g4⟩ := key
  exact ⟨r, q, M1, g1, g2, g3, g4⟩
