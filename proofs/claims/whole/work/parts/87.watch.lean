/-! THE PURE PART: pitches -/
theorem watch_min {nv np ns bk k C p H : Nat} {v1 v3 u1 u2 : Int} {X M X1 M1 : Mem} (hR : RAll nv np ns bk k X M) (hX : X 354 0 = (H : Int)) (hC : C ≤ 31) (hp : p < 10) (hCm : X 38 13 + C ≤ 999) (hCx : C = 31 ∨ X 38 13 + C = 999) (hW : Watch nv np ns bk C p 0 X M X1 M1) :
    two (itr2 (x_Heard_watch_L42 v1 (C : Int) v3 (p : Int)) FUEL 0 X1) (itr3 (m_pitchBits_L32 u1 u2 (p : Int)) FUEL 0 0 M1) (fun r q => Watch nv np ns bk C p C X M r.2 q.2.2 ∧ q.1 = ((cnt (fun i => decide ((X 355 i).toNat < C ∧ Hit X r.2 p i = true)) H : Nat) : Int)) := by
  refine two_itr23 (fun n (i : Int) X1 (w j : Int) M1 => ∃ c : Nat, i = (c : Int) ∧ j = (c : Int) ∧ c ≤ C ∧ n = C - c ∧ Watch nv np ns bk C p c X M X1 M1 ∧ w = ((cnt (fun i => decide ((X 355 i).toNat < c ∧ Hit X X1 p i = true)) H : Nat) : Int)) _ ?_ FUEL C 0 X1 0 0 M1 (fuel_lt (by omega)) ⟨0, rfl, rfl, by omega, rfl, hW, ?_⟩
  · rintro n i X1 w j M1 ⟨c, rfl, rfl, hc, rfl, hW, rfl⟩ F G ih
    have hm13 : 0 ≤ X 38 13 := hR.2.2.1.2.2.2.2.2.2.2.2.2.2.2.2.1.1
    have e38 : X1 38 = X 38 := hW.2.2.2.1 38 (by omega) (by omega) (by omega) (by omega) (by omega)
    have hcm := (xm_comes (a := (c : Int) + 1) (b := 1) (c := 31) (RAll_q hR hW.2.2.2.1 hW.2.2.2.2.1) (by omega) (by omega) (by omega)).2
    rw [e38] at hcm
    unfold x_Heard_watch_L42 m_pitchBits_L32
    refine two_bnd_r hcm ?_
    by_cases h : c < C
    · rw [decide_eq_true (show 1 ≤ (c : Int) + 1 ∧ (c : Int) + 1 ≤ 31 ∧ X 38 13 + ((c : Int) + 1) ≤ 999 by omega), if_pos rfl]
      obtain ⟨hh, d, Xm, Xw, X2, M2, M3, a1, a2, a3, am, b1, b2, b3, b4, b5, b6, b7, b8⟩ := watch_step (v1 := v1) (v2 := (C : Int)) (v3 := v3) (u1 := u1) (u2 := u2) hR hX hC hp h hCm rfl hW
      repeat' (first | with_reducible refine two_lt_l ?_ | (with_reducible refine two_chk_l ?_ ?_; focus ((try simp (disch := omega) only [Bool.false_eq_true, not_true_eq_false, not_false_eq_true, Nat.reduceAdd, Nat.reduceMul, w32_eq, w64_eq, lc_eq, lc_lt, lc_le, lc_gt, lc_ge, up_k, up_i, up_e, Int.toNat_natCast, tn7, tn8, tn12, tn3, tn120, tn1600, w32_and, w32_or, w32_xor, w32_shl, w32_shr, has2_eq]) <;> omega)) | (with_reducible refine two_ite_l (fun hcl => ?_) (fun hcl => ?_) <;> (try simp (disch := omega) only [Bool.false_eq_true, not_true_eq_false, not_false_eq_true, Nat.reduceAdd, Nat.reduceMul, w32_eq, w64_eq, lc_eq, lc_lt, lc_le, lc_gt, lc_ge, up_k, up_i, up_e, Int.toNat_natCast, tn7, tn8, tn12, tn3, tn120, tn1600, w32_and, w32_or, w32_xor, w32_shl, w32_shr, has2_eq] at hcl) <;> (try (exfalso; first | omega | exact hcl rfl | exact hcl trivial | contradiction))))
      refine two_bnd2_l b1 ?_
      refine two_bnd_l b2 ?_
      refine two_bnd2_l b3 ?_
      refine two_bnd_r b4 ?_
      refine two_bnd_r b5 ?_
      refine two_bnd_r b6 ?_
      refine two_bnd_r b7 ?_
      refine two_lt_l ?_
      refine two_lt_r ?_
      exact ih (C - (c + 1)) _ _ _ _ _ (by omega) ⟨c + 1, rfl, rfl, by omega, rfl, b8, rfl⟩
    · have e : c = C := by omega
      subst e
      rw [decide_eq_false (by omega), if_neg (show ¬ (false = true) from Bool.false_ne_true)]
      repeat' (first | with_reducible refine two_lt_l ?_ | (with_reducible refine two_chk_l ?_ ?_; focus ((try simp (disch := omega) only [Bool.false_eq_true, not_true_eq_false, not_false_eq_true, Nat.reduceAdd, Nat.reduceMul, w32_eq, w64_eq, lc_eq, lc_lt, lc_le, lc_gt, lc_ge, up_k, up_i, up_e, Int.toNat_natCast, tn7, tn8, tn12, tn3, tn120, tn1600, w32_and, w32_or, w32_xor, w32_shl, w32_shr, has2_eq]) <;> omega)) | (with_reducible refine two_ite_l (fun hcl => ?_) (fun hcl => ?_) <;> (try simp (disch := omega) only [Bool.false_eq_true, not_true_eq_false, not_false_eq_true, Nat.reduceAdd, Nat.reduceMul, w32_eq, w64_eq, lc_eq, lc_lt, lc_le, lc_gt, lc_ge, up_k, up_i, up_e, Int.toNat_natCast, tn7, tn8, tn12, tn3, tn120, tn1600, w32_and, w32_or, w32_xor, w32_shl, w32_shr, has2_eq] at hcl) <;> (try (exfalso; first | omega | exact hcl rfl | exact hcl trivial | contradiction))))
      exact two_some ⟨hW, rfl⟩
  · have : cnt (fun i => decide ((X 355 i).toNat < 0 ∧ Hit X X1 p i = true)) H = 0 := by
      have : ∀ n, cnt (fun i => decide ((X 355 i).toNat < 0 ∧ Hit X X1 p i = true)) n = 0 := fun n => by
        induction n with
        | zero => rfl
        | succ n ih =>
          show cnt _ n + (if decide _ = true then 1 else 0) = 0
          rw [ih, if_neg (by rw [decide_eq_true_eq]; omega)]
      exact this H
    rw [this]; rfl
theorem or32_0 {n : Nat} (hn : n < 2147483648) : or32 (n : Int) 0 = (n : Int) := by
  have := or32_nat hn (show 0 < 2147483648 by omega)
  rw [Nat.or_zero] at this
  exact this
theorem Cells_pass {nv ns C p : Nat} {X M X1 M1 : Mem} (h : Cells nv ns C (31 * p + C) X M) (hx : ∀ q, q < 10 → X1 (359 + q) = X (359 + q)) (hm : M1 44 = M 44) : Cells nv ns C (31 * (p + 1) + 0) X1 M1 := by
  intro q j s hq hj hs hlt
  rw [hx q hq, hm]
  exact h q j s hq hj hs (by omega)
/-- the whole watch: the same set of pitches, and all that was heard -/
theorem sim_watch {nv np ns bk k v : Nat} {X M : Mem} (hR : RAll nv np ns bk k X M) (hv : v < nv) :
    two (x_Heard_watch (v : Int) X) (m_pitchBits (v : Int) M) (fun r q => ∃ (z C : Nat), r.1 = (z : Int) ∧ q.1 = (z : Int) ∧ z < 1024 ∧ C ≤ 31 ∧ X 38 13 + C ≤ 999 ∧ (C = 31 ∨ X 38 13 + C = 999) ∧ QX X r.2 ∧ QM M q.2 ∧ Cells nv ns C 310 r.2 q.2) := by
  have hnv := hR.1.1.2.2.1
  have hns := hR.1.1.2.2.2.2
  have hH := hR.2.2.2.2.2.2.2.2.1
  have hm13 : 0 ≤ X 38 13 ∧ X 38 13 ≤ 999 := hR.2.2.1.2.2.2.2.2.2.2.2.2.2.2.2.1
  obtain ⟨C, hCd⟩ : ∃ C : Nat, (C : Int) = min 31 (999 - X 38 13) := ⟨(min 31 (999 - X 38 13)).toNat, by omega⟩
  have hC : C ≤ 31 := by omega
  have hCm : X 38 13 + C ≤ 999 := by omega
  have hCx : C = 31 ∨ X 38 13 + C = 999 := by omega
  have hmin : x_Heard_minutesComing X = some (C : Int) := by
    unfold x_Heard_minutesComing
    rw [xmin (by omega) (by omega), bnd_some]
    congr 1
    split <;> omega
  obtain ⟨H, hX⟩ := Int.eq_ofNat_of_zero_le hH.2.1
  have hX : X 354 0 = (H : Int) := hX
  unfold x_Heard_watch m_pitchBits
  refine two_bnd_l hmin ?_
  refine two_bnd (two_itr33 (fun n (a i : Int) X1 (b j : Int) M1 => ∃ c z : Nat, i = (c : Int) ∧ j = (c : Int) ∧ c ≤ 10 ∧ n = 10 - c ∧ a = (z : Int) ∧ b = (z : Int) ∧ z < 1024 ∧ QX X X1 ∧ QM M M1 ∧ Cells nv ns C (31 * c + 0) X1 M1) (fun r q => ∃ z : Nat, r.1 = (z : Int) ∧ q.1 = (z : Int) ∧ z < 1024 ∧ QX X r.2.2 ∧ QM M q.2.2 ∧ Cells nv ns C 310 r.2.2 q.2.2) ?_ FUEL 10 0 0 X 0 0 M (fuel_lt (by omega)) ⟨0, 0, rfl, rfl, by omega, rfl, rfl, rfl, by omega, QX_refl X, QM_refl M, fun q j s _ _ _ h => by omega⟩) ?_
  · rintro n a i X1 b j M1 ⟨c, z, rfl, rfl, hc, rfl, rfl, rfl, hz, hx, hm, hcell⟩ F G ih
    unfold x_Heard_watch_L10 m_pitchBits_L4
    by_cases h : c < 10
    · have hR1 := RAll_q hR hx hm
      obtain ⟨X2, M2, e1, e2, hT2, hS2, hI2, hx2, hm2, hcop, ho, hmo⟩ := sim_fresh hR1
      unfold x_X_fresh at e1
      rw [bnd_id] at e1
      have hv7 : v < 7 := by omega
      have t0 : (7 + (v : Int)).toNat = 7 * 1 + v := by omega
      have s1 := RS_pitch (s := v) (w := (c : Int)) hS2 hnv
      have s2 := SI_pitch (s := v) (w := (c : Int)) hI2 (by omega)
      have hx3 : QX X (upM X2 (51 + 1) v (c : Int)) := fun a q1 q2 q3 q4 q5 => by rw [upM_row (by omega), hx2 a q1 q2 q3 q4 q5]; exact hx a q1 q2 q3 q4 q5
      have hm3 : QM M (upM M2 26 (7 * 1 + v) (c : Int)) := fun a i q => by
        by_cases ea : a = 26
        · subst ea
          by_cases ei : i = 7 * 1 + v
          · subst ei; rw [(lay7 (by omega)).1] at q; omega
          · rw [up_i ei, hm2 _ _ q]; exact hm _ _ q
        · rw [upM_row ea, hm2 _ _ q]; exact hm _ _ q
      have hT3 : RT nv np ns bk (upM X2 (51 + 1) v (c : Int)) (upM M2 26 (7 * 1 + v) (c : Int)) := RT_of hT2 (fun a q1 q2 q3 => upM_row (by omega)) (by rw [up_k (by omega)]) (fun a q1 q2 => upM_row (by omega))
      have hW : Watch nv np ns bk C c 0 X M (upM X2 (51 + 1) v (c : Int)) (upM M2 26 (7 * 1 + v) (c : Int)) := by
        refine ⟨hT3, s1, s2, hx3, hm3, ?_, ?_⟩
        · rw [up_k (by omega), hcop.2.2, hx 38 (by omega) (by omega) (by omega) (by omega) (by omega)]; omega
        · intro q j s hq hj hs hlt
          rw [upM_row (by omega), ho (359 + q) (by omega), upM_row (by omega)]
          have : M2 44 = M1 44 := by funext i; exact hmo 44 i (by omega)
          rw [this]
          exact hcell q j s hq hj hs hlt
      obtain ⟨⟨i5, X5⟩, ⟨w5, j5, M5⟩, g1, g2, g3, g4⟩ := watch_min (v1 := (v : Int)) (v3 := (z : Int)) (u1 := (v : Int)) (u2 := (z : Int)) hR hX hC h hCm hCx hW
      simp only at g3 g4
      obtain ⟨k1, k2, k3, k4, k5, k6, k7⟩ := g3
      have fit := x_fits_is (p := c) (C := C) (X1 := X5) (H := H) hns hH hX (k4 354 (by omega) (by omega) (by omega) (by omega) (by omega)) (k4 355 (by omega) (by omega) (by omega) (by omega) (by omega)) (k4 356 (by omega) (by omega) (by omega) (by omega) (by omega)) (k4 357 (by omega) (by omega) (by omega) (by omega) (by omega)) hnv h hC (fun j s hj hs => by
        have := k7 c j s h hj hs (by omega)
        unfold CellOk at this
        omega)
      obtain ⟨b, fb, hb⟩ := fit
      have hM63 : M5 0 63 = (H : Int) := by rw [k5 0 63 (by omega), ← hH.1]; exact hX
      have hle := cnt_le (fun i => decide ((X 355 i).toNat < C ∧ Hit X X5 c i = true)) H
      have hb2 : b = true ↔ w5 = (H : Int) := by
        rw [hb, ← cnt_all, g4]
        omega
      have hor := or_rng (x := (z : Int)) (k := c) (b := 10) (by omega) (by omega) (by omega) h
      obtain ⟨y, hy⟩ := Int.eq_ofNat_of_zero_le hor.1
      have hC7 := Cells_pass (X1 := X5) (M1 := M5) k7 (fun _ _ => rfl) rfl
      repeat' (first | with_reducible refine two_lt_l ?_ | (with_reducible refine two_chk_l ?_ ?_; focus ((try simp (disch := omega) only [Bool.false_eq_true, not_true_eq_false, not_false_eq_true, Nat.reduceAdd, Nat.reduceMul, w32_eq, w64_eq, lc_eq, lc_lt, lc_le, lc_gt, lc_ge, up_k, up_i, up_e, Int.toNat_natCast, tn7, tn8, tn12, tn3, tn120, tn1600, w32_and, w32_or, w32_xor, w32_shl, w32_shr, has2_eq]) <;> omega)) | (with_reducible refine two_ite_l (fun hcl => ?_) (fun hcl => ?_) <;> (try simp (disch := omega) only [Bool.false_eq_true, not_true_eq_false, not_false_eq_true, Nat.reduceAdd, Nat.reduceMul, w32_eq, w64_eq, lc_eq, lc_lt, lc_le, lc_gt, lc_ge, up_k, up_i, up_e, Int.toNat_natCast, tn7, tn8, tn12, tn3, tn120, tn1600, w32_and, w32_or, w32_xor, w32_shl, w32_shr, has2_eq] at hcl) <;> (try (exfalso; first | omega | exact hcl rfl | exact hcl trivial | contradiction))))
      repeat' (first | with_reducible refine two_lt_r ?_ | (with_reducible refine two_chk_r ?_ ?_; focus ((try simp (disch := omega) only [Bool.false_eq_true, not_true_eq_false, not_false_eq_true, Nat.reduceAdd, Nat.reduceMul, w32_eq, w64_eq, lc_eq, lc_lt, lc_le, lc_gt, lc_ge, up_k, up_i, up_e, Int.toNat_natCast, tn7, tn8, tn12, tn3, tn120, tn1600, w32_and, w32_or, w32_xor, w32_shl, w32_shr, has2_eq]) <;> omega)) | (with_reducible refine two_ite_r (fun hcr => ?_) (fun hcr => ?_) <;> (try simp (disch := omega) only [Bool.false_eq_true, not_true_eq_false, not_false_eq_true, Nat.reduceAdd, Nat.reduceMul, w32_eq, w64_eq, lc_eq, lc_lt, lc_le, lc_gt, lc_ge, up_k, up_i, up_e, Int.toNat_natCast, tn7, tn8, tn12, tn3, tn120, tn1600, w32_and, w32_or, w32_xor, w32_shl, w32_shr, has2_eq] at hcr) <;> (try (exfalso; first | omega | exact hcr rfl | exact hcr trivial | contradiction))))
      refine two_bnd_l e1 ?_
      refine two_bnd_r e2 ?_
      repeat' (first | with_reducible refine two_lt_l ?_ | (with_reducible refine two_chk_l ?_ ?_; focus ((try simp (disch := omega) only [Bool.false_eq_true, not_true_eq_false, not_false_eq_true, Nat.reduceAdd, Nat.reduceMul, w32_eq, w64_eq, lc_eq, lc_lt, lc_le, lc_gt, lc_ge, up_k, up_i, up_e, Int.toNat_natCast, tn7, tn8, tn12, tn3, tn120, tn1600, w32_and, w32_or, w32_xor, w32_shl, w32_shr, has2_eq]) <;> omega)) | (with_reducible refine two_ite_l (fun hcl => ?_) (fun hcl => ?_) <;> (try simp (disch := omega) only [Bool.false_eq_true, not_true_eq_false, not_false_eq_true, Nat.reduceAdd, Nat.reduceMul, w32_eq, w64_eq, lc_eq, lc_lt, lc_le, lc_gt, lc_ge, up_k, up_i, up_e, Int.toNat_natCast, tn7, tn8, tn12, tn3, tn120, tn1600, w32_and, w32_or, w32_xor, w32_shl, w32_shr, has2_eq] at hcl) <;> (try (exfalso; first | omega | exact hcl rfl | exact hcl trivial | contradiction))))
      repeat' (first | with_reducible refine two_lt_r ?_ | (with_reducible refine two_chk_r ?_ ?_; focus ((try simp (disch := omega) only [Bool.false_eq_true, not_true_eq_false, not_false_eq_true, Nat.reduceAdd, Nat.reduceMul, w32_eq, w64_eq, lc_eq, lc_lt, lc_le, lc_gt, lc_ge, up_k, up_i, up_e, Int.toNat_natCast, tn7, tn8, tn12, tn3, tn120, tn1600, w32_and, w32_or, w32_xor, w32_shl, w32_shr, has2_eq]) <;> omega)) | (with_reducible refine two_ite_r (fun hcr => ?_) (fun hcr => ?_) <;> (try simp (disch := omega) only [Bool.false_eq_true, not_true_eq_false, not_false_eq_true, Nat.reduceAdd, Nat.reduceMul, w32_eq, w64_eq, lc_eq, lc_lt, lc_le, lc_gt, lc_ge, up_k, up_i, up_e, Int.toNat_natCast, tn7, tn8, tn12, tn3, tn120, tn1600, w32_and, w32_or, w32_xor, w32_shl, w32_shr, has2_eq] at hcr) <;> (try (exfalso; first | omega | exact hcr rfl | exact hcr trivial | contradiction))))
      simp only [t0, Int.toNat_natCast]
      refine two_bnd_l g1 ?_
      refine two_bnd_r g2 ?_
      refine two_bnd_l fb ?_
      simp only
      have hH16 : H ≤ 16 := by have := hH.2.2.1; omega
      by_cases hbt : b = true
      · rw [if_pos hbt]
        repeat' (first | with_reducible refine two_lt_l ?_ | (with_reducible refine two_chk_l ?_ ?_; focus ((try simp (disch := omega) only [Bool.false_eq_true, not_true_eq_false, not_false_eq_true, Nat.reduceAdd, Nat.reduceMul, w32_eq, w64_eq, lc_eq, lc_lt, lc_le, lc_gt, lc_ge, up_k, up_i, up_e, Int.toNat_natCast, tn7, tn8, tn12, tn3, tn120, tn1600, w32_and, w32_or, w32_xor, w32_shl, w32_shr, has2_eq]) <;> omega)) | (with_reducible refine two_ite_l (fun hcl => ?_) (fun hcl => ?_) <;> (try simp (disch := omega) only [Bool.false_eq_true, not_true_eq_false, not_false_eq_true, Nat.reduceAdd, Nat.reduceMul, w32_eq, w64_eq, lc_eq, lc_lt, lc_le, lc_gt, lc_ge, up_k, up_i, up_e, Int.toNat_natCast, tn7, tn8, tn12, tn3, tn120, tn1600, w32_and, w32_or, w32_xor, w32_shl, w32_shr, has2_eq] at hcl) <;> (try (exfalso; first | omega | exact hcl rfl | exact hcl trivial | contradiction))))
        repeat' (first | with_reducible refine two_lt_r ?_ | (with_reducible refine two_chk_r ?_ ?_; focus ((try simp (disch := omega) only [Bool.false_eq_true, not_true_eq_false, not_false_eq_true, Nat.reduceAdd, Nat.reduceMul, w32_eq, w64_eq, lc_eq, lc_lt, lc_le, lc_gt, lc_ge, up_k, up_i, up_e, Int.toNat_natCast, tn7, tn8, tn12, tn3, tn120, tn1600, w32_and, w32_or, w32_xor, w32_shl, w32_shr, has2_eq, hM63, g4]) <;> omega)) | (with_reducible refine two_ite_r (fun hcr => ?_) (fun hcr => ?_) <;> (try simp (disch := omega) only [Bool.false_eq_true, not_true_eq_false, not_false_eq_true, Nat.reduceAdd, Nat.reduceMul, w32_eq, w64_eq, lc_eq, lc_lt, lc_le, lc_gt, lc_ge, up_k, up_i, up_e, Int.toNat_natCast, tn7, tn8, tn12, tn3, tn120, tn1600, w32_and, w32_or, w32_xor, w32_shl, w32_shr, has2_eq, hM63, g4] at hcr) <;> (try (exfalso; first | omega | exact hcr rfl | exact hcr trivial | contradiction))))
        · exfalso
          have := hb2.mp hbt
          rw [g4] at this
          omega
        · rw [hy]
          exact ih (10 - (c + 1)) _ _ _ _ _ _ (by omega) ⟨c + 1, y, rfl, rfl, by omega, rfl, rfl, rfl, by omega, k4, k5, hC7⟩
      · rw [if_neg hbt]
        repeat' (first | with_reducible refine two_lt_l ?_ | (with_reducible refine two_chk_l ?_ ?_; focus ((try simp (disch := omega) only [Bool.false_eq_true, not_true_eq_false, not_false_eq_true, Nat.reduceAdd, Nat.reduceMul, w32_eq, w64_eq, lc_eq, lc_lt, lc_le, lc_gt, lc_ge, up_k, up_i, up_e, Int.toNat_natCast, tn7, tn8, tn12, tn3, tn120, tn1600, w32_and, w32_or, w32_xor, w32_shl, w32_shr, has2_eq]) <;> omega)) | (with_reducible refine two_ite_l (fun hcl => ?_) (fun hcl => ?_) <;> (try simp (disch := omega) only [Bool.false_eq_true, not_true_eq_false, not_false_eq_true, Nat.reduceAdd, Nat.reduceMul, w32_eq, w64_eq, lc_eq, lc_lt, lc_le, lc_gt, lc_ge, up_k, up_i, up_e, Int.toNat_natCast, tn7, tn8, tn12, tn3, tn120, tn1600, w32_and, w32_or, w32_xor, w32_shl, w32_shr, has2_eq] at hcl) <;> (try (exfalso; first | omega | exact hcl rfl | exact hcl trivial | contradiction))))
        repeat' (first | with_reducible refine two_lt_r ?_ | (with_reducible refine two_chk_r ?_ ?_; focus ((try simp (disch := omega) only [Bool.false_eq_true, not_true_eq_false, not_false_eq_true, Nat.reduceAdd, Nat.reduceMul, w32_eq, w64_eq, lc_eq, lc_lt, lc_le, lc_gt, lc_ge, up_k, up_i, up_e, Int.toNat_natCast, tn7, tn8, tn12, tn3, tn120, tn1600, w32_and, w32_or, w32_xor, w32_shl, w32_shr, has2_eq, hM63, g4]) <;> omega)) | (with_reducible refine two_ite_r (fun hcr => ?_) (fun hcr => ?_) <;> (try simp (disch := omega) only [Bool.false_eq_true, not_true_eq_false, not_false_eq_true, Nat.reduceAdd, Nat.reduceMul, w32_eq, w64_eq, lc_eq, lc_lt, lc_le, lc_gt, lc_ge, up_k, up_i, up_e, Int.toNat_natCast, tn7, tn8, tn12, tn3, tn120, tn1600, w32_and, w32_or, w32_xor, w32_shl, w32_shr, has2_eq, hM63, g4] at hcr) <;> (try (exfalso; first | omega | exact hcr rfl | exact hcr trivial | contradiction))))
        · rw [or32_0 (by omega)]
          exact ih (10 - (c + 1)) _ _ _ _ _ _ (by omega) ⟨c + 1, z, rfl, rfl, by omega, rfl, rfl, rfl, by omega, k4, k5, hC7⟩
        · exfalso
          exact hbt (hb2.mpr (by rw [g4]; omega))
    · have e : c = 10 := by omega
      subst e
      repeat' (first | with_reducible refine two_lt_l ?_ | (with_reducible refine two_chk_l ?_ ?_; focus ((try simp (disch := omega) only [Bool.false_eq_true, not_true_eq_false, not_false_eq_true, Nat.reduceAdd, Nat.reduceMul, w32_eq, w64_eq, lc_eq, lc_lt, lc_le, lc_gt, lc_ge, up_k, up_i, up_e, Int.toNat_natCast, tn7, tn8, tn12, tn3, tn120, tn1600, w32_and, w32_or, w32_xor, w32_shl, w32_shr, has2_eq]) <;> omega)) | (with_reducible refine two_ite_l (fun hcl => ?_) (fun hcl => ?_) <;> (try simp (disch := omega) only [Bool.false_eq_true, not_true_eq_false, not_false_eq_true, Nat.reduceAdd, Nat.reduceMul, w32_eq, w64_eq, lc_eq, lc_lt, lc_le, lc_gt, lc_ge, up_k, up_i, up_e, Int.toNat_natCast, tn7, tn8, tn12, tn3, tn120, tn1600, w32_and, w32_or, w32_xor, w32_shl, w32_shr, has2_eq] at hcl) <;> (try (exfalso; first | omega | exact hcl rfl | exact hcl trivial | contradiction))))
      repeat' (first | with_reducible refine two_lt_r ?_ | (with_reducible refine two_chk_r ?_ ?_; focus ((try simp (disch := omega) only [Bool.false_eq_true, not_true_eq_false, not_false_eq_true, Nat.reduceAdd, Nat.reduceMul, w32_eq, w64_eq, lc_eq, lc_lt, lc_le, lc_gt, lc_ge, up_k, up_i, up_e, Int.toNat_natCast, tn7, tn8, tn12, tn3, tn120, tn1600, w32_and, w32_or, w32_xor, w32_shl, w32_shr, has2_eq]) <;> omega)) | (with_reducible refine two_ite_r (fun hcr => ?_) (fun hcr => ?_) <;> (try simp (disch := omega) only [Bool.false_eq_true, not_true_eq_false, not_false_eq_true, Nat.reduceAdd, Nat.reduceMul, w32_eq, w64_eq, lc_eq, lc_lt, lc_le, lc_gt, lc_ge, up_k, up_i, up_e, Int.toNat_natCast, tn7, tn8, tn12, tn3, tn120, tn1600, w32_and, w32_or, w32_xor, w32_shl, w32_shr, has2_eq] at hcr) <;> (try (exfalso; first | omega | exact hcr rfl | exact hcr trivial | contradiction))))
      exact two_some ⟨z, rfl, rfl, hz, hx, hm, hcell⟩
  · rintro ⟨a, i, X1⟩ ⟨b, j, M1⟩ ⟨z, g1, g2, g3, g4, g5, g6⟩
    exact two_some ⟨z, C, g1, g2, g3, hC, hCm, hCx, g4, g5, g6⟩
theorem ls_pitches : LS_pitches RR := by
  rintro k X M a1 hk h1 ⟨nv, np, ns, bk, hR⟩
  apply ls_of
  unfold i32 at h1
  obtain ⟨e1, f1⟩ := xm_isVoice hR.1 h1
  unfold x_X_pitches m_pitches
  refine two_bnd_l e1 ?_
  refine two_bnd_r f1 ?_
  by_cases c1 : 0 ≤ a1 ∧ a1 < (nv : Int)
  · simp only [decide_eq_true c1, ↓reduceIte]
    obtain ⟨v, rfl⟩ := Int.eq_ofNat_of_zero_le c1.1
    obtain ⟨⟨r, X1⟩, ⟨q, M1⟩, g1, g2, z, C, g3, g4, g5, g6, g7, g8, g9, g10, g11⟩ := sim_watch hR (v := v) (by omega)
    simp only at g3 g4 g9 g10
    refine two_bnd2_l g1 ?_
    refine two_bnd2_r g2 ?_
    exact two_some ⟨by simp only [g3, g4], nv, np, ns, bk, RAll_up (RAll_q hR g9 g10)⟩
  · simp only [decide_eq_false c1, Bool.false_eq_true, ↓reduceIte]
    exact two_some ⟨rfl, nv, np, ns, bk, RAll_up hR⟩
