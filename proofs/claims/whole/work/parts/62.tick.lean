/-! THE PURE PART: the end of a minute, whole minutes -/
/-- who is heard (the reference's row 39), of the state X -/
def HeardEq (ns th : Nat) (X M : Mem) : Prop := ∀ j, j < ns → M 39 j = if X (th + 4) j = 2 then X (th + 7) j else -1
theorem up_shadow {M : Mem} {k i k2 i2 : Nat} {w z u : Int} (h : k2 ≠ k) : upM (upM (upM M k i w) k2 i2 z) k i u = upM (upM M k2 i2 z) k i u := by
  funext a j
  by_cases e : a = k
  · subst e
    by_cases e2 : j = i
    · subst e2; rw [up_e, up_e]
    · rw [up_i e2, up_i e2, up_k (fun q => h q.symm), up_k (fun q => h q.symm), up_i e2]
  · rw [up_k e, up_k e]
    by_cases e3 : a = k2
    · subst e3
      by_cases e4 : j = i2
      · subst e4; rw [up_e, up_e]
      · rw [up_i e4, up_i e4, up_k e]
    · rw [up_k e3, up_k e3, up_k e]
theorem concl_left {th s : Nat} {w to : Int} {X : Mem} : x_State_conclude th (s : Int) to (upM X (th + 8) s w) = x_State_conclude th (s : Int) to X := by
  unfold x_State_conclude
  simp only [lt_eq, Int.toNat_natCast]
  rw [up_shadow (by omega)]
theorem writes_left {v s : Nat} {w to : Int} {M : Mem} : m_writesDown (v : Int) (s : Int) to (upM M 33 (12 * v + s) w) = m_writesDown (v : Int) (s : Int) to M := by
  unfold m_writesDown
  simp only [lt_eq, tn12]
  rw [up_shadow (by omega)]
theorem sim_said {nv np ns bk th v : Nat} {X M : Mem} (hT : RT nv np ns bk X M) (hS : RS nv ns th v X M) (hI : SI nv ns th X) (hth : 38 ≤ th) (hv : v < 22) :
    two (itr3 (x_State_finish_L4 th) FUEL 0 0 X) (itr2 (m_ticks_L198 (v : Int)) FUEL 0 M) (fun p q => ∃ d : Nat, p.1 = (d : Int) ∧ d ≤ ns ∧ Both nv ns th v 0 d X M p.2.2 q.2 ∧ HeardEq ns th X q.2) := by
  have hns := hT.1.2.2.2.2
  refine two_itr32 (fun n a i X1 j M1 => ∃ c d : Nat, a = (d : Int) ∧ d ≤ c ∧ i = (c : Int) ∧ j = (c : Int) ∧ n = ns - c ∧ c ≤ ns ∧ Both nv ns th v 0 d X M X1 M1 ∧ (∀ j, c ≤ j → j < ns → X1 (th + 4) j = X (th + 4) j ∧ X1 (th + 7) j = X (th + 7) j) ∧ (∀ j, j < c → M1 39 j = if X (th + 4) j = 2 then X (th + 7) j else -1)) _ ?_ FUEL ns 0 0 X 0 M (fuel_lt (by omega)) ⟨0, 0, rfl, by omega, rfl, rfl, rfl, by omega, ⟨hS, hI, FXt_refl _ _, FMt_refl _ _, Sem_refl, rfl⟩, fun _ _ _ => ⟨rfl, rfl⟩, fun j hj => by omega⟩
  rintro n a i X1 j M1 ⟨c, dd, rfl, hdc, rfl, rfl, rfl, hc, ⟨hS1, hI1, hx, hm, hsem, h13⟩, hold, hh⟩ F G ih
  have hT1 := RT_t hT hth hx hm
  have hT1' := hT1
  obtain ⟨⟨tb, tb2, tnv, tnp, tns⟩, ⟨x0, x1, x2⟩, ⟨m0, m1, m2⟩, -⟩ := hT1'
  have hS1' := hS1
  obtain ⟨rp, rs, rb, rw, rd, rt, rv, rl, rx, rk, rm, rk1, rk2, rk3, rz1, rz2⟩ := hS1'
  have hI1' := hI1
  obtain ⟨ip, is, ib, iw, id, it, iv, il, ix, isnd, inm, iin, im, ik⟩ := hI1'
  unfold x_State_finish_L4 m_ticks_L198
  by_cases h : c < ns
  · have h1 := iw c h
    have h2 := il c h
    have h3 := iv c h
    obtain ⟨o1, o2⟩ := hold c (by omega) h
    have f39 : ∀ z : Int, FMt v M1 (upM M1 39 c z) := fun z => FMt_up ⟨by omega, by omega, by omega⟩
    have hS39 : ∀ z : Int, RS nv ns th v X1 (upM M1 39 c z) := fun z => RS_of hS1 (fun _ _ _ => rfl) (fun a h1 h2 => upM_row (by omega))
    unfold m_ticks_L198_B246
    repeat' (first | with_reducible refine two_lt_l ?_ | (with_reducible refine two_chk_l ?_ ?_; focus ((try simp (disch := omega) only [Bool.false_eq_true, not_true_eq_false, not_false_eq_true, Nat.reduceAdd, Nat.reduceMul, w32_eq, w64_eq, lc_eq, lc_lt, lc_le, lc_gt, lc_ge, up_k, up_i, up_e, Int.toNat_natCast, tn7, tn8, tn12, tn3, tn120, tn1600, w32_and, w32_or, w32_xor, w32_shl, w32_shr, has2_eq, x2]) <;> omega)) | (with_reducible refine two_ite_l (fun hcl => ?_) (fun hcl => ?_) <;> (try simp (disch := omega) only [Bool.false_eq_true, not_true_eq_false, not_false_eq_true, Nat.reduceAdd, Nat.reduceMul, w32_eq, w64_eq, lc_eq, lc_lt, lc_le, lc_gt, lc_ge, up_k, up_i, up_e, Int.toNat_natCast, tn7, tn8, tn12, tn3, tn120, tn1600, w32_and, w32_or, w32_xor, w32_shl, w32_shr, has2_eq, x2] at hcl) <;> (try (exfalso; first | omega | exact hcl rfl | exact hcl trivial | contradiction))))
    · repeat' (first | with_reducible refine two_lt_r ?_ | (with_reducible refine two_chk_r ?_ ?_; focus ((try simp (disch := omega) only [Bool.false_eq_true, not_true_eq_false, not_false_eq_true, Nat.reduceAdd, Nat.reduceMul, w32_eq, w64_eq, lc_eq, lc_lt, lc_le, lc_gt, lc_ge, up_k, up_i, up_e, Int.toNat_natCast, tn7, tn8, tn12, tn3, tn120, tn1600, w32_and, w32_or, w32_xor, w32_shl, w32_shr, has2_eq, tb, m2, rw]) <;> omega)) | (with_reducible refine two_ite_r (fun hcr => ?_) (fun hcr => ?_) <;> (try simp (disch := omega) only [Bool.false_eq_true, not_true_eq_false, not_false_eq_true, Nat.reduceAdd, Nat.reduceMul, w32_eq, w64_eq, lc_eq, lc_lt, lc_le, lc_gt, lc_ge, up_k, up_i, up_e, Int.toNat_natCast, tn7, tn8, tn12, tn3, tn120, tn1600, w32_and, w32_or, w32_xor, w32_shl, w32_shr, has2_eq, tb, m2, rw] at hcr) <;> (try (exfalso; first | omega | exact hcr rfl | exact hcr trivial | contradiction))))
      simp only [Int.toNat_natCast] at *
      refine ih (ns - (c + 1)) _ _ _ _ _ (by omega) ⟨c + 1, dd, rfl, by omega, rfl, rfl, rfl, by omega, ⟨hS39 _, hI1, hx, FMt_trans hm (f39 _), hsem, h13⟩, fun j hj hj2 => hold j (by omega) hj2, fun j hj => ?_⟩
      by_cases e : j = c
      · subst e; rw [up_e, if_neg (by omega)]
      · rw [up_i e]; exact hh j (by omega)
    · have hw2 : X1 (th + 4) c = 2 := by omega
      obtain ⟨s1, s2, s3⟩ := isnd c h hw2
      simp only [Int.toNat_natCast] at *
      have hhd : ∀ (w : Int) (j : Nat), j < c + 1 → upM (upM M1 39 c (X1 (th + 7) c)) 33 (12 * v + c) w 39 j = if X (th + 4) j = 2 then X (th + 7) j else -1 := fun w j hj => by
        rw [up_k (by omega)]
        by_cases e : j = c
        · subst e; rw [up_e, if_pos (by omega), o2]
        · rw [up_i e]; exact hh j (by omega)
      repeat' (first | with_reducible refine two_lt_r ?_ | (with_reducible refine two_chk_r ?_ ?_; focus ((try simp (disch := omega) only [Bool.false_eq_true, not_true_eq_false, not_false_eq_true, Nat.reduceAdd, Nat.reduceMul, w32_eq, w64_eq, lc_eq, lc_lt, lc_le, lc_gt, lc_ge, up_k, up_i, up_e, Int.toNat_natCast, tn7, tn8, tn12, tn3, tn120, tn1600, w32_and, w32_or, w32_xor, w32_shl, w32_shr, has2_eq, tb, m2, rw, rv, rl]) <;> omega)) | (with_reducible refine two_ite_r (fun hcr => ?_) (fun hcr => ?_) <;> (try simp (disch := omega) only [Bool.false_eq_true, not_true_eq_false, not_false_eq_true, Nat.reduceAdd, Nat.reduceMul, w32_eq, w64_eq, lc_eq, lc_lt, lc_le, lc_gt, lc_ge, up_k, up_i, up_e, Int.toNat_natCast, tn7, tn8, tn12, tn3, tn120, tn1600, w32_and, w32_or, w32_xor, w32_shl, w32_shr, has2_eq, tb, m2, rw, rv, rl] at hcr) <;> (try (exfalso; first | omega | exact hcr rfl | exact hcr trivial | contradiction))))
      · simp (disch := omega) only [Bool.false_eq_true, not_true_eq_false, not_false_eq_true, Nat.reduceAdd, Nat.reduceMul, w32_eq, w64_eq, lc_eq, lc_lt, lc_le, lc_gt, lc_ge, up_k, up_i, up_e, Int.toNat_natCast, tn7, tn8, tn12, tn3, tn120, tn1600, w32_and, w32_or, w32_xor, w32_shl, w32_shr, has2_eq, rv, rl]
        have hw : 1 ≤ X1 (th + 8) c - 1 ∧ X1 (th + 8) c - 1 ≤ 20 := by omega
        refine ih (ns - (c + 1)) _ _ _ _ _ (by omega) ⟨c + 1, dd, rfl, by omega, rfl, rfl, rfl, by omega, ⟨RS_left (hS39 _) hns, SI_left hI1 hw, FXt_trans hx (FXt_up (by omega)), FMt_trans hm (FMt_trans (f39 _) (FMt_up ⟨by omega, by omega, fun _ => lay12 (by omega) (by omega)⟩)), ?_, ?_⟩, fun j hj hj2 => ?_, hhd _⟩
        · have := Sem_trans hsem (Sem_one (X := X1) (X1 := upM X1 (th + 8) c (X1 (th + 8) c - 1)) (w0 := 2) (w1 := 2) h hw2 (by rw [up_k (by omega)]; exact hw2) (fun j hj hn => by rw [up_k (by omega)]) (upM_row (by omega)) (by omega) (by omega) (by omega))
          exact this
        · rw [up_k (by omega)]; exact h13
        · rw [up_k (by omega), up_k (by omega)]; exact hold j (by omega) hj2
    · have hw2 : X1 (th + 4) c = 2 := by omega
      obtain ⟨s1, s2, s3⟩ := isnd c h hw2
      simp only [Int.toNat_natCast] at *
      repeat' (first | with_reducible refine two_lt_r ?_ | (with_reducible refine two_chk_r ?_ ?_; focus ((try simp (disch := omega) only [Bool.false_eq_true, not_true_eq_false, not_false_eq_true, Nat.reduceAdd, Nat.reduceMul, w32_eq, w64_eq, lc_eq, lc_lt, lc_le, lc_gt, lc_ge, up_k, up_i, up_e, Int.toNat_natCast, tn7, tn8, tn12, tn3, tn120, tn1600, w32_and, w32_or, w32_xor, w32_shl, w32_shr, has2_eq, tb, m2, rw, rv, rl]) <;> omega)) | (with_reducible refine two_ite_r (fun hcr => ?_) (fun hcr => ?_) <;> (try simp (disch := omega) only [Bool.false_eq_true, not_true_eq_false, not_false_eq_true, Nat.reduceAdd, Nat.reduceMul, w32_eq, w64_eq, lc_eq, lc_lt, lc_le, lc_gt, lc_ge, up_k, up_i, up_e, Int.toNat_natCast, tn7, tn8, tn12, tn3, tn120, tn1600, w32_and, w32_or, w32_xor, w32_shl, w32_shr, has2_eq, tb, m2, rw, rv, rl] at hcr) <;> (try (exfalso; first | omega | exact hcr rfl | exact hcr trivial | contradiction))))
      simp (disch := omega) only [Bool.false_eq_true, not_true_eq_false, not_false_eq_true, Nat.reduceAdd, Nat.reduceMul, w32_eq, w64_eq, lc_eq, lc_lt, lc_le, lc_gt, lc_ge, up_k, up_i, up_e, Int.toNat_natCast, tn7, tn8, tn12, tn3, tn120, tn1600, w32_and, w32_or, w32_xor, w32_shl, w32_shr, has2_eq, rv, rl]
      rw [concl_left, writes_left]
      refine two_bnd (sim_concl (RT_t hT1 hth (FXt_refl th X1) (f39 _)) (hS39 _) hI1 hth hv h (by omega) (by omega)) ?_
      rintro X3 M3 ⟨k1, k2, k3, k4, ⟨k5, k6⟩, k7, k8, k9⟩
      repeat' (first | with_reducible refine two_lt_l ?_ | (with_reducible refine two_chk_l ?_ ?_; focus ((try simp (disch := omega) only [Bool.false_eq_true, not_true_eq_false, not_false_eq_true, Nat.reduceAdd, Nat.reduceMul, w32_eq, w64_eq, lc_eq, lc_lt, lc_le, lc_gt, lc_ge, up_k, up_i, up_e, Int.toNat_natCast, tn7, tn8, tn12, tn3, tn120, tn1600, w32_and, w32_or, w32_xor, w32_shl, w32_shr, has2_eq]) <;> omega)) | (with_reducible refine two_ite_l (fun hcl => ?_) (fun hcl => ?_) <;> (try simp (disch := omega) only [Bool.false_eq_true, not_true_eq_false, not_false_eq_true, Nat.reduceAdd, Nat.reduceMul, w32_eq, w64_eq, lc_eq, lc_lt, lc_le, lc_gt, lc_ge, up_k, up_i, up_e, Int.toNat_natCast, tn7, tn8, tn12, tn3, tn120, tn1600, w32_and, w32_or, w32_xor, w32_shl, w32_shr, has2_eq] at hcl) <;> (try (exfalso; first | omega | exact hcl rfl | exact hcl trivial | contradiction))))
      repeat' (first | with_reducible refine two_lt_r ?_ | (with_reducible refine two_chk_r ?_ ?_; focus ((try simp (disch := omega) only [Bool.false_eq_true, not_true_eq_false, not_false_eq_true, Nat.reduceAdd, Nat.reduceMul, w32_eq, w64_eq, lc_eq, lc_lt, lc_le, lc_gt, lc_ge, up_k, up_i, up_e, Int.toNat_natCast, tn7, tn8, tn12, tn3, tn120, tn1600, w32_and, w32_or, w32_xor, w32_shl, w32_shr, has2_eq]) <;> omega)) | (with_reducible refine two_ite_r (fun hcr => ?_) (fun hcr => ?_) <;> (try simp (disch := omega) only [Bool.false_eq_true, not_true_eq_false, not_false_eq_true, Nat.reduceAdd, Nat.reduceMul, w32_eq, w64_eq, lc_eq, lc_lt, lc_le, lc_gt, lc_ge, up_k, up_i, up_e, Int.toNat_natCast, tn7, tn8, tn12, tn3, tn120, tn1600, w32_and, w32_or, w32_xor, w32_shl, w32_shr, has2_eq] at hcr) <;> (try (exfalso; first | omega | exact hcr rfl | exact hcr trivial | contradiction))))
      refine ih (ns - (c + 1)) _ _ _ _ _ (by omega) ⟨c + 1, dd + 1, by omega, by omega, rfl, rfl, rfl, by omega, ⟨k1, k2, FXt_trans hx k3, FMt_trans hm (FMt_trans (f39 _) k4), ?_, by rw [k8]; exact h13⟩, fun j hj hj2 => ?_, fun j hj => ?_⟩
      · exact Sem_trans hsem (Sem_one (w0 := 2) (w1 := 3) h hw2 k5 (fun j hj hn => (k6 j hj hn).1) k7 (by omega) (by omega) (by omega))
      · obtain ⟨q1, q2⟩ := k6 j hj2 (by omega)
        rw [q1, q2]; exact hold j (by omega) hj2
      · rw [k9]
        by_cases e : j = c
        · subst e; rw [up_e, if_pos (by omega), o2]
        · rw [up_i e]; exact hh j (by omega)
  · repeat' (first | with_reducible refine two_lt_l ?_ | (with_reducible refine two_chk_l ?_ ?_; focus ((try simp (disch := omega) only [Bool.false_eq_true, not_true_eq_false, not_false_eq_true, Nat.reduceAdd, Nat.reduceMul, w32_eq, w64_eq, lc_eq, lc_lt, lc_le, lc_gt, lc_ge, up_k, up_i, up_e, Int.toNat_natCast, tn7, tn8, tn12, tn3, tn120, tn1600, w32_and, w32_or, w32_xor, w32_shl, w32_shr, has2_eq, x2]) <;> omega)) | (with_reducible refine two_ite_l (fun hcl => ?_) (fun hcl => ?_) <;> (try simp (disch := omega) only [Bool.false_eq_true, not_true_eq_false, not_false_eq_true, Nat.reduceAdd, Nat.reduceMul, w32_eq, w64_eq, lc_eq, lc_lt, lc_le, lc_gt, lc_ge, up_k, up_i, up_e, Int.toNat_natCast, tn7, tn8, tn12, tn3, tn120, tn1600, w32_and, w32_or, w32_xor, w32_shl, w32_shr, has2_eq, x2] at hcl) <;> (try (exfalso; first | omega | exact hcl rfl | exact hcl trivial | contradiction))))
    repeat' (first | with_reducible refine two_lt_r ?_ | (with_reducible refine two_chk_r ?_ ?_; focus ((try simp (disch := omega) only [Bool.false_eq_true, not_true_eq_false, not_false_eq_true, Nat.reduceAdd, Nat.reduceMul, w32_eq, w64_eq, lc_eq, lc_lt, lc_le, lc_gt, lc_ge, up_k, up_i, up_e, Int.toNat_natCast, tn7, tn8, tn12, tn3, tn120, tn1600, w32_and, w32_or, w32_xor, w32_shl, w32_shr, has2_eq, tb, m2]) <;> omega)) | (with_reducible refine two_ite_r (fun hcr => ?_) (fun hcr => ?_) <;> (try simp (disch := omega) only [Bool.false_eq_true, not_true_eq_false, not_false_eq_true, Nat.reduceAdd, Nat.reduceMul, w32_eq, w64_eq, lc_eq, lc_lt, lc_le, lc_gt, lc_ge, up_k, up_i, up_e, Int.toNat_natCast, tn7, tn8, tn12, tn3, tn120, tn1600, w32_and, w32_or, w32_xor, w32_shl, w32_shr, has2_eq, tb, m2] at hcr) <;> (try (exfalso; first | omega | exact hcr rfl | exact hcr trivial | contradiction))))
    exact two_some ⟨dd, rfl, by omega, ⟨hS1, hI1, hx, hm, hsem, h13⟩, fun j hj => hh j (by omega)⟩
theorem RS_min {nv ns th v : Nat} {w : Int} {X M : Mem} (hS : RS nv ns th v X M) : RS nv ns th v (upM X th 13 w) (upM M 25 v w) := by
  obtain ⟨rp, rs, rb, rw, rd, rt, rv, rl, rx, rk, rm, rk1, rk2, rk3, rz1, rz2⟩ := hS
  refine ⟨?_, ?_, ?_, ?_, ?_, ?_, ?_, ?_, ?_, ?_, ?_, ?_, ?_, ?_, ?_, ?_⟩
  · intro j hj; simp (disch := omega) only [Bool.false_eq_true, not_true_eq_false, not_false_eq_true, Nat.reduceAdd, Nat.reduceMul, w32_eq, w64_eq, lc_eq, lc_lt, lc_le, lc_gt, lc_ge, up_k, up_i, up_e, Int.toNat_natCast, tn7, tn8, tn12, tn3, tn120, tn1600, w32_and, w32_or, w32_xor, w32_shl, w32_shr, has2_eq]; exact rp j hj
  · intro j hj; simp (disch := omega) only [Bool.false_eq_true, not_true_eq_false, not_false_eq_true, Nat.reduceAdd, Nat.reduceMul, w32_eq, w64_eq, lc_eq, lc_lt, lc_le, lc_gt, lc_ge, up_k, up_i, up_e, Int.toNat_natCast, tn7, tn8, tn12, tn3, tn120, tn1600, w32_and, w32_or, w32_xor, w32_shl, w32_shr, has2_eq]; exact rs j hj
  · intro j hj; simp (disch := omega) only [Bool.false_eq_true, not_true_eq_false, not_false_eq_true, Nat.reduceAdd, Nat.reduceMul, w32_eq, w64_eq, lc_eq, lc_lt, lc_le, lc_gt, lc_ge, up_k, up_i, up_e, Int.toNat_natCast, tn7, tn8, tn12, tn3, tn120, tn1600, w32_and, w32_or, w32_xor, w32_shl, w32_shr, has2_eq]; exact rb j hj
  · intro j hj; simp (disch := omega) only [Bool.false_eq_true, not_true_eq_false, not_false_eq_true, Nat.reduceAdd, Nat.reduceMul, w32_eq, w64_eq, lc_eq, lc_lt, lc_le, lc_gt, lc_ge, up_k, up_i, up_e, Int.toNat_natCast, tn7, tn8, tn12, tn3, tn120, tn1600, w32_and, w32_or, w32_xor, w32_shl, w32_shr, has2_eq]; exact rw j hj
  · intro j hj; simp (disch := omega) only [Bool.false_eq_true, not_true_eq_false, not_false_eq_true, Nat.reduceAdd, Nat.reduceMul, w32_eq, w64_eq, lc_eq, lc_lt, lc_le, lc_gt, lc_ge, up_k, up_i, up_e, Int.toNat_natCast, tn7, tn8, tn12, tn3, tn120, tn1600, w32_and, w32_or, w32_xor, w32_shl, w32_shr, has2_eq]; exact rd j hj
  · intro j hj; simp (disch := omega) only [Bool.false_eq_true, not_true_eq_false, not_false_eq_true, Nat.reduceAdd, Nat.reduceMul, w32_eq, w64_eq, lc_eq, lc_lt, lc_le, lc_gt, lc_ge, up_k, up_i, up_e, Int.toNat_natCast, tn7, tn8, tn12, tn3, tn120, tn1600, w32_and, w32_or, w32_xor, w32_shl, w32_shr, has2_eq]; exact rt j hj
  · intro j hj; simp (disch := omega) only [Bool.false_eq_true, not_true_eq_false, not_false_eq_true, Nat.reduceAdd, Nat.reduceMul, w32_eq, w64_eq, lc_eq, lc_lt, lc_le, lc_gt, lc_ge, up_k, up_i, up_e, Int.toNat_natCast, tn7, tn8, tn12, tn3, tn120, tn1600, w32_and, w32_or, w32_xor, w32_shl, w32_shr, has2_eq]; exact rv j hj
  · intro j hj; simp (disch := omega) only [Bool.false_eq_true, not_true_eq_false, not_false_eq_true, Nat.reduceAdd, Nat.reduceMul, w32_eq, w64_eq, lc_eq, lc_lt, lc_le, lc_gt, lc_ge, up_k, up_i, up_e, Int.toNat_natCast, tn7, tn8, tn12, tn3, tn120, tn1600, w32_and, w32_or, w32_xor, w32_shl, w32_shr, has2_eq]; exact rl j hj
  · intro j hj; simp (disch := omega) only [Bool.false_eq_true, not_true_eq_false, not_false_eq_true, Nat.reduceAdd, Nat.reduceMul, w32_eq, w64_eq, lc_eq, lc_lt, lc_le, lc_gt, lc_ge, up_k, up_i, up_e, Int.toNat_natCast, tn7, tn8, tn12, tn3, tn120, tn1600, w32_and, w32_or, w32_xor, w32_shl, w32_shr, has2_eq]; exact rx j hj
  · simp (disch := omega) only [Bool.false_eq_true, not_true_eq_false, not_false_eq_true, Nat.reduceAdd, Nat.reduceMul, w32_eq, w64_eq, lc_eq, lc_lt, lc_le, lc_gt, lc_ge, up_k, up_i, up_e, Int.toNat_natCast, tn7, tn8, tn12, tn3, tn120, tn1600, w32_and, w32_or, w32_xor, w32_shl, w32_shr, has2_eq]; exact rk
  · simp (disch := omega) only [Bool.false_eq_true, not_true_eq_false, not_false_eq_true, Nat.reduceAdd, Nat.reduceMul, w32_eq, w64_eq, lc_eq, lc_lt, lc_le, lc_gt, lc_ge, up_k, up_i, up_e, Int.toNat_natCast, tn7, tn8, tn12, tn3, tn120, tn1600, w32_and, w32_or, w32_xor, w32_shl, w32_shr, has2_eq]
  · intro j hj; simp (disch := omega) only [up_i] at hj; simp (disch := omega) only [Bool.false_eq_true, not_true_eq_false, not_false_eq_true, Nat.reduceAdd, Nat.reduceMul, w32_eq, w64_eq, lc_eq, lc_lt, lc_le, lc_gt, lc_ge, up_k, up_i, up_e, Int.toNat_natCast, tn7, tn8, tn12, tn3, tn120, tn1600, w32_and, w32_or, w32_xor, w32_shl, w32_shr, has2_eq]; exact rk1 j hj
  · intro j hj; simp (disch := omega) only [up_i] at hj; simp (disch := omega) only [Bool.false_eq_true, not_true_eq_false, not_false_eq_true, Nat.reduceAdd, Nat.reduceMul, w32_eq, w64_eq, lc_eq, lc_lt, lc_le, lc_gt, lc_ge, up_k, up_i, up_e, Int.toNat_natCast, tn7, tn8, tn12, tn3, tn120, tn1600, w32_and, w32_or, w32_xor, w32_shl, w32_shr, has2_eq]; exact rk2 j hj
  · intro j hj; simp (disch := omega) only [up_i] at hj; simp (disch := omega) only [Bool.false_eq_true, not_true_eq_false, not_false_eq_true, Nat.reduceAdd, Nat.reduceMul, w32_eq, w64_eq, lc_eq, lc_lt, lc_le, lc_gt, lc_ge, up_k, up_i, up_e, Int.toNat_natCast, tn7, tn8, tn12, tn3, tn120, tn1600, w32_and, w32_or, w32_xor, w32_shl, w32_shr, has2_eq]; exact rk3 j hj
  · simp (disch := omega) only [Bool.false_eq_true, not_true_eq_false, not_false_eq_true, Nat.reduceAdd, Nat.reduceMul, w32_eq, w64_eq, lc_eq, lc_lt, lc_le, lc_gt, lc_ge, up_k, up_i, up_e, Int.toNat_natCast, tn7, tn8, tn12, tn3, tn120, tn1600, w32_and, w32_or, w32_xor, w32_shl, w32_shr, has2_eq]; exact rz1
  · simp (disch := omega) only [Bool.false_eq_true, not_true_eq_false, not_false_eq_true, Nat.reduceAdd, Nat.reduceMul, w32_eq, w64_eq, lc_eq, lc_lt, lc_le, lc_gt, lc_ge, up_k, up_i, up_e, Int.toNat_natCast, tn7, tn8, tn12, tn3, tn120, tn1600, w32_and, w32_or, w32_xor, w32_shl, w32_shr, has2_eq]; exact rz2
theorem SI_min {nv ns th : Nat} {w : Int} {X : Mem} (hI : SI nv ns th X) (hw : 0 ≤ w ∧ w ≤ 999) : SI nv ns th (upM X th 13 w) := by
  obtain ⟨ip, is, ib, iw, id, it, iv, il, ix, isnd, inm, iin, im, ik⟩ := hI
  refine ⟨?_, ?_, ?_, ?_, ?_, ?_, ?_, ?_, ?_, ?_, ?_, ?_, ?_, ?_⟩
  · intro j hj; simp (disch := omega) only [Bool.false_eq_true, not_true_eq_false, not_false_eq_true, Nat.reduceAdd, Nat.reduceMul, w32_eq, w64_eq, lc_eq, lc_lt, lc_le, lc_gt, lc_ge, up_k, up_i, up_e, Int.toNat_natCast, tn7, tn8, tn12, tn3, tn120, tn1600, w32_and, w32_or, w32_xor, w32_shl, w32_shr, has2_eq]; exact ip j hj
  · intro j hj; simp (disch := omega) only [Bool.false_eq_true, not_true_eq_false, not_false_eq_true, Nat.reduceAdd, Nat.reduceMul, w32_eq, w64_eq, lc_eq, lc_lt, lc_le, lc_gt, lc_ge, up_k, up_i, up_e, Int.toNat_natCast, tn7, tn8, tn12, tn3, tn120, tn1600, w32_and, w32_or, w32_xor, w32_shl, w32_shr, has2_eq]; exact is j hj
  · intro j hj; simp (disch := omega) only [Bool.false_eq_true, not_true_eq_false, not_false_eq_true, Nat.reduceAdd, Nat.reduceMul, w32_eq, w64_eq, lc_eq, lc_lt, lc_le, lc_gt, lc_ge, up_k, up_i, up_e, Int.toNat_natCast, tn7, tn8, tn12, tn3, tn120, tn1600, w32_and, w32_or, w32_xor, w32_shl, w32_shr, has2_eq]; exact ib j hj
  · intro j hj; simp (disch := omega) only [Bool.false_eq_true, not_true_eq_false, not_false_eq_true, Nat.reduceAdd, Nat.reduceMul, w32_eq, w64_eq, lc_eq, lc_lt, lc_le, lc_gt, lc_ge, up_k, up_i, up_e, Int.toNat_natCast, tn7, tn8, tn12, tn3, tn120, tn1600, w32_and, w32_or, w32_xor, w32_shl, w32_shr, has2_eq]; exact iw j hj
  · intro j hj; simp (disch := omega) only [Bool.false_eq_true, not_true_eq_false, not_false_eq_true, Nat.reduceAdd, Nat.reduceMul, w32_eq, w64_eq, lc_eq, lc_lt, lc_le, lc_gt, lc_ge, up_k, up_i, up_e, Int.toNat_natCast, tn7, tn8, tn12, tn3, tn120, tn1600, w32_and, w32_or, w32_xor, w32_shl, w32_shr, has2_eq]; exact id j hj
  · intro j hj; simp (disch := omega) only [Bool.false_eq_true, not_true_eq_false, not_false_eq_true, Nat.reduceAdd, Nat.reduceMul, w32_eq, w64_eq, lc_eq, lc_lt, lc_le, lc_gt, lc_ge, up_k, up_i, up_e, Int.toNat_natCast, tn7, tn8, tn12, tn3, tn120, tn1600, w32_and, w32_or, w32_xor, w32_shl, w32_shr, has2_eq]; exact it j hj
  · intro j hj; simp (disch := omega) only [Bool.false_eq_true, not_true_eq_false, not_false_eq_true, Nat.reduceAdd, Nat.reduceMul, w32_eq, w64_eq, lc_eq, lc_lt, lc_le, lc_gt, lc_ge, up_k, up_i, up_e, Int.toNat_natCast, tn7, tn8, tn12, tn3, tn120, tn1600, w32_and, w32_or, w32_xor, w32_shl, w32_shr, has2_eq]; exact iv j hj
  · intro j hj; simp (disch := omega) only [Bool.false_eq_true, not_true_eq_false, not_false_eq_true, Nat.reduceAdd, Nat.reduceMul, w32_eq, w64_eq, lc_eq, lc_lt, lc_le, lc_gt, lc_ge, up_k, up_i, up_e, Int.toNat_natCast, tn7, tn8, tn12, tn3, tn120, tn1600, w32_and, w32_or, w32_xor, w32_shl, w32_shr, has2_eq]; exact il j hj
  · intro j hj; simp (disch := omega) only [Bool.false_eq_true, not_true_eq_false, not_false_eq_true, Nat.reduceAdd, Nat.reduceMul, w32_eq, w64_eq, lc_eq, lc_lt, lc_le, lc_gt, lc_ge, up_k, up_i, up_e, Int.toNat_natCast, tn7, tn8, tn12, tn3, tn120, tn1600, w32_and, w32_or, w32_xor, w32_shl, w32_shr, has2_eq]; exact ix j hj
  · intro j hj; simp (disch := omega) only [Bool.false_eq_true, not_true_eq_false, not_false_eq_true, Nat.reduceAdd, Nat.reduceMul, w32_eq, w64_eq, lc_eq, lc_lt, lc_le, lc_gt, lc_ge, up_k, up_i, up_e, Int.toNat_natCast, tn7, tn8, tn12, tn3, tn120, tn1600, w32_and, w32_or, w32_xor, w32_shl, w32_shr, has2_eq]; exact isnd j hj
  · intro j hj; simp (disch := omega) only [Bool.false_eq_true, not_true_eq_false, not_false_eq_true, Nat.reduceAdd, Nat.reduceMul, w32_eq, w64_eq, lc_eq, lc_lt, lc_le, lc_gt, lc_ge, up_k, up_i, up_e, Int.toNat_natCast, tn7, tn8, tn12, tn3, tn120, tn1600, w32_and, w32_or, w32_xor, w32_shl, w32_shr, has2_eq]; exact inm j hj
  · intro j t hj ht; simp (disch := omega) only [Bool.false_eq_true, not_true_eq_false, not_false_eq_true, Nat.reduceAdd, Nat.reduceMul, w32_eq, w64_eq, lc_eq, lc_lt, lc_le, lc_gt, lc_ge, up_k, up_i, up_e, Int.toNat_natCast, tn7, tn8, tn12, tn3, tn120, tn1600, w32_and, w32_or, w32_xor, w32_shl, w32_shr, has2_eq]; exact iin j t hj ht
  · simp (disch := omega) only [Bool.false_eq_true, not_true_eq_false, not_false_eq_true, Nat.reduceAdd, Nat.reduceMul, w32_eq, w64_eq, lc_eq, lc_lt, lc_le, lc_gt, lc_ge, up_k, up_i, up_e, Int.toNat_natCast, tn7, tn8, tn12, tn3, tn120, tn1600, w32_and, w32_or, w32_xor, w32_shl, w32_shr, has2_eq]; exact hw
  · simp (disch := omega) only [Bool.false_eq_true, not_true_eq_false, not_false_eq_true, Nat.reduceAdd, Nat.reduceMul, w32_eq, w64_eq, lc_eq, lc_lt, lc_le, lc_gt, lc_ge, up_k, up_i, up_e, Int.toNat_natCast, tn7, tn8, tn12, tn3, tn120, tn1600, w32_and, w32_or, w32_xor, w32_shl, w32_shr, has2_eq]; exact ik
theorem Sem_same {ns th h d : Nat} {X Y Z : Mem} (a : Sem ns th h d X Y) (h4 : Z (th + 4) = Y (th + 4)) (h2 : Z (th + 2) = Y (th + 2)) : Sem ns th h d X Z := by
  unfold Sem cw at a ⊢
  rw [h4, h2]
  exact a
/-- whose voices may be given: the same in both -/
def Same (nv : Nat) (ax am : Int) : Prop := ∀ k : Nat, k < nv → and32 (shr32 ax (k : Int)) 1 = and32 (shr32 am (k : Int)) 1 ∧ 0 ≤ and32 (shr32 am (k : Int)) 1 ∧ and32 (shr32 am (k : Int)) 1 ≤ 1
/-- a minute: begun and finished by the class, ticked by the reference -/
def Ticked (nv ns th v h d : Nat) (X M Xm X1 M1 : Mem) : Prop := SI nv ns th Xm ∧ FXt th X Xm ∧ FXt th Xm X1 ∧ FMt v M M1 ∧ RS nv ns th v X1 M1 ∧ SI nv ns th X1 ∧ Sem ns th h d X X1 ∧ X1 th 13 = X th 13 + 1 ∧ HeardEq ns th Xm M1 ∧ h ≤ ns ∧ d ≤ ns
theorem sim_tick {nv np ns bk th v : Nat} {ax am : Int} {X M : Mem} (hT : RT nv np ns bk X M) (hS : RS nv ns th v X M) (hI : SI nv ns th X) (hth : 38 ≤ th) (hv : v < 22) (hal : Same nv ax am) (hm : X th 13 < 999) :
    ∃ (h d : Nat) (Xm X1 M1 : Mem), x_State_begin th ax X = some ((h : Int), Xm) ∧ x_State_finish th Xm = some ((d : Int), X1) ∧ m_ticks (v : Int) am M = some M1 ∧ Ticked nv ns th v h d X M Xm X1 M1 := by
  have hns := hT.1.2.2.2.2
  obtain ⟨⟨i1, Xa⟩, ⟨j1, Ma⟩, e1, f1, hSa, hIa, hxa, hma, hsa, h13a⟩ := sim_line (ax := ax) (am := am) hT hS hI hth hv
  simp only at hSa hIa hxa hma hsa h13a
  have hTa := RT_t hT hth hxa hma
  obtain ⟨⟨i2, Xb⟩, ⟨j2, Mb⟩, e2, f2, hSb, hIb, hxb, hmb, hsb, h13b⟩ := sim_gives hTa hSa hIa hth hv hal
  simp only at hSb hIb hxb hmb hsb h13b
  have hTb := RT_t hTa hth hxb hmb
  obtain ⟨⟨a3, i3, Xc⟩, ⟨j3, Mc⟩, e3, f3, h, hh, hhn, hSc, hIc, hxc, hmc, hsc, h13c⟩ := sim_hushes hTb hSb hIb hth hv
  simp only at hh hSc hIc hxc hmc hsc h13c
  subst hh
  have hTc := RT_t hTb hth hxc hmc
  obtain ⟨⟨a4, i4, Xd⟩, ⟨j4, Md⟩, e4, f4, d, hd, hdn, ⟨hSd, hId, hxd, hmd, hsd, h13d⟩, hhd⟩ := sim_said hTc hSc hIc hth hv
  simp only at hd hSd hId hxd hmd hsd h13d hhd
  subst hd
  have i13 : 0 ≤ X th 13 := hI.2.2.2.2.2.2.2.2.2.2.2.2.1.1
  have d13 : Xd th 13 = X th 13 := by rw [h13d, h13c, h13b, h13a]
  have m13 : Md 25 v = X th 13 := by rw [← d13]; exact hSd.2.2.2.2.2.2.2.2.2.2.1
  refine ⟨h, d, Xc, upM Xd th 13 (X th 13 + 1), upM Md 25 v (X th 13 + 1), ?_, ?_, ?_, hIc, FXt_trans hxa (FXt_trans hxb hxc), FXt_trans hxd (FXt_up (by omega)), FMt_trans hma (FMt_trans hmb (FMt_trans hmc (FMt_trans hmd (FMt_up ⟨by omega, by omega, fun _ => lay1 (by omega)⟩)))), RS_min hSd, SI_min hId (by omega), ?_, up_e, ?_, hhn, hdn⟩
  · unfold x_State_begin
    rw [e1]; simp only [bnd_some]
    rw [e2]; simp only [bnd_some]
    rw [e3]; simp only [bnd_some]
  · unfold x_State_finish
    rw [e4]; simp only [bnd_some]
    have e9 : (if X th 13 + 1 < 999 then X th 13 + 1 else 999) = X th 13 + 1 := by split <;> omega
    rw [d13, xmin (by omega) (by omega), e9]
    simp only [bnd_some, lt_eq]
  · unfold m_ticks
    rw [f1]; simp only [bnd_some]
    rw [f2]; simp only [bnd_some]
    rw [f3]; simp only [bnd_some]
    rw [f4]; simp only [bnd_some, lt_eq, Int.toNat_natCast]
    unfold chk
    rw [if_pos (by omega), if_pos (by omega), m13]
  · have s1 := Sem_trans (Sem_trans (Sem_trans hsa hsb) hsc) hsd
    refine Sem_same (Y := Xd) ?_ (upM_row (by omega)) (upM_row (by omega))
    simpa using s1
  · intro j hj
    rw [up_k (by omega)]
    exact hhd j hj
