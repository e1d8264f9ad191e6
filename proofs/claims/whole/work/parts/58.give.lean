/-! THE PURE PART: a saying is given, is hushed -/
theorem FXs_row {X X1 : Mem} (h : FXs X X1) {th a : Nat} (hth : 38 ≤ th) (ha : th ≤ a) : X1 a = X a := h a (by omega) (by omega)
theorem bnd2_bnd2 {α β γ δ ε : Type} {x : Option (α × β)} {f : α → β → Option (γ × δ)} {g : γ → δ → Option ε} : bnd2 (bnd2 x f) g = bnd2 x (fun a b => bnd2 (f a b) g) := by cases x <;> rfl
/-- whether it is mixed, when it sounds already -/
theorem sim_mixed {nv np ns bk th v s k : Nat} {X M : Mem} (hT : RT nv np ns bk X M) (hS : RS nv ns th v X M) (hI : SI nv ns th X) (hth : 38 ≤ th) (hv : v < 22) (hs : s < ns) (hk : k < nv) (h0 : X (th + 9) s = 0) (f : Bool → Mem → Option Mem)
    (hf : ∀ b X2, f b X2 = some (upM X2 (th + 9) s (if b = true then 1 else 0))) :
    two (bnd2 (x_State_isMixed th (s : Int) (k : Int) X) f) (m_isGiven_B76 (v : Int) (s : Int) (k : Int) M) (fun X1 M1 => RS nv ns th v X1 M1 ∧ FXt th X X1 ∧ FMt v M M1 ∧ (∀ a, a ≠ 33 → a ≠ 37 → a ≠ th + 9 → X1 a = X a) ∧ (∀ j, j ≠ s → X1 (th + 9) j = X (th + 9) j) ∧ 0 ≤ X1 (th + 9) s ∧ X1 (th + 9) s ≤ 1) := by
  obtain ⟨b, hb1, hb2, hb3⟩ := told_both hT (show 1 < 3 by omega)
  obtain ⟨X1, M1, e1, e2, hK, hX1, hM1⟩ := sim_know hT hS hth hv hs
  have hb := known_b (v := v) hT hI hs hK
  have hx1 : FXs X X1 := fun a h1 h2 => hX1 a h1
  have hm1 : FMs M M1 := fun a h1 h2 => hM1 a h2
  have hT1 : RT nv np ns bk X1 M1 := RT_s hT hx1 hm1
  have hS1 := RS_s hS hth hx1 hm1
  have hI1 := SI_s hI hth hx1
  have hns := hT.1.2.2.2.2
  have hnv := hT.1.2.2.1
  have hS' := hS
  obtain ⟨rp, rs, rb, rw, rd, rt, rv, rl, rx, rk, rm, rk1, rk2, rk3, rz1, rz2⟩ := hS
  have hI' := hI
  obtain ⟨ip, is, ib, iw, id, it, iv, il, ix, isnd, inm, iin, im, ik⟩ := hI
  have q1 := ip k hk
  have r1 : M1 26 (7 * v + k) = X (th + 1) k := by rw [hM1 26 (by omega)]; exact rp k hk
  have a2 : X1 (th + 1) = X (th + 1) := hX1 _ (by omega)
  have x2 := hT.2.1.2.2
  have hcx : cw ns th X1 2 = cw ns th X 2 := by unfold cw; rw [hX1 (th + 4) (by omega)]
  have hcl := cnt_le (fun s => decide (X (th + 4) s = 2)) ns
  have hcw : (cw ns th X 2 : Int) ≤ 12 := by unfold cw; omega
  unfold m_isGiven_B76
  refine two_bnd_r e2 ?_
  repeat' (first | with_reducible refine two_lt_r ?_ | (with_reducible refine two_chk_r ?_ ?_; focus ((try simp (disch := omega) only [Bool.false_eq_true, not_true_eq_false, not_false_eq_true, Nat.reduceAdd, Nat.reduceMul, w32_eq, w64_eq, lc_eq, lc_lt, lc_le, lc_gt, lc_ge, up_k, up_i, up_e, Int.toNat_natCast, tn7, tn8, tn12, tn3, tn120, tn1600, w32_and, w32_or, w32_xor, w32_shl, w32_shr, has2_eq]) <;> omega)) | (with_reducible refine two_ite_r (fun hcr => ?_) (fun hcr => ?_) <;> (try simp (disch := omega) only [Bool.false_eq_true, not_true_eq_false, not_false_eq_true, Nat.reduceAdd, Nat.reduceMul, w32_eq, w64_eq, lc_eq, lc_lt, lc_le, lc_gt, lc_ge, up_k, up_i, up_e, Int.toNat_natCast, tn7, tn8, tn12, tn3, tn120, tn1600, w32_and, w32_or, w32_xor, w32_shl, w32_shr, has2_eq] at hcr) <;> (try (exfalso; first | omega | exact hcr rfl | exact hcr trivial | contradiction))))
  simp only [tn7, r1]
  have hTm : RT nv np ns bk X (upM M1 38 5 (X (th + 1) k)) := RT_s hT (FXs_refl X) (FMs_trans hm1 (FMs_up (by omega)))
  have hSm : RS nv ns th v X (upM M1 38 5 (X (th + 1) k)) := RS_s hS' hth (FXs_refl X) (FMs_trans hm1 (FMs_up (by omega)))
  refine two_bnd_r (m_busy_eq hTm hSm hI' hv) ?_
  repeat' (first | with_reducible refine two_lt_r ?_ | (with_reducible refine two_chk_r ?_ ?_; focus ((try simp (disch := omega) only [Bool.false_eq_true, not_true_eq_false, not_false_eq_true, Nat.reduceAdd, Nat.reduceMul, w32_eq, w64_eq, lc_eq, lc_lt, lc_le, lc_gt, lc_ge, up_k, up_i, up_e, Int.toNat_natCast, tn7, tn8, tn12, tn3, tn120, tn1600, w32_and, w32_or, w32_xor, w32_shl, w32_shr, has2_eq]) <;> omega)) | (with_reducible refine two_ite_r (fun hcr => ?_) (fun hcr => ?_) <;> (try simp (disch := omega) only [Bool.false_eq_true, not_true_eq_false, not_false_eq_true, Nat.reduceAdd, Nat.reduceMul, w32_eq, w64_eq, lc_eq, lc_lt, lc_le, lc_gt, lc_ge, up_k, up_i, up_e, Int.toNat_natCast, tn7, tn8, tn12, tn3, tn120, tn1600, w32_and, w32_or, w32_xor, w32_shl, w32_shr, has2_eq] at hcr) <;> (try (exfalso; first | omega | exact hcr rfl | exact hcr trivial | contradiction))))
  have hTm2 : RT nv np ns bk X (upM (upM M1 38 5 (X (th + 1) k)) 38 7 (cw ns th X 2 : Int)) := RT_s hTm (FXs_refl X) (FMs_up (by omega))
  obtain ⟨b', hb1', hb2', hb3'⟩ := told_both hTm2 (show 1 < 3 by omega)
  have hbb : b' = b := by
    rw [hb1] at hb1'
    exact (Option.some.inj hb1').symm
  subst hbb
  refine two_bnd_r hb2' ?_
  unfold x_State_isMixed
  cases b'
  · rw [show x_Rules_isTold 32 1 X = some false from hb1]
    simp only [bnd_some, bnd2_some, Bool.false_eq_true, ↓reduceIte, hf]
    refine two_some ⟨⟨?_, ?_, ?_, ?_, ?_, ?_, ?_, ?_, ?_, ?_, ?_, ?_, ?_, ?_, ?_, ?_⟩, ?_, ?_, ?_, ?_, ?_, ?_⟩
    · intro j hj; simp (disch := omega) only [Bool.false_eq_true, not_true_eq_false, not_false_eq_true, Nat.reduceAdd, Nat.reduceMul, w32_eq, w64_eq, lc_eq, lc_lt, lc_le, lc_gt, lc_ge, up_k, up_i, up_e, Int.toNat_natCast, tn7, tn8, tn12, tn3, tn120, tn1600, w32_and, w32_or, w32_xor, w32_shl, w32_shr, has2_eq]; rw [hM1 26 (by omega)]; exact rp j hj
    · intro j hj; simp (disch := omega) only [Bool.false_eq_true, not_true_eq_false, not_false_eq_true, Nat.reduceAdd, Nat.reduceMul, w32_eq, w64_eq, lc_eq, lc_lt, lc_le, lc_gt, lc_ge, up_k, up_i, up_e, Int.toNat_natCast, tn7, tn8, tn12, tn3, tn120, tn1600, w32_and, w32_or, w32_xor, w32_shl, w32_shr, has2_eq]; rw [hM1 28 (by omega)]; exact rs j hj
    · intro j hj; simp (disch := omega) only [Bool.false_eq_true, not_true_eq_false, not_false_eq_true, Nat.reduceAdd, Nat.reduceMul, w32_eq, w64_eq, lc_eq, lc_lt, lc_le, lc_gt, lc_ge, up_k, up_i, up_e, Int.toNat_natCast, tn7, tn8, tn12, tn3, tn120, tn1600, w32_and, w32_or, w32_xor, w32_shl, w32_shr, has2_eq]; rw [hM1 27 (by omega)]; exact rb j hj
    · intro j hj; simp (disch := omega) only [Bool.false_eq_true, not_true_eq_false, not_false_eq_true, Nat.reduceAdd, Nat.reduceMul, w32_eq, w64_eq, lc_eq, lc_lt, lc_le, lc_gt, lc_ge, up_k, up_i, up_e, Int.toNat_natCast, tn7, tn8, tn12, tn3, tn120, tn1600, w32_and, w32_or, w32_xor, w32_shl, w32_shr, has2_eq]; rw [hM1 29 (by omega)]; exact rw j hj
    · intro j hj; simp (disch := omega) only [Bool.false_eq_true, not_true_eq_false, not_false_eq_true, Nat.reduceAdd, Nat.reduceMul, w32_eq, w64_eq, lc_eq, lc_lt, lc_le, lc_gt, lc_ge, up_k, up_i, up_e, Int.toNat_natCast, tn7, tn8, tn12, tn3, tn120, tn1600, w32_and, w32_or, w32_xor, w32_shl, w32_shr, has2_eq]; rw [hM1 30 (by omega)]; exact rd j hj
    · intro j hj; simp (disch := omega) only [Bool.false_eq_true, not_true_eq_false, not_false_eq_true, Nat.reduceAdd, Nat.reduceMul, w32_eq, w64_eq, lc_eq, lc_lt, lc_le, lc_gt, lc_ge, up_k, up_i, up_e, Int.toNat_natCast, tn7, tn8, tn12, tn3, tn120, tn1600, w32_and, w32_or, w32_xor, w32_shl, w32_shr, has2_eq]; rw [hM1 31 (by omega)]; exact rt j hj
    · intro j hj; simp (disch := omega) only [Bool.false_eq_true, not_true_eq_false, not_false_eq_true, Nat.reduceAdd, Nat.reduceMul, w32_eq, w64_eq, lc_eq, lc_lt, lc_le, lc_gt, lc_ge, up_k, up_i, up_e, Int.toNat_natCast, tn7, tn8, tn12, tn3, tn120, tn1600, w32_and, w32_or, w32_xor, w32_shl, w32_shr, has2_eq]; rw [hM1 32 (by omega)]; exact rv j hj
    · intro j hj; simp (disch := omega) only [Bool.false_eq_true, not_true_eq_false, not_false_eq_true, Nat.reduceAdd, Nat.reduceMul, w32_eq, w64_eq, lc_eq, lc_lt, lc_le, lc_gt, lc_ge, up_k, up_i, up_e, Int.toNat_natCast, tn7, tn8, tn12, tn3, tn120, tn1600, w32_and, w32_or, w32_xor, w32_shl, w32_shr, has2_eq]; rw [hM1 33 (by omega)]; exact rl j hj
    · intro j hj; by_cases e : j = s
      · subst e; simp (disch := omega) only [Bool.false_eq_true, not_true_eq_false, not_false_eq_true, Nat.reduceAdd, Nat.reduceMul, w32_eq, w64_eq, lc_eq, lc_lt, lc_le, lc_gt, lc_ge, up_k, up_i, up_e, Int.toNat_natCast, tn7, tn8, tn12, tn3, tn120, tn1600, w32_and, w32_or, w32_xor, w32_shl, w32_shr, has2_eq]; rw [hM1 34 (by omega), rx j hj, h0]
      · simp (disch := omega) only [Bool.false_eq_true, not_true_eq_false, not_false_eq_true, Nat.reduceAdd, Nat.reduceMul, w32_eq, w64_eq, lc_eq, lc_lt, lc_le, lc_gt, lc_ge, up_k, up_i, up_e, Int.toNat_natCast, tn7, tn8, tn12, tn3, tn120, tn1600, w32_and, w32_or, w32_xor, w32_shl, w32_shr, has2_eq]; rw [hM1 34 (by omega)]; exact rx j hj
    · simp (disch := omega) only [Bool.false_eq_true, not_true_eq_false, not_false_eq_true, Nat.reduceAdd, Nat.reduceMul, w32_eq, w64_eq, lc_eq, lc_lt, lc_le, lc_gt, lc_ge, up_k, up_i, up_e, Int.toNat_natCast, tn7, tn8, tn12, tn3, tn120, tn1600, w32_and, w32_or, w32_xor, w32_shl, w32_shr, has2_eq]; rw [hM1 35 (by omega)]; exact rk
    · simp (disch := omega) only [Bool.false_eq_true, not_true_eq_false, not_false_eq_true, Nat.reduceAdd, Nat.reduceMul, w32_eq, w64_eq, lc_eq, lc_lt, lc_le, lc_gt, lc_ge, up_k, up_i, up_e, Int.toNat_natCast, tn7, tn8, tn12, tn3, tn120, tn1600, w32_and, w32_or, w32_xor, w32_shl, w32_shr, has2_eq]; rw [hM1 25 (by omega)]; exact rm
    · intro j hj; simp (disch := omega) only [up_k] at hj; simp (disch := omega) only [Bool.false_eq_true, not_true_eq_false, not_false_eq_true, Nat.reduceAdd, Nat.reduceMul, w32_eq, w64_eq, lc_eq, lc_lt, lc_le, lc_gt, lc_ge, up_k, up_i, up_e, Int.toNat_natCast, tn7, tn8, tn12, tn3, tn120, tn1600, w32_and, w32_or, w32_xor, w32_shl, w32_shr, has2_eq]; rw [hM1 36 (by omega)]; exact rk1 j hj
    · intro j hj; simp (disch := omega) only [up_k] at hj; simp (disch := omega) only [Bool.false_eq_true, not_true_eq_false, not_false_eq_true, Nat.reduceAdd, Nat.reduceMul, w32_eq, w64_eq, lc_eq, lc_lt, lc_le, lc_gt, lc_ge, up_k, up_i, up_e, Int.toNat_natCast, tn7, tn8, tn12, tn3, tn120, tn1600, w32_and, w32_or, w32_xor, w32_shl, w32_shr, has2_eq]; rw [hM1 36 (by omega)]; exact rk2 j hj
    · intro j hj; simp (disch := omega) only [up_k] at hj; simp (disch := omega) only [Bool.false_eq_true, not_true_eq_false, not_false_eq_true, Nat.reduceAdd, Nat.reduceMul, w32_eq, w64_eq, lc_eq, lc_lt, lc_le, lc_gt, lc_ge, up_k, up_i, up_e, Int.toNat_natCast, tn7, tn8, tn12, tn3, tn120, tn1600, w32_and, w32_or, w32_xor, w32_shl, w32_shr, has2_eq]; rw [hM1 36 (by omega)]; exact rk3 j hj
    · simp (disch := omega) only [Bool.false_eq_true, not_true_eq_false, not_false_eq_true, Nat.reduceAdd, Nat.reduceMul, w32_eq, w64_eq, lc_eq, lc_lt, lc_le, lc_gt, lc_ge, up_k, up_i, up_e, Int.toNat_natCast, tn7, tn8, tn12, tn3, tn120, tn1600, w32_and, w32_or, w32_xor, w32_shl, w32_shr, has2_eq]; rw [hM1 28 (by omega)]; exact rz1
    · simp (disch := omega) only [Bool.false_eq_true, not_true_eq_false, not_false_eq_true, Nat.reduceAdd, Nat.reduceMul, w32_eq, w64_eq, lc_eq, lc_lt, lc_le, lc_gt, lc_ge, up_k, up_i, up_e, Int.toNat_natCast, tn7, tn8, tn12, tn3, tn120, tn1600, w32_and, w32_or, w32_xor, w32_shl, w32_shr, has2_eq]; rw [hM1 34 (by omega)]; exact rz2
    · exact FXt_up (by omega)
    · exact FMt_trans (FMt_s hm1) (FMt_trans (FMt_up ⟨by omega, by omega, by omega⟩) (FMt_up ⟨by omega, by omega, by omega⟩))
    · intro a h1 h2 h3; rw [upM_row h3]
    · intro j hj; rw [up_i hj]
    · rw [up_e]; omega
    · rw [up_e]; omega
  · rw [show x_Rules_isTold 32 1 X = some true from hb1]
    simp only [bnd_some, ↓reduceIte]
    rw [e1]
    simp only [bnd_some]
    unfold chk lt
    rw [if_pos (by omega)]
    unfold x_State_busyCount
    simp only [Int.toNat_natCast, a2]
    have hcb : x_State_countOf th 2 (upM X1 33 7 (X (th + 1) k)) = some (cw ns th X 2 : Int) := by
      have := x_count (ns := ns) (th := th) (k := 2) (X := upM X1 33 7 (X (th + 1) k)) (by rw [up_k (by omega), hX1 23 (by omega)]; exact x2) hns (fun s hs => by rw [up_k (by omega), hX1 _ (by omega)]; exact iw s hs) (by omega)
      have e : cw ns th (upM X1 33 7 (X (th + 1) k)) 2 = cw ns th X 2 := cnt_ext (fun j _ => by rw [up_k (by omega), hX1 (th + 4) (by omega)])
      rw [this, e]
    rw [hcb]
    simp only [bnd_some]
    rw [bnd2_bnd2]
    refine two_bnd22 (sim_value (w := 1) (RT_s hT1 ?_ ?_) (by omega) ?_ ?_) ?_
    · exact fun a h1 h2 => by simp (disch := omega) only [upM_row]
    · exact fun a h1 h2 => by simp (disch := omega) only [upM_row]
    · simp (disch := omega) only [upM_row]; rw [hX1 35 (by omega), hX1 36 (by omega)]; exact hb3 rfl
    · obtain ⟨⟨c1, c2, c3, c4⟩, c5, c6, c7, c8, c9⟩ := hb
      refine fact_mk ?_ ?_ ?_ ?_ (fun _ => ?_) (fun h => absurd h (by decide)) (fun _ => ?_) (fun h => absurd h (by decide)) ?_ ?_ ?_ ?_ (fun _ => ?_) (fun h => absurd h (by decide)) (fun _ => ?_) (fun h => absurd h (by decide)) <;> simp (disch := omega) only [Bool.false_eq_true, not_true_eq_false, not_false_eq_true, Nat.reduceAdd, Nat.reduceMul, w32_eq, w64_eq, lc_eq, lc_lt, lc_le, lc_gt, lc_ge, up_k, up_i, up_e, Int.toNat_natCast, tn7, tn8, tn12, tn3, tn120, tn1600, w32_and, w32_or, w32_xor, w32_shl, w32_shr, has2_eq, c1, c2, c3, c4] <;> omega
    · rintro r X2 q M2 ⟨g1, g2, g3, g4, g5, g6⟩
      simp only at g1 g2 g3 g4 g5 g6
      have g4' := g4 (by omega)
      subst g1
      have y : ∀ a, a ≠ 33 → a ≠ 37 → X2 a = X a := fun a h1 h2 => by
        rw [g5 a h2]; simp (disch := omega) only [upM_row]; exact hX1 a h1
      have z : ∀ a, a ≠ 37 → a ≠ 38 → M2 a = M a := fun a h1 h2 => by
        rw [g6 a h1]; simp (disch := omega) only [upM_row]; exact hM1 a h2
      rcases g4' with rfl | rfl
      · simp (disch := omega) only [w32_eq, lc_eq, w64_eq, ↓reduceIte, bnd2_some, hf, Bool.false_eq_true, Int.reduceEq, not_false_eq_true]
        refine two_some ⟨⟨?_, ?_, ?_, ?_, ?_, ?_, ?_, ?_, ?_, ?_, ?_, ?_, ?_, ?_, ?_, ?_⟩, ?_, ?_, ?_, ?_, ?_, ?_⟩
        · intro j hj; simp (disch := omega) only [Bool.false_eq_true, not_true_eq_false, not_false_eq_true, Nat.reduceAdd, Nat.reduceMul, w32_eq, w64_eq, lc_eq, lc_lt, lc_le, lc_gt, lc_ge, up_k, up_i, up_e, Int.toNat_natCast, tn7, tn8, tn12, tn3, tn120, tn1600, w32_and, w32_or, w32_xor, w32_shl, w32_shr, has2_eq]; rw [z 26 (by omega) (by omega), y _ (by omega) (by omega)]; exact rp j hj
        · intro j hj; simp (disch := omega) only [Bool.false_eq_true, not_true_eq_false, not_false_eq_true, Nat.reduceAdd, Nat.reduceMul, w32_eq, w64_eq, lc_eq, lc_lt, lc_le, lc_gt, lc_ge, up_k, up_i, up_e, Int.toNat_natCast, tn7, tn8, tn12, tn3, tn120, tn1600, w32_and, w32_or, w32_xor, w32_shl, w32_shr, has2_eq]; rw [z 28 (by omega) (by omega), y _ (by omega) (by omega)]; exact rs j hj
        · intro j hj; simp (disch := omega) only [Bool.false_eq_true, not_true_eq_false, not_false_eq_true, Nat.reduceAdd, Nat.reduceMul, w32_eq, w64_eq, lc_eq, lc_lt, lc_le, lc_gt, lc_ge, up_k, up_i, up_e, Int.toNat_natCast, tn7, tn8, tn12, tn3, tn120, tn1600, w32_and, w32_or, w32_xor, w32_shl, w32_shr, has2_eq]; rw [z 27 (by omega) (by omega), y _ (by omega) (by omega)]; exact rb j hj
        · intro j hj; simp (disch := omega) only [Bool.false_eq_true, not_true_eq_false, not_false_eq_true, Nat.reduceAdd, Nat.reduceMul, w32_eq, w64_eq, lc_eq, lc_lt, lc_le, lc_gt, lc_ge, up_k, up_i, up_e, Int.toNat_natCast, tn7, tn8, tn12, tn3, tn120, tn1600, w32_and, w32_or, w32_xor, w32_shl, w32_shr, has2_eq]; rw [z 29 (by omega) (by omega), y _ (by omega) (by omega)]; exact rw j hj
        · intro j hj; simp (disch := omega) only [Bool.false_eq_true, not_true_eq_false, not_false_eq_true, Nat.reduceAdd, Nat.reduceMul, w32_eq, w64_eq, lc_eq, lc_lt, lc_le, lc_gt, lc_ge, up_k, up_i, up_e, Int.toNat_natCast, tn7, tn8, tn12, tn3, tn120, tn1600, w32_and, w32_or, w32_xor, w32_shl, w32_shr, has2_eq]; rw [z 30 (by omega) (by omega), y _ (by omega) (by omega)]; exact rd j hj
        · intro j hj; simp (disch := omega) only [Bool.false_eq_true, not_true_eq_false, not_false_eq_true, Nat.reduceAdd, Nat.reduceMul, w32_eq, w64_eq, lc_eq, lc_lt, lc_le, lc_gt, lc_ge, up_k, up_i, up_e, Int.toNat_natCast, tn7, tn8, tn12, tn3, tn120, tn1600, w32_and, w32_or, w32_xor, w32_shl, w32_shr, has2_eq]; rw [z 31 (by omega) (by omega), y _ (by omega) (by omega)]; exact rt j hj
        · intro j hj; simp (disch := omega) only [Bool.false_eq_true, not_true_eq_false, not_false_eq_true, Nat.reduceAdd, Nat.reduceMul, w32_eq, w64_eq, lc_eq, lc_lt, lc_le, lc_gt, lc_ge, up_k, up_i, up_e, Int.toNat_natCast, tn7, tn8, tn12, tn3, tn120, tn1600, w32_and, w32_or, w32_xor, w32_shl, w32_shr, has2_eq]; rw [z 32 (by omega) (by omega), y _ (by omega) (by omega)]; exact rv j hj
        · intro j hj; simp (disch := omega) only [Bool.false_eq_true, not_true_eq_false, not_false_eq_true, Nat.reduceAdd, Nat.reduceMul, w32_eq, w64_eq, lc_eq, lc_lt, lc_le, lc_gt, lc_ge, up_k, up_i, up_e, Int.toNat_natCast, tn7, tn8, tn12, tn3, tn120, tn1600, w32_and, w32_or, w32_xor, w32_shl, w32_shr, has2_eq]; rw [z 33 (by omega) (by omega), y _ (by omega) (by omega)]; exact rl j hj
        · intro j hj; by_cases e : j = s
          · subst e; simp (disch := omega) only [Bool.false_eq_true, not_true_eq_false, not_false_eq_true, Nat.reduceAdd, Nat.reduceMul, w32_eq, w64_eq, lc_eq, lc_lt, lc_le, lc_gt, lc_ge, up_k, up_i, up_e, Int.toNat_natCast, tn7, tn8, tn12, tn3, tn120, tn1600, w32_and, w32_or, w32_xor, w32_shl, w32_shr, has2_eq]; rw [z 34 (by omega) (by omega), rx j hj, h0]
          · simp (disch := omega) only [Bool.false_eq_true, not_true_eq_false, not_false_eq_true, Nat.reduceAdd, Nat.reduceMul, w32_eq, w64_eq, lc_eq, lc_lt, lc_le, lc_gt, lc_ge, up_k, up_i, up_e, Int.toNat_natCast, tn7, tn8, tn12, tn3, tn120, tn1600, w32_and, w32_or, w32_xor, w32_shl, w32_shr, has2_eq]; rw [z 34 (by omega) (by omega), y _ (by omega) (by omega)]; exact rx j hj
        · simp (disch := omega) only [Bool.false_eq_true, not_true_eq_false, not_false_eq_true, Nat.reduceAdd, Nat.reduceMul, w32_eq, w64_eq, lc_eq, lc_lt, lc_le, lc_gt, lc_ge, up_k, up_i, up_e, Int.toNat_natCast, tn7, tn8, tn12, tn3, tn120, tn1600, w32_and, w32_or, w32_xor, w32_shl, w32_shr, has2_eq]; rw [z 35 (by omega) (by omega), y _ (by omega) (by omega)]; exact rk
        · simp (disch := omega) only [Bool.false_eq_true, not_true_eq_false, not_false_eq_true, Nat.reduceAdd, Nat.reduceMul, w32_eq, w64_eq, lc_eq, lc_lt, lc_le, lc_gt, lc_ge, up_k, up_i, up_e, Int.toNat_natCast, tn7, tn8, tn12, tn3, tn120, tn1600, w32_and, w32_or, w32_xor, w32_shl, w32_shr, has2_eq]; rw [z 25 (by omega) (by omega), y _ (by omega) (by omega)]; exact rm
        · intro j hj; simp (disch := omega) only [up_k] at hj; rw [y th (by omega) (by omega)] at hj; simp (disch := omega) only [Bool.false_eq_true, not_true_eq_false, not_false_eq_true, Nat.reduceAdd, Nat.reduceMul, w32_eq, w64_eq, lc_eq, lc_lt, lc_le, lc_gt, lc_ge, up_k, up_i, up_e, Int.toNat_natCast, tn7, tn8, tn12, tn3, tn120, tn1600, w32_and, w32_or, w32_xor, w32_shl, w32_shr, has2_eq]; rw [z 36 (by omega) (by omega), y _ (by omega) (by omega)]; exact rk1 j hj
        · intro j hj; simp (disch := omega) only [up_k] at hj; rw [y th (by omega) (by omega)] at hj; simp (disch := omega) only [Bool.false_eq_true, not_true_eq_false, not_false_eq_true, Nat.reduceAdd, Nat.reduceMul, w32_eq, w64_eq, lc_eq, lc_lt, lc_le, lc_gt, lc_ge, up_k, up_i, up_e, Int.toNat_natCast, tn7, tn8, tn12, tn3, tn120, tn1600, w32_and, w32_or, w32_xor, w32_shl, w32_shr, has2_eq]; rw [z 36 (by omega) (by omega), y _ (by omega) (by omega)]; exact rk2 j hj
        · intro j hj; simp (disch := omega) only [up_k] at hj; rw [y th (by omega) (by omega)] at hj; simp (disch := omega) only [Bool.false_eq_true, not_true_eq_false, not_false_eq_true, Nat.reduceAdd, Nat.reduceMul, w32_eq, w64_eq, lc_eq, lc_lt, lc_le, lc_gt, lc_ge, up_k, up_i, up_e, Int.toNat_natCast, tn7, tn8, tn12, tn3, tn120, tn1600, w32_and, w32_or, w32_xor, w32_shl, w32_shr, has2_eq]; rw [z 36 (by omega) (by omega), y _ (by omega) (by omega)]; exact rk3 j hj
        · rw [z 28 (by omega) (by omega)]; exact rz1
        · rw [z 34 (by omega) (by omega)]; exact rz2
        · exact FXt_trans (FXt_s y) (FXt_up (by omega))
        · exact FMt_s z
        · intro a h1 h2 h3; rw [upM_row h3]; exact y a h1 h2
        · intro j hj; rw [up_i hj, y _ (by omega) (by omega)]
        · rw [up_e]; omega
        · rw [up_e]; omega
      · simp (disch := omega) only [w32_eq, lc_eq, w64_eq, ↓reduceIte, bnd2_some, hf, Int.reduceEq, not_true_eq_false, Int.one_ne_zero]
        repeat' (first | with_reducible refine two_lt_r ?_ | (with_reducible refine two_chk_r ?_ ?_; focus ((try simp (disch := omega) only [Bool.false_eq_true, not_true_eq_false, not_false_eq_true, Nat.reduceAdd, Nat.reduceMul, w32_eq, w64_eq, lc_eq, lc_lt, lc_le, lc_gt, lc_ge, up_k, up_i, up_e, Int.toNat_natCast, tn7, tn8, tn12, tn3, tn120, tn1600, w32_and, w32_or, w32_xor, w32_shl, w32_shr, has2_eq]) <;> omega)) | (with_reducible refine two_ite_r (fun hcr => ?_) (fun hcr => ?_) <;> (try simp (disch := omega) only [Bool.false_eq_true, not_true_eq_false, not_false_eq_true, Nat.reduceAdd, Nat.reduceMul, w32_eq, w64_eq, lc_eq, lc_lt, lc_le, lc_gt, lc_ge, up_k, up_i, up_e, Int.toNat_natCast, tn7, tn8, tn12, tn3, tn120, tn1600, w32_and, w32_or, w32_xor, w32_shl, w32_shr, has2_eq] at hcr) <;> (try (exfalso; first | omega | exact hcr rfl | exact hcr trivial | contradiction))))
        have hz : M2 34 v = M 34 v := by rw [z 34 (by omega) (by omega)]
        refine two_some ⟨⟨?_, ?_, ?_, ?_, ?_, ?_, ?_, ?_, ?_, ?_, ?_, ?_, ?_, ?_, ?_, ?_⟩, ?_, ?_, ?_, ?_, ?_, ?_⟩
        · intro j hj; simp (disch := omega) only [Bool.false_eq_true, not_true_eq_false, not_false_eq_true, Nat.reduceAdd, Nat.reduceMul, w32_eq, w64_eq, lc_eq, lc_lt, lc_le, lc_gt, lc_ge, up_k, up_i, up_e, Int.toNat_natCast, tn7, tn8, tn12, tn3, tn120, tn1600, w32_and, w32_or, w32_xor, w32_shl, w32_shr, has2_eq]; rw [z 26 (by omega) (by omega), y _ (by omega) (by omega)]; exact rp j hj
        · intro j hj; simp (disch := omega) only [Bool.false_eq_true, not_true_eq_false, not_false_eq_true, Nat.reduceAdd, Nat.reduceMul, w32_eq, w64_eq, lc_eq, lc_lt, lc_le, lc_gt, lc_ge, up_k, up_i, up_e, Int.toNat_natCast, tn7, tn8, tn12, tn3, tn120, tn1600, w32_and, w32_or, w32_xor, w32_shl, w32_shr, has2_eq]; rw [z 28 (by omega) (by omega), y _ (by omega) (by omega)]; exact rs j hj
        · intro j hj; simp (disch := omega) only [Bool.false_eq_true, not_true_eq_false, not_false_eq_true, Nat.reduceAdd, Nat.reduceMul, w32_eq, w64_eq, lc_eq, lc_lt, lc_le, lc_gt, lc_ge, up_k, up_i, up_e, Int.toNat_natCast, tn7, tn8, tn12, tn3, tn120, tn1600, w32_and, w32_or, w32_xor, w32_shl, w32_shr, has2_eq]; rw [z 27 (by omega) (by omega), y _ (by omega) (by omega)]; exact rb j hj
        · intro j hj; simp (disch := omega) only [Bool.false_eq_true, not_true_eq_false, not_false_eq_true, Nat.reduceAdd, Nat.reduceMul, w32_eq, w64_eq, lc_eq, lc_lt, lc_le, lc_gt, lc_ge, up_k, up_i, up_e, Int.toNat_natCast, tn7, tn8, tn12, tn3, tn120, tn1600, w32_and, w32_or, w32_xor, w32_shl, w32_shr, has2_eq]; rw [z 29 (by omega) (by omega), y _ (by omega) (by omega)]; exact rw j hj
        · intro j hj; simp (disch := omega) only [Bool.false_eq_true, not_true_eq_false, not_false_eq_true, Nat.reduceAdd, Nat.reduceMul, w32_eq, w64_eq, lc_eq, lc_lt, lc_le, lc_gt, lc_ge, up_k, up_i, up_e, Int.toNat_natCast, tn7, tn8, tn12, tn3, tn120, tn1600, w32_and, w32_or, w32_xor, w32_shl, w32_shr, has2_eq]; rw [z 30 (by omega) (by omega), y _ (by omega) (by omega)]; exact rd j hj
        · intro j hj; simp (disch := omega) only [Bool.false_eq_true, not_true_eq_false, not_false_eq_true, Nat.reduceAdd, Nat.reduceMul, w32_eq, w64_eq, lc_eq, lc_lt, lc_le, lc_gt, lc_ge, up_k, up_i, up_e, Int.toNat_natCast, tn7, tn8, tn12, tn3, tn120, tn1600, w32_and, w32_or, w32_xor, w32_shl, w32_shr, has2_eq]; rw [z 31 (by omega) (by omega), y _ (by omega) (by omega)]; exact rt j hj
        · intro j hj; simp (disch := omega) only [Bool.false_eq_true, not_true_eq_false, not_false_eq_true, Nat.reduceAdd, Nat.reduceMul, w32_eq, w64_eq, lc_eq, lc_lt, lc_le, lc_gt, lc_ge, up_k, up_i, up_e, Int.toNat_natCast, tn7, tn8, tn12, tn3, tn120, tn1600, w32_and, w32_or, w32_xor, w32_shl, w32_shr, has2_eq]; rw [z 32 (by omega) (by omega), y _ (by omega) (by omega)]; exact rv j hj
        · intro j hj; simp (disch := omega) only [Bool.false_eq_true, not_true_eq_false, not_false_eq_true, Nat.reduceAdd, Nat.reduceMul, w32_eq, w64_eq, lc_eq, lc_lt, lc_le, lc_gt, lc_ge, up_k, up_i, up_e, Int.toNat_natCast, tn7, tn8, tn12, tn3, tn120, tn1600, w32_and, w32_or, w32_xor, w32_shl, w32_shr, has2_eq]; rw [z 33 (by omega) (by omega), y _ (by omega) (by omega)]; exact rl j hj
        · intro j hj
          rw [up_e, hz, bit_set rz2.1 (by omega) (by omega) (by omega)]
          by_cases e : j = s
          · subst e; rw [if_pos rfl, up_e]
          · rw [if_neg e, up_i e, y _ (by omega) (by omega)]; exact rx j hj
        · simp (disch := omega) only [Bool.false_eq_true, not_true_eq_false, not_false_eq_true, Nat.reduceAdd, Nat.reduceMul, w32_eq, w64_eq, lc_eq, lc_lt, lc_le, lc_gt, lc_ge, up_k, up_i, up_e, Int.toNat_natCast, tn7, tn8, tn12, tn3, tn120, tn1600, w32_and, w32_or, w32_xor, w32_shl, w32_shr, has2_eq]; rw [z 35 (by omega) (by omega), y _ (by omega) (by omega)]; exact rk
        · simp (disch := omega) only [Bool.false_eq_true, not_true_eq_false, not_false_eq_true, Nat.reduceAdd, Nat.reduceMul, w32_eq, w64_eq, lc_eq, lc_lt, lc_le, lc_gt, lc_ge, up_k, up_i, up_e, Int.toNat_natCast, tn7, tn8, tn12, tn3, tn120, tn1600, w32_and, w32_or, w32_xor, w32_shl, w32_shr, has2_eq]; rw [z 25 (by omega) (by omega), y _ (by omega) (by omega)]; exact rm
        · intro j hj; simp (disch := omega) only [up_k] at hj; rw [y th (by omega) (by omega)] at hj; simp (disch := omega) only [Bool.false_eq_true, not_true_eq_false, not_false_eq_true, Nat.reduceAdd, Nat.reduceMul, w32_eq, w64_eq, lc_eq, lc_lt, lc_le, lc_gt, lc_ge, up_k, up_i, up_e, Int.toNat_natCast, tn7, tn8, tn12, tn3, tn120, tn1600, w32_and, w32_or, w32_xor, w32_shl, w32_shr, has2_eq]; rw [z 36 (by omega) (by omega), y _ (by omega) (by omega)]; exact rk1 j hj
        · intro j hj; simp (disch := omega) only [up_k] at hj; rw [y th (by omega) (by omega)] at hj; simp (disch := omega) only [Bool.false_eq_true, not_true_eq_false, not_false_eq_true, Nat.reduceAdd, Nat.reduceMul, w32_eq, w64_eq, lc_eq, lc_lt, lc_le, lc_gt, lc_ge, up_k, up_i, up_e, Int.toNat_natCast, tn7, tn8, tn12, tn3, tn120, tn1600, w32_and, w32_or, w32_xor, w32_shl, w32_shr, has2_eq]; rw [z 36 (by omega) (by omega), y _ (by omega) (by omega)]; exact rk2 j hj
        · intro j hj; simp (disch := omega) only [up_k] at hj; rw [y th (by omega) (by omega)] at hj; simp (disch := omega) only [Bool.false_eq_true, not_true_eq_false, not_false_eq_true, Nat.reduceAdd, Nat.reduceMul, w32_eq, w64_eq, lc_eq, lc_lt, lc_le, lc_gt, lc_ge, up_k, up_i, up_e, Int.toNat_natCast, tn7, tn8, tn12, tn3, tn120, tn1600, w32_and, w32_or, w32_xor, w32_shl, w32_shr, has2_eq]; rw [z 36 (by omega) (by omega), y _ (by omega) (by omega)]; exact rk3 j hj
        · simp (disch := omega) only [Bool.false_eq_true, not_true_eq_false, not_false_eq_true, Nat.reduceAdd, Nat.reduceMul, w32_eq, w64_eq, lc_eq, lc_lt, lc_le, lc_gt, lc_ge, up_k, up_i, up_e, Int.toNat_natCast, tn7, tn8, tn12, tn3, tn120, tn1600, w32_and, w32_or, w32_xor, w32_shl, w32_shr, has2_eq]; rw [z 28 (by omega) (by omega)]; exact rz1
        · rw [up_e, hz]
          exact or_rng (b := 12) rz2.1 rz2.2 (by omega) (by omega)
        · exact FXt_trans (FXt_s y) (FXt_up (by omega))
        · exact FMt_trans (FMt_s z) (FMt_up ⟨by omega, by omega, fun _ => lay1 (by omega)⟩)
        · intro a h1 h2 h3; rw [upM_row h3]; exact y a h1 h2
        · intro j hj; rw [up_i hj, y _ (by omega) (by omega)]
        · rw [up_e]; omega
        · rw [up_e]; omega
