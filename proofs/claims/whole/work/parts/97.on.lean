/-! THE PURE PART: on: all the voices, side by side -/
theorem sim_vs {L nv np ns bk : Nat} {v2 : Int} {X M : Mem} (hT : RT nv np ns bk X M) (hb : ∀ j, j < 1600 → X 2 j = M 1 j ∧ 0 ≤ X 2 j ∧ X 2 j ≤ 255) (hL : 2 + 3 * nv ≤ L) (hL2 : L ≤ 1600) : ∀ (d c : Nat) (X1 M1 : Mem) (N1 N2 : Nat), c + d = nv → d < N1 → d < N2 → Rd L (2 + 3 * c) X1 → FrX X X1 → FMt 1 M M1 → RSv c X1 M1 →
    two (itr3 x_Picture_read_L117 N1 1 (c : Int) X1) (itr2 (m_comesOn_L161 v2) N2 (c : Int) M1) (fun r q => Rd L (2 + 3 * nv) r.2.2 ∧ FrX X r.2.2 ∧ (∀ a, (a < 52 ∨ 54 < a) → a ≠ 370 → r.2.2 a = X1 a) ∧ ((r.1 = 1 ∧ ∃ u M2, q = .inr (u, M2) ∧ FMt 1 M M2 ∧ (∀ a, (a < 26 ∨ 28 < a) → M2 a = M1 a) ∧ RSv nv r.2.2 M2) ∨ (r.1 = 0 ∧ ∃ M2, q = .inl (false, M2) ∧ FMt 1 M M2))) := by
  have hnv := hT.1.2.2.1
  have h0 := hT.2.1.1
  have tb := hT.1.1
  have tb2 := hT.1.2.1
  have m0 := hT.2.2.1.1
  intro d
  induction d with
  | zero =>
    intro c X1 M1 N1 N2 hcd hN1 hN2 hr hf hm hv
    obtain ⟨G1, rfl⟩ : ∃ G, N1 = G + 1 := ⟨N1 - 1, by omega⟩
    obtain ⟨G2, rfl⟩ : ∃ G, N2 = G + 1 := ⟨N2 - 1, by omega⟩
    have e0 : X1 23 0 = (nv : Int) := by rw [hf.1 23 (by omega) (by omega)]; exact h0
    have k0 : M1 0 13 = (bk : Int) := by rw [hm 0 13 (by omega)]; exact tb
    have k2 : M1 2 bk = (nv : Int) := by rw [hm 2 bk (by omega)]; exact m0
    have e : c = nv := by omega
    subst e
    show two (x_Picture_read_L117 (fun a b m => itr3 x_Picture_read_L117 G1 a b m) 1 (c : Int) X1) (m_comesOn_L161 v2 (fun a b => itr2 (m_comesOn_L161 v2) G2 a b) (c : Int) M1) _
    unfold x_Picture_read_L117 m_comesOn_L161
    repeat' (first | with_reducible refine two_lt_l ?_ | (with_reducible refine two_chk_l ?_ ?_; focus ((try simp (disch := omega) only [Bool.false_eq_true, not_true_eq_false, not_false_eq_true, Nat.reduceAdd, Nat.reduceMul, w32_eq, w64_eq, lc_eq, lc_lt, lc_le, lc_gt, lc_ge, up_k, up_i, up_e, Int.toNat_natCast, tn7, tn8, tn12, tn3, tn120, tn1600, w32_and, w32_or, w32_xor, w32_shl, w32_shr, has2_eq, e0]) <;> omega)) | (with_reducible refine two_ite_l (fun hcl => ?_) (fun hcl => ?_) <;> (try simp (disch := omega) only [Bool.false_eq_true, not_true_eq_false, not_false_eq_true, Nat.reduceAdd, Nat.reduceMul, w32_eq, w64_eq, lc_eq, lc_lt, lc_le, lc_gt, lc_ge, up_k, up_i, up_e, Int.toNat_natCast, tn7, tn8, tn12, tn3, tn120, tn1600, w32_and, w32_or, w32_xor, w32_shl, w32_shr, has2_eq, e0] at hcl) <;> (try (exfalso; first | omega | exact hcl rfl | exact hcl trivial | contradiction))))
    repeat' (first | with_reducible refine two_lt_r ?_ | (with_reducible refine two_chk_r ?_ ?_; focus ((try simp (disch := omega) only [Bool.false_eq_true, not_true_eq_false, not_false_eq_true, Nat.reduceAdd, Nat.reduceMul, w32_eq, w64_eq, lc_eq, lc_lt, lc_le, lc_gt, lc_ge, up_k, up_i, up_e, Int.toNat_natCast, tn7, tn8, tn12, tn3, tn120, tn1600, w32_and, w32_or, w32_xor, w32_shl, w32_shr, has2_eq, k0, k2]) <;> omega)) | (with_reducible refine two_ite_r (fun hcr => ?_) (fun hcr => ?_) <;> (try simp (disch := omega) only [Bool.false_eq_true, not_true_eq_false, not_false_eq_true, Nat.reduceAdd, Nat.reduceMul, w32_eq, w64_eq, lc_eq, lc_lt, lc_le, lc_gt, lc_ge, up_k, up_i, up_e, Int.toNat_natCast, tn7, tn8, tn12, tn3, tn120, tn1600, w32_and, w32_or, w32_xor, w32_shl, w32_shr, has2_eq, k0, k2] at hcr) <;> (try (exfalso; first | omega | exact hcr rfl | exact hcr trivial | contradiction))))
    exact two_some ⟨hr, hf, fun _ _ _ => rfl, Or.inl ⟨rfl, _, _, rfl, hm, fun _ _ => rfl, hv⟩⟩
  | succ d ih =>
    intro c X1 M1 N1 N2 hcd hN1 hN2 hr hf hm hv
    obtain ⟨G1, rfl⟩ : ∃ G, N1 = G + 1 := ⟨N1 - 1, by omega⟩
    obtain ⟨G2, rfl⟩ : ∃ G, N2 = G + 1 := ⟨N2 - 1, by omega⟩
    have e0 : X1 23 0 = (nv : Int) := by rw [hf.1 23 (by omega) (by omega)]; exact h0
    have k0 : M1 0 13 = (bk : Int) := by rw [hm 0 13 (by omega)]; exact tb
    have k2 : M1 2 bk = (nv : Int) := by rw [hm 2 bk (by omega)]; exact m0
    obtain ⟨⟨b, X2⟩, e1, g1, g2, g3, g4, g5, g6, g7, g8⟩ := x_voice (c := c) hr (by omega) (by omega) hf (fun j hj => (hb j hj).2)
    obtain ⟨⟨b', M2⟩, f1, q1, q2, q3, q4, q5, q6, q7⟩ := m_voiceOn_is (p := 2 + 3 * c) (c := c) (by omega) (by omega) hm hb
    simp only at g1 g2 g3 g4 g5 g6 g7 g8 q1 q2 q3 q4 q5 q6 q7
    have hr2 : Rd L (2 + 3 * (c + 1)) X2 := by rw [show 2 + 3 * (c + 1) = 2 + 3 * c + 3 by omega]; exact g2
    have stepx : ∀ F : Int → Int → Mem → Option (Int × Int × Mem), x_Picture_read_L117 F 1 (c : Int) X1 = F (if b = true then 1 else 0) ((c : Int) + 1) X2 := fun F => by
      unfold x_Picture_read_L117
      rw [if_neg (by rw [e0, w32_eq (by omega) (by omega), w32_eq (by omega) (by omega)]; omega), e1, bnd2_some]
      cases b with
      | true => rw [if_pos rfl, if_neg (by rw [w32_eq (by omega) (by omega)]; omega), if_pos rfl]; rfl
      | false => rw [if_neg Bool.false_ne_true, if_neg Bool.false_ne_true]; rfl
    have stepm : ∀ F : Int → Mem → Option ((Bool × Mem) ⊕ (Int × Mem)), m_comesOn_L161 v2 F (c : Int) M1 = if b' = true then F ((c : Int) + 1) M2 else some (.inl (false, M2)) := fun F => by
      unfold m_comesOn_L161
      rw [k0, Int.toNat_natCast, k2, chk_p (by omega), if_neg (by rw [w32_eq (by omega) (by omega), w32_eq (by omega) (by omega)]; omega)]
      rw [show 2 + 3 * (c : Int) = ((2 + 3 * c : Nat) : Int) by omega, f1, bnd2_some]
      rfl
    show two (x_Picture_read_L117 (fun a b m => itr3 x_Picture_read_L117 G1 a b m) 1 (c : Int) X1) (m_comesOn_L161 v2 (fun a b => itr2 (m_comesOn_L161 v2) G2 a b) (c : Int) M1) _
    rw [stepx, stepm]
    by_cases hok : VOk X (2 + 3 * c)
    · have hbt := g1.mpr hok
      have hbt' := q1.mpr hok
      subst hbt
      subst hbt'
      rw [if_pos rfl, if_pos rfl]
      have hv2 := RSv_next hv (by omega) hok (fun j hj => (hb j hj).2) (by omega) g5 g6 g7 g8 q4 q5 q6 q7
      refine two_mono (ih (c + 1) X2 M2 G1 G2 (by omega) (by omega) (by omega) hr2 g3 q2 hv2) ?_
      rintro r q ⟨y1, y2, y3, y4⟩
      refine ⟨y1, y2, fun a z1 z2 => by rw [y3 a z1 z2, g4 a z1 z2], ?_⟩
      rcases y4 with ⟨y4, u, M3, y5, y6, y7, y8⟩ | y4
      · exact Or.inl ⟨y4, u, M3, y5, y6, fun a ha => by rw [y7 a ha, q3 a ha], y8⟩
      · exact Or.inr y4
    · have hbf : b = false := by cases b with
        | true => exact absurd (g1.mp rfl) hok
        | false => rfl
      have hbf' : b' = false := by cases b' with
        | true => exact absurd (q1.mp rfl) hok
        | false => rfl
      subst hbf
      subst hbf'
      rw [if_neg Bool.false_ne_true, if_neg Bool.false_ne_true]
      obtain ⟨r, er, y1, y2, y3, y4⟩ := x_voices0 hnv h0 (fun j hj => (hb j hj).2) hL d (c + 1) X2 G1 (by omega) (by omega) hr2 g3
      exact ⟨r, _, er, rfl, y2, y3, fun a z1 z2 => by rw [y4 a z1 z2, g4 a z1 z2], Or.inr ⟨y1, M2, rfl, q2⟩⟩
