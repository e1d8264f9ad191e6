/-! THE PURE PART: on: all the sayings -/
theorem x_says0 {L nv ns np bk : Nat} {X M : Mem} (hT : RT nv np ns bk X M) (hb : ∀ j, j < 1600 → 0 ≤ X 2 j ∧ X 2 j ≤ 255) (hL : 2 + 3 * nv + 7 * ns ≤ L) : ∀ (d c : Nat) (X1 : Mem) (N : Nat), c + d = ns → d < N → Rd L (2 + 3 * nv + 7 * c) X1 → FrX X X1 →
    post (itr3 x_Picture_read_L157 N 0 (c : Int) X1) (fun r => r.1 = 0 ∧ FrX X r.2.2) := by
  have hns := hT.1.2.2.2.2
  have hnv := hT.1.2.2.1
  have h0 := hT.2.1.1
  have h2 := hT.2.1.2.2
  intro d
  induction d with
  | zero =>
    intro c X1 N hcd hN hr hf
    obtain ⟨G, rfl⟩ : ∃ G, N = G + 1 := ⟨N - 1, by omega⟩
    have e0 : X1 23 2 = (ns : Int) := by rw [hf.1 23 (by omega) (by omega)]; exact h2
    have e : c = ns := by omega
    subst e
    show post (x_Picture_read_L157 (fun a b m => itr3 x_Picture_read_L157 G a b m) 0 (c : Int) X1) _
    unfold x_Picture_read_L157
    repeat' (first | with_reducible refine post_lt ?_ | (with_reducible refine post_chk ?_ ?_; focus ((try simp (disch := omega) only [Bool.false_eq_true, not_true_eq_false, not_false_eq_true, Nat.reduceAdd, Nat.reduceMul, w32_eq, w64_eq, lc_eq, lc_lt, lc_le, lc_gt, lc_ge, up_k, up_i, up_e, Int.toNat_natCast, tn7, tn8, tn12, tn3, tn120, tn1600, w32_and, w32_or, w32_xor, w32_shl, w32_shr, has2_eq, e0]) <;> omega)) | (with_reducible refine post_ite (fun hcp => ?_) (fun hcp => ?_) <;> (try simp (disch := omega) only [Bool.false_eq_true, not_true_eq_false, not_false_eq_true, Nat.reduceAdd, Nat.reduceMul, w32_eq, w64_eq, lc_eq, lc_lt, lc_le, lc_gt, lc_ge, up_k, up_i, up_e, Int.toNat_natCast, tn7, tn8, tn12, tn3, tn120, tn1600, w32_and, w32_or, w32_xor, w32_shl, w32_shr, has2_eq, e0] at hcp) <;> (try (exfalso; first | omega | exact hcp rfl | exact hcp trivial | contradiction))))
    exact post_some ⟨rfl, hf⟩
  | succ d ih =>
    intro c X1 N hcd hN hr hf
    obtain ⟨G, rfl⟩ : ∃ G, N = G + 1 := ⟨N - 1, by omega⟩
    have e0 : X1 23 2 = (ns : Int) := by rw [hf.1 23 (by omega) (by omega)]; exact h2
    have e0' : X1 23 0 = (nv : Int) := by rw [hf.1 23 (by omega) (by omega)]; exact h0
    have e31 : X1 31 c = X 31 c := by rw [hf.1 31 (by omega) (by omega)]
    obtain ⟨-, -, -, -, -, -, -, t1, t2⟩ := hT.2.2.2.2.2.2.1 c (by omega)
    obtain ⟨⟨b, X2⟩, e1, g1, g2, g3, g4⟩ := x_saying (c := c) (nv := nv) (ns := ns) hr (by omega) (by omega) hns hnv e0' e0 ⟨e31, t1, t2⟩ hf hb
    simp only at g1 g2
    have rest := ih (c + 1) X2 G (by omega) (by omega) (by rw [show 2 + 3 * nv + 7 * (c + 1) = 2 + 3 * nv + 7 * c + 7 by omega]; exact g1) g2
    have step : ∀ F : Int → Int → Mem → Option (Int × Int × Mem), x_Picture_read_L157 F 0 (c : Int) X1 = F 0 ((c : Int) + 1) X2 := fun F => by
      unfold x_Picture_read_L157
      rw [if_neg (by rw [e0, w32_eq (by omega) (by omega), w32_eq (by omega) (by omega)]; omega), e1, bnd2_some]
      cases b with
      | true => rw [if_pos rfl, if_pos w32_0]; rfl
      | false => rw [if_neg Bool.false_ne_true]; rfl
    show post (x_Picture_read_L157 (fun a b m => itr3 x_Picture_read_L157 G a b m) 0 (c : Int) X1) _
    rw [step]
    exact rest
theorem RSv_of {c : Nat} {X1 M1 X2 M2 : Mem} (h : RSv c X1 M1) (x2 : X2 52 = X1 52) (x3 : X2 53 = X1 53) (x4 : X2 54 = X1 54) (m6 : M2 26 = M1 26) (m7 : M2 27 = M1 27) (m8 : M2 28 = M1 28) : RSv c X2 M2 := by
  unfold RSv at h ⊢
  rw [x2, x3, x4, m6, m7, m8]
  exact h
theorem sim_ss {L nv np ns bk : Nat} {v2 : Int} {X M : Mem} (hT : RT nv np ns bk X M) (hb : ∀ j, j < 1600 → X 2 j = M 1 j ∧ 0 ≤ X 2 j ∧ X 2 j ≤ 255) (hL : 2 + 3 * nv + 7 * ns ≤ L) (hL2 : L ≤ 1600) (hv2 : v2 = ((2 + 3 * nv : Nat) : Int)) : ∀ (d c : Nat) (X1 M1 : Mem) (N1 N2 : Nat), c + d = ns → d < N1 → d < N2 → Rd L (2 + 3 * nv + 7 * c) X1 → FrX X X1 → FMt 1 M M1 → RSv nv X1 M1 → RSs nv ns c X X1 M1 →
    two (itr3 x_Picture_read_L157 N1 1 (c : Int) X1) (itr2 (m_comesOn_L201 v2) N2 (c : Int) M1) (fun r q => FrX X r.2.2 ∧ ((r.1 = 1 ∧ ∃ u M2, q = .inr (u, M2) ∧ FMt 1 M M2 ∧ RSv nv r.2.2 M2 ∧ RSs nv ns ns X r.2.2 M2 ∧ r.2.2 51 = X1 51 ∧ M2 25 = M1 25 ∧ M2 35 = M1 35) ∨ (r.1 = 0 ∧ ∃ M2, q = .inl (false, M2) ∧ FMt 1 M M2))) := by
  have hns := hT.1.2.2.2.2
  have hnv := hT.1.2.2.1
  have h0 := hT.2.1.1
  have h2 := hT.2.1.2.2
  have tb := hT.1.1
  have tb2 := hT.1.2.1
  have m2 := hT.2.2.1.2.2
  intro d
  induction d with
  | zero =>
    intro c X1 M1 N1 N2 hcd hN1 hN2 hr hf hm hv hs
    obtain ⟨G1, rfl⟩ : ∃ G, N1 = G + 1 := ⟨N1 - 1, by omega⟩
    obtain ⟨G2, rfl⟩ : ∃ G, N2 = G + 1 := ⟨N2 - 1, by omega⟩
    have e0 : X1 23 2 = (ns : Int) := by rw [hf.1 23 (by omega) (by omega)]; exact h2
    have k0 : M1 0 13 = (bk : Int) := by rw [hm 0 13 (by omega)]; exact tb
    have k2 : M1 7 bk = (ns : Int) := by rw [hm 7 bk (by omega)]; exact m2
    have e : c = ns := by omega
    subst e
    show two (x_Picture_read_L157 (fun a b m => itr3 x_Picture_read_L157 G1 a b m) 1 (c : Int) X1) (m_comesOn_L201 v2 (fun a b => itr2 (m_comesOn_L201 v2) G2 a b) (c : Int) M1) _
    unfold x_Picture_read_L157 m_comesOn_L201
    repeat' (first | with_reducible refine two_lt_l ?_ | (with_reducible refine two_chk_l ?_ ?_; focus ((try simp (disch := omega) only [Bool.false_eq_true, not_true_eq_false, not_false_eq_true, Nat.reduceAdd, Nat.reduceMul, w32_eq, w64_eq, lc_eq, lc_lt, lc_le, lc_gt, lc_ge, up_k, up_i, up_e, Int.toNat_natCast, tn7, tn8, tn12, tn3, tn120, tn1600, w32_and, w32_or, w32_xor, w32_shl, w32_shr, has2_eq, e0]) <;> omega)) | (with_reducible refine two_ite_l (fun hcl => ?_) (fun hcl => ?_) <;> (try simp (disch := omega) only [Bool.false_eq_true, not_true_eq_false, not_false_eq_true, Nat.reduceAdd, Nat.reduceMul, w32_eq, w64_eq, lc_eq, lc_lt, lc_le, lc_gt, lc_ge, up_k, up_i, up_e, Int.toNat_natCast, tn7, tn8, tn12, tn3, tn120, tn1600, w32_and, w32_or, w32_xor, w32_shl, w32_shr, has2_eq, e0] at hcl) <;> (try (exfalso; first | omega | exact hcl rfl | exact hcl trivial | contradiction))))
    repeat' (first | with_reducible refine two_lt_r ?_ | (with_reducible refine two_chk_r ?_ ?_; focus ((try simp (disch := omega) only [Bool.false_eq_true, not_true_eq_false, not_false_eq_true, Nat.reduceAdd, Nat.reduceMul, w32_eq, w64_eq, lc_eq, lc_lt, lc_le, lc_gt, lc_ge, up_k, up_i, up_e, Int.toNat_natCast, tn7, tn8, tn12, tn3, tn120, tn1600, w32_and, w32_or, w32_xor, w32_shl, w32_shr, has2_eq, k0, k2]) <;> omega)) | (with_reducible refine two_ite_r (fun hcr => ?_) (fun hcr => ?_) <;> (try simp (disch := omega) only [Bool.false_eq_true, not_true_eq_false, not_false_eq_true, Nat.reduceAdd, Nat.reduceMul, w32_eq, w64_eq, lc_eq, lc_lt, lc_le, lc_gt, lc_ge, up_k, up_i, up_e, Int.toNat_natCast, tn7, tn8, tn12, tn3, tn120, tn1600, w32_and, w32_or, w32_xor, w32_shl, w32_shr, has2_eq, k0, k2] at hcr) <;> (try (exfalso; first | omega | exact hcr rfl | exact hcr trivial | contradiction))))
    exact two_some ⟨hf, Or.inl ⟨rfl, _, _, rfl, hm, hv, hs, rfl, rfl, rfl⟩⟩
  | succ d ih =>
    intro c X1 M1 N1 N2 hcd hN1 hN2 hr hf hm hv hs
    obtain ⟨G1, rfl⟩ : ∃ G, N1 = G + 1 := ⟨N1 - 1, by omega⟩
    obtain ⟨G2, rfl⟩ : ∃ G, N2 = G + 1 := ⟨N2 - 1, by omega⟩
    have e0 : X1 23 2 = (ns : Int) := by rw [hf.1 23 (by omega) (by omega)]; exact h2
    have e0' : X1 23 0 = (nv : Int) := by rw [hf.1 23 (by omega) (by omega)]; exact h0
    have e31 : X1 31 c = X 31 c := by rw [hf.1 31 (by omega) (by omega)]
    have k0 : M1 0 13 = (bk : Int) := by rw [hm 0 13 (by omega)]; exact tb
    have k2 : M1 7 bk = (ns : Int) := by rw [hm 7 bk (by omega)]; exact m2
    obtain ⟨-, -, -, -, -, -, -, t1, t2⟩ := hT.2.2.2.2.2.2.1 c (by omega)
    have hTm : RT nv np ns bk X M1 := RT_of hT (fun _ _ _ _ => rfl) (hm 0 13 (by omega)) (fun a g1 g2 => by funext i; exact hm a i (by omega))
    obtain ⟨⟨b, X2⟩, e1, g1, g2, g3, g4⟩ := x_saying (c := c) (nv := nv) (ns := ns) hr (by omega) (by omega) hns hnv e0' e0 ⟨e31, t1, t2⟩ hf (fun j hj => (hb j hj).2)
    obtain ⟨⟨b', M2⟩, f1, q1, q2, q3, q4⟩ := m_saying_is (X1 := X1) hTm hm (c := c) (p := 2 + 3 * nv + 7 * c) (by omega) (by omega) hb (fun s hsc => by
      obtain ⟨r1, r2, r3, -, -, -, -, -, -, r4, r5, r6, -⟩ := hs.1 s hsc
      omega) (fun v hvv => fre_alone hv hs hnv (by omega) hns hvv)
    simp only at g1 g2 g3 g4 q1 q2 q3 q4
    have hr2 : Rd L (2 + 3 * nv + 7 * (c + 1)) X2 := by rw [show 2 + 3 * nv + 7 * (c + 1) = 2 + 3 * nv + 7 * c + 7 by omega]; exact g1
    have stepx : ∀ F : Int → Int → Mem → Option (Int × Int × Mem), x_Picture_read_L157 F 1 (c : Int) X1 = F (if b = true then 1 else 0) ((c : Int) + 1) X2 := fun F => by
      unfold x_Picture_read_L157
      rw [if_neg (by rw [e0, w32_eq (by omega) (by omega), w32_eq (by omega) (by omega)]; omega), e1, bnd2_some]
      cases b with
      | true => rw [if_pos rfl, if_neg (by rw [w32_eq (by omega) (by omega)]; omega), if_pos rfl]; rfl
      | false => rw [if_neg Bool.false_ne_true, if_neg Bool.false_ne_true]; rfl
    have stepm : ∀ F : Int → Mem → Option ((Bool × Mem) ⊕ (Int × Mem)), m_comesOn_L201 v2 F (c : Int) M1 = if b' = true then F ((c : Int) + 1) M2 else some (.inl (false, M2)) := fun F => by
      unfold m_comesOn_L201
      rw [k0, Int.toNat_natCast, k2, chk_p (by omega), if_neg (by rw [w32_eq (by omega) (by omega), w32_eq (by omega) (by omega)]; omega)]
      rw [hv2, show ((2 + 3 * nv : Nat) : Int) + 7 * (c : Int) = ((2 + 3 * nv + 7 * c : Nat) : Int) by omega, f1, bnd2_some]
      rfl
    show two (x_Picture_read_L157 (fun a b m => itr3 x_Picture_read_L157 G1 a b m) 1 (c : Int) X1) (m_comesOn_L201 v2 (fun a b => itr2 (m_comesOn_L201 v2) G2 a b) (c : Int) M1) _
    rw [stepx, stepm]
    rcases g4 with ⟨hbt, hok, hwx⟩ | ⟨hbf, hok⟩
    · have hbt' := q1.mpr hok
      subst hbt
      subst hbt'
      rw [if_pos rfl, if_pos rfl]
      have hs2 := RSs_next hs hnv (by omega) (by omega) hok (fun j hj => (hb j hj).2) (by omega) t2 (g3 53 (by omega) (by omega)) (fun k hk => by
        obtain ⟨-, -, -, -, r5, r6, -⟩ := hv.1 k hk
        exact ⟨r5, r6⟩) hwx q4
      have hv3 := RSv_of hv (g3 52 (by omega) (by omega)) (g3 53 (by omega) (by omega)) (g3 54 (by omega) (by omega)) (q3 26 (by omega)) (q3 27 (by omega)) (q3 28 (by omega))
      refine two_mono (ih (c + 1) X2 M2 G1 G2 (by omega) (by omega) (by omega) hr2 g2 q2 hv3 hs2) ?_
      rintro r q ⟨y1, y4⟩
      refine ⟨y1, ?_⟩
      rcases y4 with ⟨y4, u, M3, y5, y6, y7, y8, y9, y10, y11⟩ | y4
      · exact Or.inl ⟨y4, u, M3, y5, y6, y7, y8, by rw [y9, g3 51 (by omega) (by omega)], by rw [y10, q3 25 (by omega)], by rw [y11, q3 35 (by omega)]⟩
      · exact Or.inr y4
    · have hbf' : b' = false := by cases b' with
        | true => exact absurd (q1.mp rfl) hok
        | false => rfl
      subst hbf
      subst hbf'
      rw [if_neg Bool.false_ne_true, if_neg Bool.false_ne_true]
      obtain ⟨r, er, y1, y2⟩ := x_says0 hT (fun j hj => (hb j hj).2) hL d (c + 1) X2 G1 (by omega) (by omega) hr2 g2
      exact ⟨r, _, er, rfl, y2, Or.inr ⟨y1, M2, rfl, q2⟩⟩
