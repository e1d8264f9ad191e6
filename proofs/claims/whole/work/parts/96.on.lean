/-! THE PURE PART: on: all the voices -/
def RSv (c : Nat) (X1 M1 : Mem) : Prop := (∀ k : Nat, k < c → M1 26 (7 + k) = X1 52 k ∧ 0 ≤ X1 52 k ∧ X1 52 k ≤ 9 ∧ and32 (shr32 (M1 28 1) (k : Int)) 1 = X1 53 k ∧ 0 ≤ X1 53 k ∧ X1 53 k ≤ 1 ∧ M1 27 (7 + k) = X1 54 k ∧ 0 ≤ X1 54 k ∧ X1 54 k ≤ 99) ∧ 0 ≤ M1 28 1 ∧ M1 28 1 < ((2 ^ c : Nat) : Int)
theorem RSv_next {c p : Nat} {X X1 M1 X2 M2 : Mem} (h : RSv c X1 M1) (hc : c < 7) (hok : VOk X p) (hb : ∀ j, j < 1600 → 0 ≤ X 2 j ∧ X 2 j ≤ 255) (hp : p + 3 ≤ 1600) (hx : ∀ j, j ≠ c → X2 52 j = X1 52 j ∧ X2 53 j = X1 53 j ∧ X2 54 j = X1 54 j) (x1 : X2 52 c = X 2 p) (x2 : X2 53 c = X 2 (p + 1)) (x3 : X2 54 c = X 2 (p + 2))
    (hm : ∀ j, j ≠ 7 + c → M2 26 j = M1 26 j ∧ M2 27 j = M1 27 j) (m1 : M2 26 (7 + c) = X 2 p) (m2 : M2 27 (7 + c) = X 2 (p + 2)) (m3 : M2 28 1 = or32 (M1 28 1) (if X 2 (p + 1) = 1 then shl32 1 (c : Int) else 0)) : RSv (c + 1) X2 M2 := by
  obtain ⟨h1, h2, h3⟩ := h
  obtain ⟨v1, v2, v3⟩ := hok
  have b1 := hb p (by omega)
  have b2 := hb (p + 1) (by omega)
  have b3 := hb (p + 2) (by omega)
  obtain ⟨z, hz⟩ := Int.eq_ofNat_of_zero_le h2
  have hz : M1 28 1 = (z : Int) := hz
  have hzc : z < 2 ^ c := by omega
  have hp7 : 2 ^ c ≤ 2 ^ 7 := Nat.pow_le_pow_right (by omega) (by omega)
  have e7 : (2 : Nat) ^ 7 = 128 := rfl
  have hzs : 2 ^ (c + 1) = 2 ^ c * 2 := Nat.pow_succ 2 c
  have bitc : and32 (shr32 (z : Int) (c : Int)) 1 = 0 := by
    rw [bit_of (by omega) (by omega), Nat.testBit_lt_two_pow hzc]
    rfl
  have set : ∀ k : Nat, k < c + 1 → and32 (shr32 (M2 28 1) (k : Int)) 1 = if k = c then X 2 (p + 1) else and32 (shr32 (M1 28 1) (k : Int)) 1 := fun k hk => by
    rw [m3, hz]
    by_cases q : X 2 (p + 1) = 1
    · rw [if_pos q, bit_set (by omega) (by omega) (by omega) (by omega), q]
    · rw [if_neg q, or32_0 (by omega)]
      by_cases e : k = c
      · subst e; rw [if_pos rfl, bitc]; omega
      · rw [if_neg e]
  have rng : 0 ≤ M2 28 1 ∧ M2 28 1 < ((2 ^ (c + 1) : Nat) : Int) := by
    rw [m3, hz]
    by_cases q : X 2 (p + 1) = 1
    · rw [if_pos q]
      exact or_rng (by omega) (by omega) (by omega) (by omega)
    · rw [if_neg q, or32_0 (by omega)]
      omega
  refine ⟨fun k hk => ?_, rng⟩
  by_cases e : k = c
  · subst e
    rw [set k (by omega), if_pos rfl, m1, m2, x1, x2, x3]
    exact ⟨rfl, by omega, by omega, rfl, by omega, by omega, rfl, by omega, by omega⟩
  · rw [set k hk, if_neg e, (hm (7 + k) (by omega)).1, (hm (7 + k) (by omega)).2, (hx k e).1, (hx k e).2.1, (hx k e).2.2]
    exact h1 k (by omega)
theorem x_voices0 {L nv : Nat} {X : Mem} (hnv : nv ≤ 7) (h0 : X 23 0 = (nv : Int)) (hb : ∀ j, j < 1600 → 0 ≤ X 2 j ∧ X 2 j ≤ 255) (hL : 2 + 3 * nv ≤ L) : ∀ (d c : Nat) (X1 : Mem) (N : Nat), c + d = nv → d < N → Rd L (2 + 3 * c) X1 → FrX X X1 →
    post (itr3 x_Picture_read_L117 N 0 (c : Int) X1) (fun r => r.1 = 0 ∧ Rd L (2 + 3 * nv) r.2.2 ∧ FrX X r.2.2 ∧ (∀ a, (a < 52 ∨ 54 < a) → a ≠ 370 → r.2.2 a = X1 a)) := by
  intro d
  induction d with
  | zero =>
    intro c X1 N hcd hN hr hf
    obtain ⟨G, rfl⟩ : ∃ G, N = G + 1 := ⟨N - 1, by omega⟩
    have e0 : X1 23 0 = (nv : Int) := by rw [hf.1 23 (by omega) (by omega)]; exact h0
    have e : c = nv := by omega
    subst e
    show post (x_Picture_read_L117 (fun a b m => itr3 x_Picture_read_L117 G a b m) 0 (c : Int) X1) _
    unfold x_Picture_read_L117
    repeat' (first | with_reducible refine post_lt ?_ | (with_reducible refine post_chk ?_ ?_; focus ((try simp (disch := omega) only [Bool.false_eq_true, not_true_eq_false, not_false_eq_true, Nat.reduceAdd, Nat.reduceMul, w32_eq, w64_eq, lc_eq, lc_lt, lc_le, lc_gt, lc_ge, up_k, up_i, up_e, Int.toNat_natCast, tn7, tn8, tn12, tn3, tn120, tn1600, w32_and, w32_or, w32_xor, w32_shl, w32_shr, has2_eq, e0]) <;> omega)) | (with_reducible refine post_ite (fun hcp => ?_) (fun hcp => ?_) <;> (try simp (disch := omega) only [Bool.false_eq_true, not_true_eq_false, not_false_eq_true, Nat.reduceAdd, Nat.reduceMul, w32_eq, w64_eq, lc_eq, lc_lt, lc_le, lc_gt, lc_ge, up_k, up_i, up_e, Int.toNat_natCast, tn7, tn8, tn12, tn3, tn120, tn1600, w32_and, w32_or, w32_xor, w32_shl, w32_shr, has2_eq, e0] at hcp) <;> (try (exfalso; first | omega | exact hcp rfl | exact hcp trivial | contradiction))))
    exact post_some ⟨rfl, hr, hf, fun _ _ _ => rfl⟩
  | succ d ih =>
    intro c X1 N hcd hN hr hf
    obtain ⟨G, rfl⟩ : ∃ G, N = G + 1 := ⟨N - 1, by omega⟩
    have e0 : X1 23 0 = (nv : Int) := by rw [hf.1 23 (by omega) (by omega)]; exact h0
    obtain ⟨⟨b, X2⟩, e1, g1, g2, g3, g4, g5⟩ := x_voice (c := c) hr (by omega) (by omega) hf hb
    simp only at g1 g2 g3 g4
    have rest := ih (c + 1) X2 G (by omega) (by omega) (by rw [show 2 + 3 * (c + 1) = 2 + 3 * c + 3 by omega]; exact g2) g3
    have rest' : post (itr3 x_Picture_read_L117 G 0 ((c : Int) + 1) X2) (fun r => r.1 = 0 ∧ Rd L (2 + 3 * nv) r.2.2 ∧ FrX X r.2.2 ∧ (∀ a, (a < 52 ∨ 54 < a) → a ≠ 370 → r.2.2 a = X1 a)) := by
      refine post_mono rest ?_
      rintro r ⟨q1, q2, q3, q4⟩
      exact ⟨q1, q2, q3, fun a z1 z2 => by rw [q4 a z1 z2, g4 a z1 z2]⟩
    have step : ∀ F : Int → Int → Mem → Option (Int × Int × Mem), x_Picture_read_L117 F 0 (c : Int) X1 = F 0 ((c : Int) + 1) X2 := fun F => by
      unfold x_Picture_read_L117
      rw [if_neg (by rw [e0, w32_eq (by omega) (by omega), w32_eq (by omega) (by omega)]; omega), e1, bnd2_some]
      cases b with
      | true => rw [if_pos rfl, if_pos w32_0]; rfl
      | false => rw [if_neg Bool.false_ne_true]; rfl
    show post (x_Picture_read_L117 (fun a b m => itr3 x_Picture_read_L117 G a b m) 0 (c : Int) X1) _
    rw [step]
    exact rest'
