/-! THE PURE PART: on: one saying more -/
theorem RSs_next {nv ns c p : Nat} {X X1 M1 X2 M2 : Mem} (h : RSs nv ns c X X1 M1) (hnv : nv ≤ 7) (hc : c < 12) (hcn : c < ns) (hok : SOk nv ns c X X1 p) (hb : ∀ j, j < 1600 → 0 ≤ X 2 j ∧ X 2 j ≤ 255) (hp : p + 7 ≤ 1600) (h31 : X 31 c ≤ 20) (h53 : X2 53 = X1 53) (hw53 : ∀ k, k < nv → 0 ≤ X1 53 k ∧ X1 53 k ≤ 1) (hx : Wrote c p X X1 X2) (hm : WroteM c p X M1 M2) : RSs nv ns (c + 1) X X2 M2 := by
  obtain ⟨s1, s2, s3, s4, s5, s6, s7⟩ := h
  obtain ⟨k1, k2, k3, k4, k5, k6, k7⟩ := hok
  obtain ⟨x0, x1, x2, x3, x4, x5, x6⟩ := hx
  obtain ⟨m0, m1, m2, m3, m4, m5, m6⟩ := hm
  have z0 := hb p (by omega)
  have z1 := hb (p + 1) (by omega)
  have z2 := hb (p + 2) (by omega)
  have z3 := hb (p + 3) (by omega)
  have z4 := hb (p + 4) (by omega)
  have z5 := hb (p + 5) (by omega)
  have z6 := hb (p + 6) (by omega)
  obtain ⟨q1, hq1⟩ := Int.eq_ofNat_of_zero_le z1.1
  obtain ⟨q2, hq2⟩ := Int.eq_ofNat_of_zero_le z2.1
  have pr : or32 (shl32 (X 2 (p + 1)) 8) (X 2 (p + 2)) = ((256 * q1 + q2 : Nat) : Int) := by rw [hq1, hq2]; exact pair_small q1 (by omega) q2 (by omega)
  rw [pr] at x2 m2 k2
  obtain ⟨z, hz⟩ := Int.eq_ofNat_of_zero_le s6
  have hz : M1 34 1 = (z : Int) := hz
  have hzc : z < 2 ^ c := by omega
  have hp7 : 2 ^ c ≤ 2 ^ 12 := Nat.pow_le_pow_right (by omega) (by omega)
  have e7 : (2 : Nat) ^ 12 = 4096 := rfl
  have hzs : 2 ^ (c + 1) = 2 ^ c * 2 := Nat.pow_succ 2 c
  have bitc : and32 (shr32 (z : Int) (c : Int)) 1 = 0 := by
    rw [bit_of (by omega) (by omega), Nat.testBit_lt_two_pow hzc]
    rfl
  have set : ∀ k : Nat, k < c + 1 → and32 (shr32 (M2 34 1) (k : Int)) 1 = if k = c then X 2 (p + 6) else and32 (shr32 (M1 34 1) (k : Int)) 1 := fun k hk => by
    rw [m6, hz]
    by_cases q : X 2 (p + 6) = 1
    · rw [if_pos q, bit_set (by omega) (by omega) (by omega) (by omega), q]
    · rw [if_neg q, or32_0 (by omega)]
      by_cases e : k = c
      · subst e; rw [if_pos rfl, bitc]; omega
      · rw [if_neg e]
  have rng : 0 ≤ M2 34 1 ∧ M2 34 1 < ((2 ^ (c + 1) : Nat) : Int) := by
    rw [m6, hz]
    by_cases q : X 2 (p + 6) = 1
    · rw [if_pos q]
      exact or_rng (by omega) (by omega) (by omega) (by omega)
    · rw [if_neg q, or32_0 (by omega)]
      omega
  have hvv : X2 58 c = M2 32 (12 + c) ∧ -1 ≤ X2 58 c ∧ X2 58 c < (nv : Int) := by
    rw [x4, m4]
    rcases k6 with ⟨k6, k6'⟩ | ⟨k6, k6', -⟩
    · rw [if_pos k6, if_neg (by omega)]
      exact ⟨rfl, by omega, k6'⟩
    · rw [if_neg k6, if_pos k6']
      exact ⟨rfl, by omega, by omega⟩
  have h2v : X2 55 c = 2 → X2 58 c = X 2 (p + 4) ∧ Fre ns X1 (X 2 (p + 4)).toNat ∧ 1 ≤ X 2 (p + 5) ∧ X 2 (p + 4) < (nv : Int) := fun q => by
    rw [x1] at q
    rcases k7 with ⟨-, k7, k8, -⟩ | ⟨k7, -⟩
    · rw [x4, if_pos (Or.inl q)]
      exact ⟨rfl, k7, k8, by omega⟩
    · exact absurd q k7
  -- a saying that sounds already is not by a free voice
  have apart : ∀ t, t < c → X2 55 c = 2 → X1 55 t = 2 → X2 58 c = X1 58 t → False := fun t ht g1 g2 g3 => by
    obtain ⟨g4, g5, -, -⟩ := h2v g1
    obtain ⟨-, -, -, -, -, -, -, -, -, -, r5, r6, -⟩ := s1 t ht
    refine g5.2 t (by omega) ⟨?_, ?_⟩
    · rw [g2]; exact w32_eq (by omega) (by omega)
    · rw [w32_eq (by omega) (by omega)]; omega
  refine ⟨fun s hs => ?_, fun s hs q => ?_, fun s hs q => ?_, fun s t hs ht q r e => ?_, fun s hs h12 => ?_, rng⟩
  · by_cases e : s = c
    · subst e
      rw [set s (by omega), if_pos rfl, m1, m2, m3, m5, x1, x2, x3, x5, x6]
      refine ⟨rfl, by omega, by omega, rfl, by omega, by omega, rfl, by omega, by omega, hvv.1.symm, hvv.2.1, hvv.2.2, rfl, by omega, by omega, rfl, by omega, by omega⟩
    · obtain ⟨a1, a2, a3, a4, a5⟩ := m0 (12 + s) (by omega)
      obtain ⟨b1, b2, b3, b4, b5, b6⟩ := x0 s e
      rw [set s hs, if_neg e, a1, a2, a3, a4, a5, b1, b2, b3, b4, b5, b6]
      exact s1 s (by omega)
  · by_cases e : s = c
    · subst e
      obtain ⟨g4, g5, g6, g7⟩ := h2v q
      rw [g4, x5, h53]
      refine ⟨by omega, g6, ?_⟩
      have := hw53 (X 2 (p + 4)).toNat (by omega)
      have g8 := g5.1
      rw [w32_eq (by omega) (by omega)] at g8
      exact g8
    · obtain ⟨b1, b2, b3, b4, b5, b6⟩ := x0 s e
      rw [b1] at q
      rw [b4, b5, h53]
      exact s2 s (by omega) q
  · by_cases e : s = c
    · subst e
      rw [x1] at q
      rw [x6]
      omega
    · obtain ⟨b1, b2, b3, b4, b5, b6⟩ := x0 s e
      rw [b1] at q
      rw [b6]
      exact s3 s (by omega) q
  · by_cases e1 : s = c
    · by_cases e2 : t = c
      · omega
      · exfalso
        subst e1
        obtain ⟨b1, b2, b3, b4, b5, b6⟩ := x0 t e2
        rw [b1] at r
        rw [b4] at e
        exact apart t (by omega) q r e
    · by_cases e2 : t = c
      · exfalso
        subst e2
        obtain ⟨b1, b2, b3, b4, b5, b6⟩ := x0 s e1
        rw [b1] at q
        rw [b4] at e
        exact apart s (by omega) r q e.symm
      · have bs := x0 s e1
        have bt := x0 t e2
        rw [bs.1] at q
        rw [bt.1] at r
        rw [bs.2.2.2.1, bt.2.2.2.1] at e
        exact s4 s t (by omega) (by omega) q r e
  · rw [(x0 s (by omega)).1]
    exact s5 s (by omega) h12
