/-! THE PURE PART: on: the trial is a state -/
theorem RS_trial {nv ns : Nat} {X X1 M1 : Mem} (hnv : nv ≤ 7) (hns : ns ≤ 12) (hv : RSv nv X1 M1) (hs : RSs nv ns ns X X1 M1) (h12 : X1 51 12 = 0) (h35 : M1 35 1 = 0) (h25 : M1 25 1 = X1 51 13) (hm : 0 ≤ X1 51 13 ∧ X1 51 13 ≤ 999) : RS nv ns 51 1 X1 M1 ∧ SI nv ns 51 X1 := by
  obtain ⟨v1, v2, v3⟩ := hv
  obtain ⟨s1, s2, s3, s4, s5, s6, s7⟩ := hs
  have hp : 2 ^ ns ≤ 2 ^ 12 := Nat.pow_le_pow_right (by omega) hns
  have e12 : (2 : Nat) ^ 12 = 4096 := rfl
  refine ⟨⟨?_, ?_, ?_, ?_, ?_, ?_, ?_, ?_, ?_, ?_, ?_, ?_, ?_, ?_, ⟨v2, v3⟩, ⟨s6, by omega⟩⟩, ⟨?_, ?_, ?_, ?_, ?_, ?_, ?_, ?_, ?_, ?_, ?_, ?_, hm, ?_⟩⟩
  · intro k hk; exact (v1 k hk).1
  · intro k hk; exact (v1 k hk).2.2.2.1
  · intro k hk; exact (v1 k hk).2.2.2.2.2.2.1
  · intro s hs; exact (s1 s hs).1
  · intro s hs; exact (s1 s hs).2.2.2.1
  · intro s hs; exact (s1 s hs).2.2.2.2.2.2.1
  · intro s hs; exact (s1 s hs).2.2.2.2.2.2.2.2.2.1
  · intro s hs; exact (s1 s hs).2.2.2.2.2.2.2.2.2.2.2.2.1
  · intro s hs; exact (s1 s hs).2.2.2.2.2.2.2.2.2.2.2.2.2.2.2.1
  · rw [h12]; exact h35
  · exact h25
  · intro k hk; rw [h12] at hk; omega
  · intro k hk; rw [h12] at hk; omega
  · intro k hk; rw [h12] at hk; omega
  · intro k hk; obtain ⟨-, a, b, -⟩ := v1 k hk; exact ⟨a, b⟩
  · intro k hk; obtain ⟨-, -, -, -, a, b, -⟩ := v1 k hk; exact ⟨a, b⟩
  · intro k hk; obtain ⟨-, -, -, -, -, -, -, a, b⟩ := v1 k hk; exact ⟨a, b⟩
  · intro s hs; obtain ⟨-, a, b, -⟩ := s1 s hs; exact ⟨a, b⟩
  · intro s hs; obtain ⟨-, -, -, -, a, b, -⟩ := s1 s hs; exact ⟨a, b⟩
  · intro s hs; obtain ⟨-, -, -, -, -, -, -, a, b, -⟩ := s1 s hs; exact ⟨a, b⟩
  · intro s hs; obtain ⟨-, -, -, -, -, -, -, -, -, -, a, b, -⟩ := s1 s hs; exact ⟨a, b⟩
  · intro s hs; obtain ⟨-, -, -, -, -, -, -, -, -, -, -, -, -, a, b, -⟩ := s1 s hs; exact ⟨a, b⟩
  · intro s hs; obtain ⟨-, -, -, -, -, -, -, -, -, -, -, -, -, -, -, -, a, b⟩ := s1 s hs; exact ⟨a, b⟩
  · intro s hs q; exact s2 s hs q
  · intro s hs q; exact s3 s hs q
  · intro s t hs ht q r e; exact s4 s t hs ht q r e
  · rw [h12]; exact ⟨by omega, by omega⟩
theorem RS_start {nv ns : Nat} {X X1 M1 : Mem} (h4 : ∀ j, j < 12 → X1 55 j = 0) (h28 : M1 28 1 = 0) (h34 : M1 34 1 = 0) : RSv 0 X1 M1 ∧ RSs nv ns 0 X X1 M1 := by
  refine ⟨⟨fun k hk => by omega, by omega, ?_⟩, fun s hs => by omega, fun s hs => by omega, fun s hs => by omega, fun s t hs => by omega, fun s _ hs => h4 s hs, by omega, ?_⟩
  · rw [h28]; decide
  · rw [h34]; decide
