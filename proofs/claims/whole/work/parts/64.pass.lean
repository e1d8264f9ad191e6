/-! THE PURE PART: copies side by side, minutes on end -/
theorem SI_move {nv ns th o : Nat} {X X1 : Mem} (hI : SI nv ns o X) (hnv : nv ≤ 7) (hns : ns ≤ 12) (h1 : ∀ j, j < 7 → X1 (th + 1) j = X (o + 1) j ∧ X1 (th + 2) j = X (o + 2) j ∧ X1 (th + 3) j = X (o + 3) j)
    (h2 : ∀ j, j < 12 → X1 (th + 4) j = X (o + 4) j ∧ X1 (th + 5) j = X (o + 5) j ∧ X1 (th + 6) j = X (o + 6) j ∧ X1 (th + 7) j = X (o + 7) j ∧ X1 (th + 8) j = X (o + 8) j ∧ X1 (th + 9) j = X (o + 9) j ∧ X1 (th + 10) j = X (o + 10) j ∧ X1 (th + 11) j = X (o + 11) j ∧ X1 (th + 12) j = X (o + 12) j)
    (h3 : X1 th 12 = X o 12) (h4 : X1 th 13 = X o 13) : SI nv ns th X1 := by
  obtain ⟨ip, is, ib, iw, id, it, iv, il, ix, isnd, inm, iin, im, ik⟩ := hI
  refine ⟨?_, ?_, ?_, ?_, ?_, ?_, ?_, ?_, ?_, ?_, ?_, ?_, ?_, ?_⟩
  · intro j hj; rw [(h1 j (by omega)).1]; exact ip j hj
  · intro j hj; rw [(h1 j (by omega)).2.1]; exact is j hj
  · intro j hj; rw [(h1 j (by omega)).2.2]; exact ib j hj
  · intro j hj; rw [(h2 j (by omega)).1]; exact iw j hj
  · intro j hj; rw [(h2 j (by omega)).2.1]; exact id j hj
  · intro j hj; rw [(h2 j (by omega)).2.2.1]; exact it j hj
  · intro j hj; rw [(h2 j (by omega)).2.2.2.1]; exact iv j hj
  · intro j hj; rw [(h2 j (by omega)).2.2.2.2.1]; exact il j hj
  · intro j hj; rw [(h2 j (by omega)).2.2.2.2.2.1]; exact ix j hj
  · intro j hj; rw [(h2 j (by omega)).1, (h2 j (by omega)).2.2.2.1, (h2 j (by omega)).2.2.2.2.1]
    intro hw
    have := iv j hj
    obtain ⟨q1, q2, q3⟩ := isnd j hj hw
    rw [(h1 (X (o + 7) j).toNat (by omega)).2.1]
    exact ⟨q1, q2, q3⟩
  · intro j hj; rw [(h2 j (by omega)).1, (h2 j (by omega)).2.2.2.2.2.1]; exact inm j hj
  · intro j t hj ht; rw [(h2 j (by omega)).1, (h2 t (by omega)).1, (h2 j (by omega)).2.2.2.1, (h2 t (by omega)).2.2.2.1]; exact iin j t hj ht
  · rw [h4]; exact im
  · rw [h3]
    have : cnt (fun j => decide (3 ≤ X1 (th + 4) j)) ns = cnt (fun j => decide (3 ≤ X (o + 4) j)) ns := cnt_ext (fun j hj => by rw [(h2 j (by omega)).1])
    rw [this]; exact ik
/-- a state copied -/
def Copied (ns th o : Nat) (X X1 : Mem) : Prop := (∀ j, j < 7 → X1 (th + 1) j = X (o + 1) j ∧ X1 (th + 2) j = X (o + 2) j ∧ X1 (th + 3) j = X (o + 3) j) ∧ (∀ j, j < ns → X1 (th + 4) j = X (o + 4) j ∧ X1 (th + 7) j = X (o + 7) j ∧ X1 (th + 9) j = X (o + 9) j) ∧ X1 th 13 = X o 13
theorem cw_copied {ns th o : Nat} {k : Int} {X X1 : Mem} (h : Copied ns th o X X1) : cw ns th X1 k = cw ns o X k := cnt_ext (fun j hj => by rw [(h.2.1 j hj).1])
theorem sim_copy {nv ns th o to fr : Nat} {X M : Mem} (hnv : nv ≤ 7) (hns : ns ≤ 12) (hS : RS nv ns o fr X M) (hI : SI nv ns o X) (hd : th + 12 < o ∨ o + 12 < th) (ht : to < 22) (hf : fr < 22) (hne : to ≠ fr) :
    two (x_State_copyFrom th o X) (m_copies (to : Int) (fr : Int) M) (fun X1 M1 => RS nv ns th to X1 M1 ∧ SI nv ns th X1 ∧ (∀ a, (a < th ∨ th + 12 < a) → X1 a = X a) ∧ FMt to M M1 ∧ Copied ns th o X X1) := by
  obtain ⟨X1, e1, h1, h2, h3, h4, h5⟩ := x_copy (X := X) hd
  have hk := SI_kept2 hI hns
  have hS' := hS
  obtain ⟨rp, rs, rb, rw, rd, rt, rv, rl, rx, rk, rm, rk1, rk2, rk3, rz1, rz2⟩ := hS
  obtain ⟨M1, f1, g1, g2, g3, g4, g5, g6, g7, g8⟩ := m_copy (M := M) ht hf hne (by omega)
  have g7' : ∀ j : Nat, (j : Int) < X o 12 → ∀ z, z < 3 → M1 36 (120 * to + (3 * j + z)) = M 36 (120 * fr + (3 * j + z)) := fun j hj z hz => g7 (3 * j + z) (by omega)
  refine ⟨X1, M1, e1, f1, ⟨?_, ?_, ?_, ?_, ?_, ?_, ?_, ?_, ?_, ?_, ?_, ?_, ?_, ?_, ?_, ?_⟩, SI_move hI hnv hns h1 h2 h3 h4, h5, g8, ⟨h1, fun j hj => ⟨(h2 j (by omega)).1, (h2 j (by omega)).2.2.2.1, (h2 j (by omega)).2.2.2.2.2.1⟩, h4⟩⟩
  · intro j hj; rw [(g1 j (by omega)).1, (h1 j (by omega)).1]; exact rp j hj
  · intro j hj; rw [g4, (h1 j (by omega)).2.1]; exact rs j hj
  · intro j hj; rw [(g1 j (by omega)).2, (h1 j (by omega)).2.2]; exact rb j hj
  · intro j hj; rw [(g2 j (by omega)).1, (h2 j (by omega)).1]; exact rw j hj
  · intro j hj; rw [(g2 j (by omega)).2.1, (h2 j (by omega)).2.1]; exact rd j hj
  · intro j hj; rw [(g2 j (by omega)).2.2.1, (h2 j (by omega)).2.2.1]; exact rt j hj
  · intro j hj; rw [(g2 j (by omega)).2.2.2.1, (h2 j (by omega)).2.2.2.1]; exact rv j hj
  · intro j hj; rw [(g2 j (by omega)).2.2.2.2, (h2 j (by omega)).2.2.2.2.1]; exact rl j hj
  · intro j hj; rw [g5, (h2 j (by omega)).2.2.2.2.2.1]; exact rx j hj
  · rw [g6, h3]; exact rk
  · rw [g3, h4]; exact rm
  · intro j hj; rw [h3] at hj; rw [show 120 * to + 3 * j = 120 * to + (3 * j + 0) by omega, g7' j hj 0 (by omega), (h2 j (by omega)).2.2.2.2.2.2.1]; exact rk1 j hj
  · intro j hj; rw [h3] at hj; rw [show 120 * to + 3 * j + 1 = 120 * to + (3 * j + 1) by omega, g7' j hj 1 (by omega), (h2 j (by omega)).2.2.2.2.2.2.2.1]; exact rk2 j hj
  · intro j hj; rw [h3] at hj; rw [show 120 * to + 3 * j + 2 = 120 * to + (3 * j + 2) by omega, g7' j hj 2 (by omega), (h2 j (by omega)).2.2.2.2.2.2.2.2]; exact rk3 j hj
  · rw [g4]; exact rz1
  · rw [g5]; exact rz2
/-- minutes without draws, in both -/
theorem sim_pass {nv np ns bk th v n : Nat} {am : Int} {X M : Mem} (hT : RT nv np ns bk X M) (hS : RS nv ns th v X M) (hI : SI nv ns th X) (hth : 38 ≤ th) (hv : v < 22) (hal : Same nv 127 am) (hm : X th 13 + n ≤ 999) :
    ∃ (h d : Nat) (X1 : Mem), x_State_pass th (n : Int) X = some ((d : Int), X1) ∧ FXt th X X1 ∧ SI nv ns th X1 ∧ Sem ns th h d X X1 ∧ X1 th 13 = X th 13 + n := by
  sorry
