/-! THE PURE PART: on: a saying, the class -/
def Fre (ns : Nat) (Y : Mem) (v : Nat) : Prop := w32 (Y 53 v) = 0 ∧ ∀ s, s < ns → ¬ (w32 (Y 55 s) = 2 ∧ w32 (Y 58 s) = (v : Int))
theorem x_free {ns v : Nat} {Y : Mem} (h2 : Y 23 2 = (ns : Int)) (hns : ns ≤ 12) (hv : v < 7) : post (x_State_isFree 51 (v : Int) Y) (fun b => b = true ↔ Fre ns Y v) := by
  have by' : post (x_State_sayingBy 51 (v : Int) Y) (fun r => (r = -1 ∧ ∀ s, s < ns → ¬ (w32 (Y 55 s) = 2 ∧ w32 (Y 58 s) = (v : Int))) ∨ (∃ s : Nat, r = (s : Int) ∧ s < ns ∧ w32 (Y 55 s) = 2 ∧ w32 (Y 58 s) = (v : Int))) := by
    unfold x_State_sayingBy
    refine post_bnd (post_itr1 (fun n (i : Int) => ∃ c : Nat, i = (c : Int) ∧ c ≤ ns ∧ n = ns - c ∧ ∀ s, s < c → ¬ (w32 (Y 55 s) = 2 ∧ w32 (Y 58 s) = (v : Int)))
      (fun r => (∃ u, r = .inr u ∧ ∀ s, s < ns → ¬ (w32 (Y 55 s) = 2 ∧ w32 (Y 58 s) = (v : Int))) ∨ (∃ s : Nat, r = .inl (s : Int) ∧ s < ns ∧ w32 (Y 55 s) = 2 ∧ w32 (Y 58 s) = (v : Int))) ?_ FUEL ns 0 (fuel_lt (by omega)) ⟨0, rfl, by omega, rfl, fun s hs => by omega⟩) ?_
    · rintro n i ⟨c, rfl, hc, rfl, hno⟩ F ih
      unfold x_State_sayingBy_L2
      have w2 : w32 2 = 2 := w32_eq (by omega) (by omega)
      have wv : w32 (v : Int) = (v : Int) := w32_eq (by omega) (by omega)
      by_cases h : c < ns
      · have go : ¬ (w32 (Y 55 c) = 2 ∧ w32 (Y 58 c) = (v : Int)) → post (lt ((c : Int) + 1) (fun v2_35 => F v2_35)) (fun r => (∃ u, r = .inr u ∧ ∀ s, s < ns → ¬ (w32 (Y 55 s) = 2 ∧ w32 (Y 58 s) = (v : Int))) ∨ (∃ s : Nat, r = .inl (s : Int) ∧ s < ns ∧ w32 (Y 55 s) = 2 ∧ w32 (Y 58 s) = (v : Int))) := fun hn => by
          refine post_lt ?_
          refine ih (ns - (c + 1)) _ (by omega) ⟨c + 1, rfl, by omega, rfl, fun s hs => ?_⟩
          by_cases e : s = c
          · subst e; exact hn
          · exact hno s (by omega)
        rw [if_neg (by rw [h2, w32_eq (by omega) (by omega), w32_eq (by omega) (by omega)]; omega), chk_p (by omega), Int.toNat_natCast, w2, wv]
        by_cases q1 : w32 (Y 55 c) = 2
        · rw [if_neg (fun z => z q1), chk_p (by omega)]
          by_cases q2 : w32 (Y 58 c) = (v : Int)
          · rw [if_neg (fun z => z q2)]
            exact post_some (Or.inr ⟨c, rfl, h, q1, q2⟩)
          · rw [if_pos q2]
            exact go (fun z => q2 z.2)
        · rw [if_pos q1]
          exact go (fun z => q1 z.1)
      · have e : c = ns := by omega
        subst e
        rw [if_pos (by rw [h2]; exact Int.le_refl _)]
        exact post_some (Or.inl ⟨_, rfl, hno⟩)
    · rintro r (⟨u, rfl, h⟩ | ⟨s, rfl, h⟩)
      · exact post_some (Or.inl ⟨rfl, h⟩)
      · exact post_some (Or.inr ⟨s, rfl, h⟩)
  unfold x_State_isFree
  have w1 : w32 (-1) = -1 := w32_eq (by omega) (by omega)
  have t51 : (51 : Nat) + 2 = 53 := rfl
  rw [chk_p (by omega), Int.toNat_natCast, w1, t51]
  by_cases h : w32 (Y 53 v) = 0
  · rw [if_neg (fun z => z h)]
    refine post_bnd by' ?_
    rintro r (⟨rfl, h3⟩ | ⟨s, rfl, h3, h4⟩)
    · rw [w1, if_neg (fun z => z rfl)]
      exact post_some ⟨fun _ => ⟨h, h3⟩, fun _ => rfl⟩
    · rw [w32_eq (by omega) (by omega), if_pos (by omega)]
      exact post_some ⟨fun q => (by cases q), fun q => absurd h4 (q.2 s h3)⟩
  · rw [if_pos h]
    exact post_some ⟨fun q => (by cases q), fun q => absurd q.1 h⟩
/-- the saying c of the picture is a good one -/
def SOk (nv ns c : Nat) (X X1 : Mem) (p : Nat) : Prop := X 2 p ≤ 5 ∧ or32 (shl32 (X 2 (p + 1)) 8) (X 2 (p + 2)) ≤ 999 ∧ X 2 (p + 3) ≤ 99 ∧ X 2 (p + 6) ≤ 1 ∧ (X 2 p = 0 → X 2 (p + 3) = 0) ∧
  (((X 2 p = 2 ∨ X 2 p = 3 ∨ X 2 p = 5) ∧ X 2 (p + 4) < (nv : Int)) ∨ (¬ (X 2 p = 2 ∨ X 2 p = 3 ∨ X 2 p = 5) ∧ X 2 (p + 4) = 255 ∧ X 2 (p + 6) = 0)) ∧
  ((X 2 p = 2 ∧ Fre ns X1 (X 2 (p + 4)).toNat ∧ 1 ≤ X 2 (p + 5) ∧ X 2 (p + 5) ≤ X 31 c) ∨ (¬ X 2 p = 2 ∧ X 2 (p + 5) = 0))
theorem pair_small : ∀ a : Nat, a < 256 → ∀ b : Nat, b < 256 → or32 (shl32 (a : Int) 8) (b : Int) = ((256 * a + b : Nat) : Int) := by
  intro a ha b hb
  have e8 : ∀ a : Nat, a < 256 → shl32 (a : Int) 8 = ((256 * a : Nat) : Int) := by decide +kernel
  rw [e8 a ha, or32_nat (by omega) (by omega)]
  have : (256 * a ||| b) = 256 * a + b := by
    rw [show 256 * a = 2 ^ 8 * a from rfl]
    exact (Nat.two_pow_add_eq_or_of_lt (i := 8) (by omega) a).symm
  rw [this]
