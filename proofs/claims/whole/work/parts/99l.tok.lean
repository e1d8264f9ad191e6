/-! THE PURE PART: town: a token as both see it -/
def ownW : Nat → Int
  | 0 => 508675318629
  | 1 => 123581014175598
  | 2 => 512735736947
  | 3 => 482804460403
  | 4 => 469920933235
  | 5 => 1752527720
  | 6 => 126943973305189
  | 7 => 482805572456
  | 8 => 1667329133
  | 9 => 24948
  | 10 => 1819242087
  | 11 => 1953459813
  | 12 => 512735409267
  | 13 => 120299592184933
  | 14 => 1819238756
  | 15 => 1651864441
  | 16 => 26982
  | 17 => 28530
  | 18 => 6385252
  | 19 => 7237492
  | 20 => 6384748
  | 21 => 7170414
  | 22 => 7168376
  | _ => 0
theorem ownW_rng : ∀ t, t < 23 → 0 ≤ ownW t ∧ ownW t < 281474976710656 := by decide +kernel
theorem ownW_inj : ∀ t, t < 23 → ∀ u, u < 23 → ownW t = ownW u → t = u := by decide +kernel
def signK (c : Int) : Prop := c = 59 ∨ c = 40 ∨ c = 41 ∨ c = 91 ∨ c = 93 ∨ c = 44 ∨ c = 43 ∨ c = 45 ∨ c = 42 ∨ c = 47 ∨ c = 37 ∨ c = 60 ∨ c = 62 ∨ c = 61
/-- what the reference holds of a token that is not wrong in itself -/
def Good (K V : Int) (M : Mem) : Prop :=
  (K = 25 ∧ M 0 3 = 0) ∨ (K = 26 ∧ M 0 3 = 3 ∧ 0 ≤ M 0 6 ∧ M 0 6 ≤ 255 ∧ ¬ signK (M 0 6)) ∨ (signK K ∧ M 0 3 = 3 ∧ M 0 6 = K) ∨ (K = 24 ∧ M 0 3 = 2 ∧ M 0 6 = V ∧ 0 ≤ V ∧ V ≤ 9999) ∨
  (0 ≤ K ∧ K ≤ 23 ∧ M 0 3 = 1 ∧ M 0 6 = 0 ∧ NameEq V (M 0 7) ∧ 0 ≤ M 0 7 ∧ M 0 7 < 281474976710656 ∧ (∀ t : Nat, t < 23 → (K = (t : Int) ↔ M 0 7 = ownW t)))
/-- a token of the class and what the reference holds -/
def TokM (K P V : Int) (M : Mem) : Prop := (K = 26 ∧ M 0 12 = P ∧ 0 ≤ P ∧ P ≤ 1600 ∧ (M 0 3 = 1 ∨ M 0 3 = 2)) ∨ (M 0 12 = -1 ∧ M 0 4 = P ∧ 0 ≤ P ∧ P ≤ 1600 ∧ Good K V M)
theorem Good_of {K V : Int} {M M1 : Mem} (h : Good K V M) (h3 : M1 0 3 = M 0 3) (h6 : M1 0 6 = M 0 6) (h7 : M1 0 7 = M 0 7) : Good K V M1 := by
  unfold Good at h ⊢
  rw [h3, h6, h7]
  exact h
theorem TokM_of {K P V : Int} {M M1 : Mem} (h : TokM K P V M) (h3 : M1 0 3 = M 0 3) (h4 : M1 0 4 = M 0 4) (h6 : M1 0 6 = M 0 6) (h7 : M1 0 7 = M 0 7) (h12 : M1 0 12 = M 0 12) : TokM K P V M1 := by
  unfold TokM at h ⊢
  rw [h12, h4, h3]
  rcases h with h | ⟨a, b, c, d, e⟩
  · exact Or.inl h
  · exact Or.inr ⟨a, b, c, d, Good_of e h3 h6 h7⟩
theorem tok_sign {K V : Int} {M : Mem} (h : Good K V M) {c : Int} (hc : signK c) : m_isSign c M = some (decide (K = c)) := by
  have hcr : 37 ≤ c ∧ c ≤ 93 := by unfold signK at hc; omega
  unfold m_isSign
  rw [w32_eq (x := c) (by omega) (by omega), w32_eq (x := (3 : Int)) (by omega) (by omega)]
  rcases h with ⟨a, b⟩ | ⟨a, b, b1, b2, b3⟩ | ⟨a, b, b1⟩ | ⟨a, b, -⟩ | ⟨a, a1, b, -⟩
  · rw [b, w32_eq (by omega) (by omega), if_pos (by omega), decide_eq_false (by omega)]
  · have : M 0 6 ≠ c := fun q => b3 (q ▸ hc)
    rw [b, w32_eq (by omega) (by omega), if_neg (by omega), w32_eq (by omega) (by omega), if_pos this, decide_eq_false (by omega)]
  · have hk : 37 ≤ K ∧ K ≤ 93 := by unfold signK at a; omega
    rw [b, w32_eq (by omega) (by omega), if_neg (by omega), b1, w32_eq (by omega) (by omega)]
    by_cases e : K = c
    · rw [if_neg (by omega), decide_eq_true e]
    · rw [if_pos e, decide_eq_false e]
  · rw [b, w32_eq (by omega) (by omega), if_pos (by omega), decide_eq_false (by omega)]
  · rw [b, w32_eq (by omega) (by omega), if_pos (by omega), decide_eq_false (by omega)]
theorem tok_word {K V : Int} {M : Mem} (h : Good K V M) (t : Nat) (ht : t < 23) : m_isWord (ownW t) M = some (decide (K = (t : Int))) := by
  have hw := ownW_rng t ht
  unfold m_isWord
  have hc : ∀ x : Int, 0 ≤ x → x < 281474976710656 → ((w32 (lcmp x (ownW t)) = 0) ↔ x = ownW t) := fun x h1 h2 => by
    rw [lc_eq, w64_eq (by omega) (by omega), w64_eq (by omega) (by omega)]
  rw [w32_eq (x := (1 : Int)) (by omega) (by omega)]
  rcases h with ⟨a, b⟩ | ⟨a, b, b1, b2, b3⟩ | ⟨a, b, b1⟩ | ⟨a, b, -⟩ | ⟨a, a1, b, b1, b2, b3, b4, b5⟩
  · rw [b, w32_eq (by omega) (by omega), if_pos (by omega), decide_eq_false (by omega)]
  · rw [b, w32_eq (by omega) (by omega), if_pos (by omega), decide_eq_false (by omega)]
  · have hk : 37 ≤ K ∧ K ≤ 93 := by unfold signK at a; omega
    rw [b, w32_eq (by omega) (by omega), if_pos (by omega), decide_eq_false (by omega)]
  · rw [b, w32_eq (by omega) (by omega), if_pos (by omega), decide_eq_false (by omega)]
  · rw [b, w32_eq (by omega) (by omega), if_neg (by omega)]
    by_cases e : K = (t : Int)
    · rw [if_neg (fun q => q ((hc _ b3 b4).mpr ((b5 t ht).mp e))), decide_eq_true e]
    · rw [if_pos (fun q => e ((b5 t ht).mpr ((hc _ b3 b4).mp q))), decide_eq_false e]
theorem tok_num {K V : Int} {M : Mem} (h : Good K V M) : (w32 (M 0 3) = w32 2) = (K = 24) ∧ (K = 24 → M 0 6 = V ∧ 0 ≤ V ∧ V ≤ 9999) := by
  rw [w32_eq (x := (2 : Int)) (by omega) (by omega)]
  rcases h with ⟨a, b⟩ | ⟨a, b, b1, b2, b3⟩ | ⟨a, b, b1⟩ | ⟨a, b, b1, b2⟩ | ⟨a, a1, b, b1, b2, b3, b4, b5⟩
  · rw [b, w32_eq (by omega) (by omega)]; exact ⟨by apply propext; omega, by omega⟩
  · rw [b, w32_eq (by omega) (by omega)]; exact ⟨by apply propext; omega, by omega⟩
  · have hk : 37 ≤ K ∧ K ≤ 93 := by unfold signK at a; omega
    rw [b, w32_eq (by omega) (by omega)]; exact ⟨by apply propext; omega, by omega⟩
  · rw [b, w32_eq (by omega) (by omega)]; exact ⟨by apply propext; omega, fun _ => ⟨b1, b2⟩⟩
  · rw [b, w32_eq (by omega) (by omega)]; exact ⟨by apply propext; omega, by omega⟩
theorem tok_end {K V : Int} {M : Mem} (h : Good K V M) : (w32 (M 0 3) = 0) = (K = 25) := by
  rcases h with ⟨a, b⟩ | ⟨a, b, b1, b2, b3⟩ | ⟨a, b, b1⟩ | ⟨a, b, b1, b2⟩ | ⟨a, a1, b, b1, b2, b3, b4, b5⟩
  · rw [b, w32_eq (by omega) (by omega)]; apply propext; omega
  · rw [b, w32_eq (by omega) (by omega)]; apply propext; omega
  · have hk : 37 ≤ K ∧ K ≤ 93 := by unfold signK at a; omega
    rw [b, w32_eq (by omega) (by omega)]; apply propext; omega
  · rw [b, w32_eq (by omega) (by omega)]; apply propext; omega
  · rw [b, w32_eq (by omega) (by omega)]; apply propext; omega
/-- the kind of what may be a sum's value -/
theorem tok_val {K V : Int} {M : Mem} (h : Good K V M) : K ≠ 24 → K ≤ 23 → M 0 6 = 0 := by
  intro h1 h2
  rcases h with ⟨a, b⟩ | ⟨a, b, b1, b2, b3⟩ | ⟨a, b, b1⟩ | ⟨a, b, b1, b2⟩ | ⟨a, a1, b, b1, b2, b3, b4, b5⟩
  · omega
  · omega
  · unfold signK at a; omega
  · omega
  · exact b1
theorem tok_name {K V : Int} {M : Mem} (h : Good K V M) : (w32 (M 0 3) = w32 1) = (0 ≤ K ∧ K ≤ 23) ∧ (0 ≤ K ∧ K ≤ 23 → NameEq V (M 0 7) ∧ 0 ≤ M 0 7 ∧ M 0 7 < 281474976710656 ∧ (∀ t : Nat, t < 23 → (K = (t : Int) ↔ M 0 7 = ownW t))) := by
  rw [w32_eq (x := (1 : Int)) (by omega) (by omega)]
  rcases h with ⟨a, b⟩ | ⟨a, b, b1, b2, b3⟩ | ⟨a, b, b1⟩ | ⟨a, b, b1, b2⟩ | ⟨a, a1, b, b1, b2, b3, b4, b5⟩
  · rw [b, w32_eq (by omega) (by omega)]; exact ⟨by apply propext; omega, by omega⟩
  · rw [b, w32_eq (by omega) (by omega)]; exact ⟨by apply propext; omega, by omega⟩
  · have hk : 37 ≤ K ∧ K ≤ 93 := by unfold signK at a; omega
    rw [b, w32_eq (by omega) (by omega)]; exact ⟨by apply propext; omega, by omega⟩
  · rw [b, w32_eq (by omega) (by omega)]; exact ⟨by apply propext; omega, by omega⟩
  · rw [b, w32_eq (by omega) (by omega)]; exact ⟨by apply propext; omega, fun _ => ⟨b2, b3, b4, b5⟩⟩
theorem own_all : ∀ t, t < 23 → m_isOwn (ownW t) = some true := by decide +kernel
theorem m_own {w K : Int} (h : 0 ≤ w ∧ w < 281474976710656) (hK : 0 ≤ K ∧ K ≤ 23) (hb : ∀ t : Nat, t < 23 → (K = (t : Int) ↔ w = ownW t)) : m_isOwn w = some (decide (K ≠ 23)) := by
  have key : ∀ t, t < 23 → ((w32 (lcmp w (ownW t)) = 0) = (w = ownW t)) := fun t ht => by
    have := ownW_rng t ht
    rw [lc_eq, w64_eq (by omega) (by omega), w64_eq (by omega) (by omega)]
  by_cases hh : K = 23
  · rw [decide_eq_false (fun q => q hh)]
    have n : ∀ t, t < 23 → w ≠ ownW t := fun t ht q => by have := (hb t ht).mpr q; omega
    have k1 : ∀ t, t < 23 → ∀ x y : Option Bool, (if w32 (lcmp w (ownW t)) = 0 then x else y) = y := fun t ht x y => if_neg (by rw [key t ht]; exact n t ht)
    have k2 : ∀ t, t < 23 → ∀ x y : Option Bool, (if ¬ w32 (lcmp w (ownW t)) = 0 then x else y) = x := fun t ht x y => if_pos (by rw [key t ht]; exact n t ht)
    unfold m_isOwn
    refine (k1 0 (by omega) _ _).trans <| (k1 7 (by omega) _ _).trans <| (k1 1 (by omega) _ _).trans <| (k1 8 (by omega) _ _).trans <| (k2 2 (by omega) _ _).trans <| (k1 9 (by omega) _ _).trans <| (k1 10 (by omega) _ _).trans <| (k1 3 (by omega) _ _).trans <| (k1 4 (by omega) _ _).trans <| (k2 5 (by omega) _ _).trans <| (k1 6 (by omega) _ _).trans <| (k1 11 (by omega) _ _).trans <| (k1 12 (by omega) _ _).trans <| (k1 13 (by omega) _ _).trans <| (k2 14 (by omega) _ _).trans <| (k1 15 (by omega) _ _).trans <| (k1 16 (by omega) _ _).trans <| (k1 17 (by omega) _ _).trans <| (k1 18 (by omega) _ _).trans <| (k2 19 (by omega) _ _).trans <| (k1 20 (by omega) _ _).trans <| (k1 21 (by omega) _ _).trans <| (k2 22 (by omega) _ _).trans <| rfl
  · rw [decide_eq_true hh]
    have hw : w = ownW K.toNat := (hb K.toNat (by omega)).mp (by omega)
    rw [hw]
    exact own_all K.toNat (by omega)
