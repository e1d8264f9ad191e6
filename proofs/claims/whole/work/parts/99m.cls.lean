/-! THE PURE PART: town: the class's reader, a row at a time; behind a fault -/
/-- the tokens: C 0 kinds, C 1 places, C 2 values, C 3 the tape, C 4 where each ends, C 5 0 the tape's length -/
def TokC (C : Mem) (cnt : Nat) : Prop := 1 ≤ cnt ∧ cnt ≤ 1601 ∧ (∀ j, j < cnt → 0 ≤ C 0 j ∧ C 0 j ≤ 255 ∧ 0 ≤ C 1 j ∧ C 1 j ≤ 1600 ∧ 0 ≤ C 2 j ∧ C 2 j < 2147483648) ∧ (∀ j, j + 1 < cnt → C 0 j ≠ 25 ∧ C 0 j ≠ 26) ∧ (C 0 (cnt - 1) = 25 ∨ C 0 (cnt - 1) = 26)
/-- the reader stands at token j, o are open, nothing is wrong -/
def Prs (C : Mem) (cnt j o : Nat) (X : Mem) : Prop := X 3 1 = 0 ∧ X 3 4 = (j : Int) ∧ X 3 5 = (o : Int) ∧ X 19 3 = (cnt : Int) ∧ X 20 = C 0 ∧ X 21 = C 1 ∧ (X 22 = C 2 ∧ X 3 2 = -1)
theorem tok_next {C : Mem} {cnt j : Nat} (h : TokC C cnt) (hj : j < cnt) (h1 : C 0 j ≠ 25) (h2 : C 0 j ≠ 26) : j + 1 < cnt := by
  obtain ⟨a1, a2, a3, a4, a5⟩ := h
  by_cases e : j = cnt - 1
  · subst e; omega
  · omega
section CLS
variable {C : Mem} {cnt j o : Nat} {X : Mem}
theorem x_at (hC : TokC C cnt) (h : Prs C cnt j o X) (hj : j < cnt) {c : Int} (hc : 0 ≤ c ∧ c ≤ 255) : x_Reader_at c X = some (decide (C 0 j = c)) := by
  obtain ⟨a1, a2, a3, a4, a5⟩ := hC
  obtain ⟨h1, h2, h3, h4, h5, h6, h7⟩ := h
  have b := a3 j hj
  unfold x_Reader_at chk
  rw [h1, h2, h4, h5, Int.toNat_natCast]
  rw [w32_eq (x := (0 : Int)) (by omega) (by omega), w32_eq (x := (j : Int)) (by omega) (by omega), w32_eq (x := (cnt : Int)) (by omega) (by omega), w32_eq (x := C 0 j) (by omega) (by omega), w32_eq (x := c) (by omega) (by omega)]
  rw [if_neg (by omega), if_neg (by omega), if_neg (by omega), if_pos (by omega)]
  by_cases e : C 0 j = c
  · rw [if_neg (by omega), decide_eq_true e]
  · rw [if_pos e, decide_eq_false e]
theorem x_kind (hC : TokC C cnt) (h : Prs C cnt j o X) (hj : j < cnt) : x_Reader_kind X = some (C 0 j) := by
  obtain ⟨a1, a2, a3, a4, a5⟩ := hC
  obtain ⟨h1, h2, h3, h4, h5, h6, h7⟩ := h
  unfold x_Reader_kind chk
  rw [h2, h4, h5, Int.toNat_natCast]
  rw [w32_eq (x := (j : Int)) (by omega) (by omega), w32_eq (x := (cnt : Int)) (by omega) (by omega)]
  rw [if_neg (by omega), if_neg (by omega), if_pos (by omega)]
theorem x_value (hC : TokC C cnt) (h : Prs C cnt j o X) (hj : j < cnt) : x_Reader_value X = some (C 2 j) := by
  obtain ⟨a1, a2, a3, a4, a5⟩ := hC
  obtain ⟨h1, h2, h3, h4, h5, h6, h7⟩ := h
  unfold x_Reader_value chk
  rw [h2, h4, h7.1, Int.toNat_natCast]
  rw [w32_eq (x := (j : Int)) (by omega) (by omega), w32_eq (x := (cnt : Int)) (by omega) (by omega)]
  rw [if_neg (by omega), if_neg (by omega), if_pos (by omega)]
theorem x_refuse (hC : TokC C cnt) (h : Prs C cnt j o X) (hj : j < cnt) (w : Int) : x_Reader_refuse w X = some (upM (upM X 3 1 w) 3 2 (C 1 j)) := by
  obtain ⟨a1, a2, a3, a4, a5⟩ := hC
  obtain ⟨h1, h2, h3, h4, h5, h6, h7⟩ := h
  unfold x_Reader_refuse chk
  dsimp only [lt]
  have e1 : (upM X 3 1 w) 3 4 = (j : Int) := by rw [up_i (by omega)]; exact h2
  have e2 : (upM X 3 1 w) 19 3 = (cnt : Int) := by rw [up_k (by omega)]; exact h4
  have e3 : (upM X 3 1 w) 21 = C 1 := by rw [upM_row (by omega)]; exact h6
  rw [h1, e1, e2, e3, Int.toNat_natCast]
  rw [w32_eq (x := (0 : Int)) (by omega) (by omega), w32_eq (x := (j : Int)) (by omega) (by omega), w32_eq (x := (cnt : Int)) (by omega) (by omega)]
  rw [if_pos rfl, if_neg (by omega), if_neg (by omega), if_pos (by omega)]
end CLS
/-- behind a fault -/
def FSt (cnt : Nat) (X : Mem) : Prop := 1 ≤ X 3 1 ∧ X 3 1 ≤ 6 ∧ 0 ≤ X 3 4 ∧ X 3 4 ≤ 1000000 ∧ X 19 3 = (cnt : Int) ∧ cnt ≤ 1601 ∧ 0 ≤ X 13 5 ∧ X 13 5 ≤ 1600
/-- what may still change there: the place that is read next by a, the steps -/
def FFr (a : Nat) (X X1 : Mem) : Prop := X1 3 1 = X 3 1 ∧ X1 3 2 = X 3 2 ∧ X 3 4 ≤ X1 3 4 ∧ X1 3 4 ≤ X 3 4 + (a : Int) ∧ 0 ≤ X1 13 5 ∧ X1 13 5 ≤ 1600 ∧ (∀ q, q ≠ 3 → q ≠ 13 → q ≠ 15 → X1 q = X q)
theorem FFr_refl {cnt : Nat} {X : Mem} (h : FSt cnt X) : FFr 0 X X := by
  obtain ⟨h1, h2, h3, h4, h5, h6, h7, h8⟩ := h
  exact ⟨rfl, rfl, by omega, by omega, h7, h8, fun _ _ _ _ => rfl⟩
theorem FFr_trans {a b : Nat} {X Y Z : Mem} (h : FFr a X Y) (k : FFr b Y Z) : FFr (a + b) X Z := by
  obtain ⟨h1, h2, h3, h4, h5, h6, h7⟩ := h
  obtain ⟨k1, k2, k3, k4, k5, k6, k7⟩ := k
  exact ⟨by rw [k1, h1], by rw [k2, h2], by omega, by omega, k5, k6, fun q q1 q2 q3 => by rw [k7 q q1 q2 q3, h7 q q1 q2 q3]⟩
theorem FFr_mono {a b : Nat} {X Y : Mem} (h : FFr a X Y) (hab : a ≤ b) : FFr b X Y := by
  obtain ⟨h1, h2, h3, h4, h5, h6, h7⟩ := h
  exact ⟨h1, h2, h3, by omega, h5, h6, h7⟩
theorem FSt_of {cnt a : Nat} {X X1 : Mem} (h : FSt cnt X) (k : FFr a X X1) (hn : X 3 4 + (a : Int) ≤ 1000000) : FSt cnt X1 := by
  obtain ⟨h1, h2, h3, h4, h5, h6, h7, h8⟩ := h
  obtain ⟨k1, k2, k3, k4, k5, k6, k7⟩ := k
  exact ⟨by omega, by omega, by omega, by omega, by rw [k7 19 (by omega) (by omega) (by omega)]; exact h5, h6, k5, k6⟩
section FLT
variable {cnt : Nat} {X : Mem}
theorem f_at (h : FSt cnt X) (c : Int) : x_Reader_at c X = some false := by
  obtain ⟨h1, h2, -⟩ := h
  unfold x_Reader_at
  rw [w32_eq (x := X 3 1) (by omega) (by omega), if_pos (by omega)]
theorem f_kind (h : FSt cnt X) : ∃ v, x_Reader_kind X = some v := by
  obtain ⟨h1, h2, h3, h4, h5, h6, h7, h8⟩ := h
  unfold x_Reader_kind chk
  rw [h5, w32_eq (x := X 3 4) (by omega) (by omega), w32_eq (x := (cnt : Int)) (by omega) (by omega), if_neg (by omega)]
  by_cases e : (cnt : Int) ≤ X 3 4
  · rw [if_pos e]; exact ⟨_, rfl⟩
  · rw [if_neg e, if_pos (by omega)]; exact ⟨_, rfl⟩
theorem f_value (h : FSt cnt X) : ∃ v, x_Reader_value X = some v := by
  obtain ⟨h1, h2, h3, h4, h5, h6, h7, h8⟩ := h
  unfold x_Reader_value chk
  rw [h5, w32_eq (x := X 3 4) (by omega) (by omega), w32_eq (x := (cnt : Int)) (by omega) (by omega), if_neg (by omega)]
  by_cases e : (cnt : Int) ≤ X 3 4
  · rw [if_pos e]; exact ⟨_, rfl⟩
  · rw [if_neg e, if_pos (by omega)]; exact ⟨_, rfl⟩
theorem f_refuse (h : FSt cnt X) (w : Int) : x_Reader_refuse w X = some X := by
  obtain ⟨h1, h2, -⟩ := h
  unfold x_Reader_refuse
  rw [w32_eq (x := X 3 1) (by omega) (by omega), if_neg (by omega)]
theorem f_require (h : FSt cnt X) (w : Int) : x_Reader_require w X = some X := by
  have h' := h
  obtain ⟨h1, h2, -⟩ := h
  unfold x_Reader_require x_Reader_require_B13
  rw [f_at h', bnd_some, if_neg (by decide), f_refuse h', bnd_some, w32_eq (x := X 3 1) (by omega) (by omega), if_pos (by omega)]
theorem f_enter (h : FSt cnt X) : x_Reader_enter X = some (false, X) := by
  have h' := h
  obtain ⟨h1, h2, -⟩ := h
  unfold x_Reader_enter x_Reader_enter_B14
  have e0 : ¬ w32 (X 3 1) = 0 := by rw [w32_eq (by omega) (by omega)]; omega
  rw [f_refuse h', bnd_some, if_neg e0]
  split <;> rfl
theorem f_number (h : FSt cnt X) (a b : Int) : ∃ v, x_Reader_number a b X = some (v, X) := by
  have h' := h
  obtain ⟨v, hv⟩ := f_value h
  obtain ⟨h1, h2, -⟩ := h
  unfold x_Reader_number x_Reader_number_B14 x_Reader_number_B29 x_Reader_number_B34
  rw [f_at h', bnd_some, if_neg (by decide), f_refuse h', bnd_some, hv, bnd_some, f_refuse h', bnd_some]
  have e0 : ¬ w32 (X 3 1) = 0 := by rw [w32_eq (by omega) (by omega)]; omega
  rw [if_pos e0]
  refine ⟨v, ?_⟩
  split
  · rfl
  · split <;> rfl
theorem f_add (h : FSt cnt X) (x : Int) : ∃ X1, x_Rules_add 13 x X = some X1 ∧ FFr 0 X X1 := by
  have h' := h
  obtain ⟨h1, h2, h3, h4, h5, h6, h7, h8⟩ := h
  unfold x_Rules_add chk
  dsimp only [lt]
  rw [w32_eq (x := X 13 5) (by omega) (by omega), w32_eq (x := (1600 : Int)) (by omega) (by omega)]
  by_cases e : 1600 ≤ X 13 5
  · rw [if_pos e]; exact ⟨X, rfl, FFr_refl h'⟩
  · rw [if_neg e, if_pos (by omega)]
    refine ⟨_, rfl, ?_, ?_, ?_, ?_, ?_, ?_, fun q q1 q2 q3 => ?_⟩
    · rw [up_k (by omega), up_k (by omega)]
    · rw [up_k (by omega), up_k (by omega)]
    · rw [up_k (by omega), up_k (by omega)]; omega
    · rw [up_k (by omega), up_k (by omega)]; omega
    · rw [up_e, up_k (by omega)]; omega
    · rw [up_e, up_k (by omega)]; omega
    · rw [upM_row q2, upM_row q3]
theorem f_sign (h : FSt cnt X) (x : Int) : ∃ X1, x_Rules_addSign 13 x X = some X1 ∧ FFr 0 X X1 := by
  obtain ⟨X1, e, f⟩ := f_add h (20000 + x)
  exact ⟨X1, by unfold x_Rules_addSign; rw [e, bnd_some], f⟩
theorem f_fact (h : FSt cnt X) (x : Int) : ∃ X1, x_Rules_addFact 13 x X = some X1 ∧ FFr 0 X X1 := by
  obtain ⟨X1, e, f⟩ := f_add h (10000 + x)
  exact ⟨X1, by unfold x_Rules_addFact; rw [e, bnd_some], f⟩
theorem f_next (h : FSt cnt X) : FFr 1 X (upM X 3 4 (X 3 4 + 1)) := by
  obtain ⟨h1, h2, h3, h4, h5, h6, h7, h8⟩ := h
  refine ⟨by rw [up_i (by omega)], by rw [up_i (by omega)], by rw [up_e]; omega, by rw [up_e]; omega, by rw [up_k (by omega)]; exact h7, by rw [up_k (by omega)]; exact h8, fun q q1 q2 q3 => upM_row q1⟩
theorem f_open (h : FSt cnt X) (v : Int) : FFr 0 X (upM X 3 5 v) := by
  obtain ⟨h1, h2, h3, h4, h5, h6, h7, h8⟩ := h
  refine ⟨by rw [up_i (by omega)], by rw [up_i (by omega)], by rw [up_i (by omega)]; omega, by rw [up_i (by omega)]; omega, by rw [up_k (by omega)]; exact h7, by rw [up_k (by omega)]; exact h8, fun q q1 q2 q3 => upM_row q1⟩
theorem f_part (h : FSt cnt X) (hn : X 3 4 ≤ 999000) (rc : Nat → Mem → Option Mem) : ∃ X1, x_Reader_part rc X = some X1 ∧ FFr 1 X X1 := by
  obtain ⟨v, hv⟩ := f_kind h
  have hN := f_next h
  have h1 : FSt cnt (upM X 3 4 (X 3 4 + 1)) := FSt_of h hN (by omega)
  have hB : ∃ X1, x_Reader_part_B93 rc v X = some X1 ∧ FFr 1 X X1 := by
    unfold x_Reader_part_B93 x_Reader_part_B117
    dsimp only [lt]
    rw [f_at h1, bnd_some, if_neg (by decide), f_refuse h1, bnd_some, f_enter h1, bnd2_some, if_neg (by decide)]
    exact ⟨_, rfl, hN⟩
  have hA : ∃ r, x_Reader_isAsked v X = some r := by
    unfold x_Reader_isAsked
    repeat' split
    all_goals exact ⟨_, rfl⟩
  obtain ⟨r, hr⟩ := hA
  obtain ⟨X2, e2, g2⟩ := f_fact h1 v
  unfold x_Reader_part
  dsimp only [lt]
  rw [hv, bnd_some, f_at h, bnd_some, if_neg (by decide), f_at h, bnd_some, if_neg (by decide), hr, bnd_some, e2, bnd_some, f_refuse h, bnd_some]
  split
  · exact hB
  · split
    · exact hB
    · split
      · split
        · exact ⟨_, rfl, FFr_trans hN g2⟩
        · exact ⟨_, rfl, FFr_mono (FFr_refl h) (by omega)⟩
      · exact hB
theorem f_rec1 (h : FSt cnt X) (hn : X 3 4 ≤ 999000) {n : Nat} (hm : 1 ≤ n) : ∃ X1, x_rec n 1 X = some X1 ∧ FFr 1 X X1 := by
  obtain ⟨m, rfl⟩ : ∃ m, n = m + 1 := ⟨n - 1, by omega⟩
  exact f_part h hn (x_rec m)
theorem f_rec2 (h : FSt cnt X) (hn : X 3 4 ≤ 999000) {n : Nat} (hm : 2 ≤ n) : ∃ X1, x_rec n 2 X = some X1 ∧ FFr 1 X X1 := by
  obtain ⟨m, rfl⟩ : ∃ m, n = m + 1 := ⟨n - 1, by omega⟩
  obtain ⟨X1, e1, g1⟩ := f_rec1 h hn (n := m) (by omega)
  refine ⟨X1, ?_, g1⟩
  show x_Reader_sum (x_rec m) X = some X1
  have hz : itr3 (x_Reader_sum_L8 (x_rec m)) FUEL 0 0 X1 = some (0, 0, X1) := by
    have : FUEL = 999999 + 1 := rfl
    rw [this]
    show x_Reader_sum_L8 (x_rec m) _ 0 0 X1 = _
    have k1 := g1.1
    have := h.1
    have := h.2.1
    unfold x_Reader_sum_L8
    rw [w32_eq (x := X1 3 1) (by omega) (by omega), w32_eq (x := (1600 : Int)) (by omega) (by omega), w32_eq (x := (0 : Int)) (by omega) (by omega), if_neg (by omega), if_pos (by omega)]
  unfold x_Reader_sum
  rw [e1, bnd_some, hz, bnd_some]
  simp only
  rw [w32_0, if_pos rfl]
theorem f_rec0 (h : FSt cnt X) (hn : X 3 4 ≤ 999000) {n : Nat} (hm : 3 ≤ n) : ∃ X1, x_rec n 0 X = some X1 ∧ FFr 1 X X1 := by
  obtain ⟨m, rfl⟩ : ∃ m, n = m + 1 := ⟨n - 1, by omega⟩
  obtain ⟨X1, e1, g1⟩ := f_rec2 h hn (n := m) (by omega)
  have h1 := FSt_of h g1 (by omega)
  obtain ⟨v, hv⟩ := f_kind h1
  refine ⟨X1, ?_, g1⟩
  show x_Reader_fact (x_rec m) X = some X1
  have hB : x_Reader_fact_B151 (x_rec m) v X1 = some X1 := by
    have := h1.1
    have := h1.2.1
    unfold x_Reader_fact_B151
    rw [w32_eq (x := X1 3 1) (by omega) (by omega), if_neg (by omega)]
  unfold x_Reader_fact
  rw [f_at h, bnd_some, if_neg (by decide), f_at h, bnd_some, if_neg (by decide), f_at h, bnd_some, if_neg (by decide), e1, bnd_some, hv, bnd_some, f_refuse h1, bnd_some, hB]
  split
  · rfl
  · split
    · rfl
    · split <;> rfl
theorem f_rec3 (h : FSt cnt X) (hn : X 3 4 ≤ 999000) {n : Nat} (hm : 4 ≤ n) : ∃ X1, x_rec n 3 X = some X1 ∧ FFr 1 X X1 := by
  obtain ⟨m, rfl⟩ : ∃ m, n = m + 1 := ⟨n - 1, by omega⟩
  obtain ⟨X1, e1, g1⟩ := f_rec0 h hn (n := m) (by omega)
  have h1 := FSt_of h g1 (by omega)
  refine ⟨X1, ?_, g1⟩
  show x_Reader_test (x_rec m) X = some X1
  have hz : itr3 (x_Reader_test_L8 (x_rec m)) FUEL 0 0 X1 = some (0, 0, X1) := by
    have : FUEL = 999999 + 1 := rfl
    rw [this]
    show x_Reader_test_L8 (x_rec m) _ 0 0 X1 = _
    unfold x_Reader_test_L8
    rw [if_neg (by decide), f_at h1, bnd_some, if_neg (by decide), f_at h1, bnd_some, if_neg (by decide)]
  unfold x_Reader_test
  rw [e1, bnd_some, hz, bnd_some]
  simp only
  rw [w32_0, if_pos rfl]
end FLT
