/-! THE PURE PART: the rules' values -/
theorem xor_sign {x y : Int} (hx : -2147483648 ≤ x ∧ x < 2147483648) (hy : -2147483648 ≤ y ∧ y < 2147483648) : (0 ≤ xor32 x y) = ((x < 0) = (y < 0)) := by
  have key : ∀ v : Int32, (v.toInt < 0) = (v.toBitVec.msb = true) := fun v => by
    show (v.toBitVec.toInt < 0) = _
    rw [BitVec.toInt_neg_iff, BitVec.msb_eq_decide]
    simp
    omega
  have ex : (x < 0) = ((Int32.ofInt x).toBitVec.msb = true) := by
    rw [← key]
    rw [show (Int32.ofInt x).toInt = x from w32_eq hx.1 hx.2]
  have ey : (y < 0) = ((Int32.ofInt y).toBitVec.msb = true) := by
    rw [← key]
    rw [show (Int32.ofInt y).toInt = y from w32_eq hy.1 hy.2]
  have ez : (xor32 x y < 0) = (((Int32.ofInt x).toBitVec.msb != (Int32.ofInt y).toBitVec.msb) = true) := by
    unfold xor32
    rw [key, Int32.toBitVec_xor, BitVec.msb_xor]
  apply propext
  rw [← Int.not_lt, ez, ex, ey]
  cases (Int32.ofInt x).toBitVec.msb <;> cases (Int32.ofInt y).toBitVec.msb <;> simp
theorem tdiv_b {a b : Int} (ha : -1000000 ≤ a ∧ a ≤ 1000000) : -1000000 ≤ a.tdiv b ∧ a.tdiv b ≤ 1000000 ∧ -1000000 ≤ a.tmod b ∧ a.tmod b ≤ 1000000 := by
  have h1 : (a.tdiv b).natAbs ≤ a.natAbs := by
    rw [Int.natAbs_tdiv]
    exact Nat.div_le_self _ _
  have h2 : (a.tmod b).natAbs ≤ a.natAbs := by
    rw [Int.natAbs_tmod]
    exact Nat.mod_le _ _
  omega
/-- the quotient that both take -/
def fdq (a b : Int) : Int := if (a < 0) = (b < 0) then a.tdiv b else if a.tmod b = 0 then a.tdiv b else a.tdiv b - 1
theorem fdq_b {a b : Int} (ha : -1000000 ≤ a ∧ a ≤ 1000000) : -1000001 ≤ fdq a b ∧ fdq a b ≤ 1000000 := by
  have := tdiv_b (b := b) ha
  unfold fdq
  split
  · omega
  · split <;> omega
theorem jdiv {a b : Int} (ha : -1000000 ≤ a ∧ a ≤ 1000000) (hb : -1000000 ≤ b ∧ b ≤ 1000000) (h0 : b ≠ 0) : j_Math_floorDiv_7cf53 a b = some (fdq a b) := by
  have hd := tdiv_b (b := b) ha
  have hq := Int.mul_tdiv_add_tmod a b
  have hc : a.tdiv b * b = b * a.tdiv b := Int.mul_comm _ _
  have hx := xor_sign (x := a) (y := b) (by omega) (by omega)
  unfold j_Math_floorDiv_7cf53 chk lt fdq
  show (if _ then (if _ then _ else if _ then _ else _) else _) = _
  rw [w32_eq (x := a) (by omega) (by omega), w32_eq (x := b) (by omega) (by omega), w32_xor, w32_eq (x := a.tdiv b * b) (by omega) (by omega)]
  rw [if_pos h0]
  by_cases e : (a < 0) = (b < 0)
  · rw [if_pos (hx ▸ e), if_pos e]
  · rw [if_neg (hx ▸ e), if_neg e]
    by_cases z : a.tmod b = 0
    · rw [if_pos z, if_pos (by omega)]
    · rw [if_neg z, if_neg (by omega)]
theorem jmod {a b : Int} (ha : -1000000 ≤ a ∧ a ≤ 1000000) (hb : -1000000 ≤ b ∧ b ≤ 1000000) (h0 : b ≠ 0) : j_Math_floorMod_7cf53 a b = some (a - b * fdq a b) := by
  have hd := tdiv_b (b := b) ha
  have hq := Int.mul_tdiv_add_tmod a b
  have hx := xor_sign (x := a) (y := b) (by omega) (by omega)
  unfold j_Math_floorMod_7cf53 chk lt fdq
  show (if _ then (if _ then _ else if _ then _ else _) else _) = _
  rw [w32_eq (x := a) (by omega) (by omega), w32_eq (x := b) (by omega) (by omega), w32_xor, w32_eq (x := a.tmod b) (by omega) (by omega)]
  rw [if_pos h0]
  by_cases e : (a < 0) = (b < 0)
  · rw [if_pos (hx ▸ e), if_pos e]
    congr 1
    omega
  · rw [if_neg (hx ▸ e), if_neg e]
    by_cases z : a.tmod b = 0
    · rw [if_pos z, if_pos z]
      congr 1
      omega
    · rw [if_neg z, if_neg z, Int.mul_sub, Int.mul_one]
      congr 1
      omega
theorem mfloor {a b : Int} {M : Mem} (ha : -1000000 ≤ a ∧ a ≤ 1000000) (hb : -1000000 ≤ b ∧ b ≤ 1000000) (h0 : b ≠ 0) : m_floor a b M = some (fdq a b) := by
  have hd := tdiv_b (b := b) ha
  unfold m_floor m_floor_B32 m_floor_B43 chk lt fdq
  simp only [lc_eq, lc_ge, w64_0]
  rw [w64_eq (x := a) (by omega) (by omega), w64_eq (x := b) (by omega) (by omega), w64_eq (x := a.tmod b) (by omega) (by omega)]
  have e1 : w32 0 = 0 := w32_0
  have e2 : w32 1 = 1 := w32_eq (by omega) (by omega)
  rw [if_pos h0, if_pos h0, if_pos h0, e1, e2]
  by_cases z : a.tmod b = 0
  · rw [if_pos z]
    by_cases e : (a < 0) = (b < 0)
    · rw [if_pos e]
    · rw [if_neg e, if_pos z]
  · rw [if_neg z]
    by_cases pa : 0 ≤ a <;> by_cases pb : 0 ≤ b
    · rw [if_pos pa, if_pos pb]
      have : (a < 0) = (b < 0) := by apply propext; omega
      simp [this]
    · rw [if_pos pa, if_neg pb]
      have : ¬ ((a < 0) = (b < 0)) := by intro h; have := h ▸ (show b < 0 by omega); omega
      rw [if_neg this, if_neg z]; rfl
    · rw [if_neg pa, if_pos pb]
      have : ¬ ((a < 0) = (b < 0)) := by intro h; have := h ▸ (show a < 0 by omega); omega
      rw [if_neg this, if_neg z]; rfl
    · rw [if_neg pa, if_neg pb]
      have : (a < 0) = (b < 0) := by apply propext; omega
      simp [this]
def clp (x : Int) : Int := if 1000000 < x then 1000000 else if x < -1000000 then -1000000 else x
theorem mwithin {x : Int} (h : -9000000000000000000 ≤ x ∧ x ≤ 9000000000000000000) : m_within x = some (clp x) := by
  unfold m_within clp
  simp only [lc_le, lc_ge]
  rw [w64_eq (x := x) (by omega) (by omega), w64_eq (x := 1000000) (by omega) (by omega), w64_eq (x := -1000000) (by omega) (by omega)]
  split
  · split
    · rw [if_neg (by omega), if_neg (by omega)]
    · rw [if_neg (by omega), if_pos (by omega)]
  · rw [if_pos (by omega)]
theorem xclamp {x : Int} {M : Mem} (h : -9000000000000000000 ≤ x ∧ x ≤ 9000000000000000000) : x_Rules_combine_B341 x M = some (clp x) := by
  unfold x_Rules_combine_B341 j_Math_min_f86c9 j_Math_max_f86c9 clp bnd
  simp only [lc_gt, lc_lt]
  rw [w64_eq (x := x) (by omega) (by omega), w64_eq (x := 1000000) (by omega) (by omega), w64_eq (x := -1000000) (by omega) (by omega)]
  by_cases h1 : x < 1000000
  · rw [if_pos h1]
    simp only
    rw [w64_eq (x := x) (by omega) (by omega)]
    by_cases h2 : -1000000 < x
    · rw [if_pos h2, if_neg (by omega), if_neg (by omega)]
    · rw [if_neg h2, if_neg (by omega)]
      by_cases h3 : x = -1000000
      · rw [if_neg (by omega), h3]
      · rw [if_pos (by omega)]
  · rw [if_neg h1]
    simp only
    rw [w64_eq (x := 1000000) (by omega) (by omega), if_pos (by omega)]
    by_cases h3 : x = 1000000
    · rw [if_neg (by omega), if_neg (by omega), h3]
    · rw [if_pos (by omega)]
theorem clp_b (x : Int) : -1000000 ≤ clp x ∧ clp x ≤ 1000000 := by
  unfold clp
  split
  · omega
  · split <;> omega
theorem clp_id {x : Int} (h : -1000000 ≤ x ∧ x ≤ 1000000) : clp x = x := by
  unfold clp
  rw [if_neg (by omega), if_neg (by omega)]
theorem mul_b {a b : Int} (ha : -1000000 ≤ a ∧ a ≤ 1000000) (hb : -1000000 ≤ b ∧ b ≤ 1000000) : -1000000000000 ≤ a * b ∧ a * b ≤ 1000000000000 := by
  have h : (a * b).natAbs ≤ 1000000 * 1000000 := by
    rw [Int.natAbs_mul]
    exact Nat.mul_le_mul (by omega) (by omega)
  omega
theorem and_01 : ∀ a : Nat, a < 2 → ∀ b : Nat, b < 2 → and32 (a : Int) (b : Int) = (if a = 1 ∧ b = 1 then 1 else 0) ∧ and64 (a : Int) (b : Int) = (if a = 1 ∧ b = 1 then 1 else 0) ∧ or32 (a : Int) (b : Int) = (if a = 1 ∨ b = 1 then 1 else 0) ∧ or64 (a : Int) (b : Int) = (if a = 1 ∨ b = 1 then 1 else 0) := by decide +kernel
theorem ab_01 {a b : Int} (ha : a = 0 ∨ a = 1) (hb : b = 0 ∨ b = 1) : and32 a b = and64 a b ∧ or32 a b = or64 a b ∧ (and64 a b = 0 ∨ and64 a b = 1) ∧ (or64 a b = 0 ∨ or64 a b = 1) := by
  rcases ha with rfl | rfl <;> rcases hb with rfl | rfl <;> decide +kernel
/-- a sign of two parts: both take the same -/
theorem sim_two {x so va a b : Int} {X M : Mem} (hc : CodeEq x so va) (hso : 31 ≤ so ∧ so ≤ 42) (ha : -1000000 ≤ a ∧ a ≤ 1000000) (hb : -1000000 ≤ b ∧ b ≤ 1000000) (h01 : 41 ≤ so → (a = 0 ∨ a = 1) ∧ (b = 0 ∨ b = 1)) :
    ∃ r, x_Rules_combine (x - 20000) a b X = some r ∧ m_two so a b M = some r ∧ -1000000 ≤ r ∧ r ≤ 1000000 ∧ (38 ≤ so → r = 0 ∨ r = 1) := by
  have hm := mul_b ha hb
  have k0 : x_Rules_combine_B341 0 X = some 0 := by rw [xclamp (by omega), clp_id (by omega)]
  have k1 : x_Rules_combine_B341 1 X = some 1 := by rw [xclamp (by omega), clp_id (by omega)]
  have hfq := fdq_b (b := b) ha
  have hfd := fun h0 => jdiv ha hb h0
  have hfm := fun h0 => jmod ha hb h0
  have hff := fun h0 => mfloor (M := M) ha hb h0
  have hmb : b ≠ 0 → -1000000 ≤ a - b * fdq a b ∧ a - b * fdq a b ≤ 1000000 := fun h0 => by
    have hd := tdiv_b (b := b) ha
    have hq := Int.mul_tdiv_add_tmod a b
    have hl : (a.tmod b).natAbs < b.natAbs := by rw [Int.natAbs_tmod]; exact Nat.mod_lt _ (by omega)
    have hsg : 0 ≤ a → 0 ≤ a.tmod b := fun h => Int.tmod_nonneg _ h
    have hsg2 : a ≤ 0 → a.tmod b ≤ 0 := fun h => by
      have := Int.tmod_nonneg (a := -a) b (by omega)
      rw [Int.neg_tmod] at this
      omega
    unfold fdq
    by_cases e : (a < 0) = (b < 0)
    · rw [if_pos e]; omega
    · rw [if_neg e]
      by_cases z : a.tmod b = 0
      · rw [if_pos z]; omega
      · rw [if_neg z, Int.mul_sub, Int.mul_one]
        by_cases pa : a < 0 <;> by_cases pb : b < 0
        · exact absurd (by simp [pa, pb]) e
        · have := hsg2 (by omega); omega
        · have := hsg (by omega); omega
        · exact absurd (by simp [pa, pb]) e
  unfold x_Rules_combine m_two
  have q : ∀ z : Int, -2147483648 ≤ z → z < 2147483648 → w32 z = z := fun z h1 h2 => w32_eq h1 h2
  rcases hc with h | h | h | h | h | h | h | h | h | h | h | h | h | h | h | h | h | h | h | h | h | h | h | h <;> obtain ⟨rfl, h⟩ := h <;> first | (exfalso; omega) | skip
  all_goals subst h
  all_goals simp (disch := omega) only [w32_eq, lc_eq, lc_le, lc_ge, w64_eq, lt, Int.reduceSub, Int.reduceEq, if_true, if_false, ↓reduceIte, reduceCtorEq, not_false_eq_true, not_true_eq_false]
  · exact ⟨_, by rw [xclamp (by omega)], by rw [mwithin (by omega)]; rfl, (clp_b _).1, (clp_b _).2, by omega⟩
  · exact ⟨_, by rw [xclamp (by omega)], by rw [mwithin (by omega)]; rfl, (clp_b _).1, (clp_b _).2, by omega⟩
  · exact ⟨_, by rw [xclamp (by omega)], by rw [mwithin (by omega)]; rfl, (clp_b _).1, (clp_b _).2, by omega⟩
  · by_cases z : b = 0
    · subst z
      rw [if_neg (by omega)]
      have hz : m_floor a 0 M = some 0 := by
        unfold m_floor
        simp only [lc_eq, not_true_eq_false, ↓reduceIte]
      unfold x_Rules_combine_B241
      rw [k0, hz, bnd_some, mwithin (by omega), clp_id (by omega)]
      exact ⟨0, rfl, rfl, by omega, by omega, by omega⟩
    · rw [if_pos z, hfd z, hff z]
      unfold x_Rules_combine_B241
      simp only [bnd_some]
      rw [w32_eq (by omega) (by omega), xclamp (by omega), mwithin (by omega)]
      exact ⟨_, rfl, rfl, (clp_b _).1, (clp_b _).2, by omega⟩
  · by_cases z : b = 0
    · subst z
      rw [if_neg (by omega), if_neg (by omega)]
      unfold x_Rules_combine_B259
      rw [k0]
      exact ⟨0, rfl, rfl, by omega, by omega, by omega⟩
    · rw [if_pos z, if_pos z, hfm z, hff z]
      have h1 := hmb z
      unfold x_Rules_combine_B259
      simp only [bnd_some]
      rw [w32_eq (by omega) (by omega), xclamp (by omega), mwithin (by omega)]
      exact ⟨_, rfl, rfl, (clp_b _).1, (clp_b _).2, by omega⟩
  · unfold j_Math_min_7cf53
    rw [q a (by omega) (by omega), q b (by omega) (by omega)]
    by_cases z : b ≤ a
    · rw [if_pos z]
      by_cases y : b < a
      · rw [if_pos y]
        exact ⟨b, by show x_Rules_combine_B341 (w32 b) X = _; rw [q b (by omega) (by omega), xclamp (by omega), clp_id hb], rfl, hb.1, hb.2, by omega⟩
      · rw [if_neg y]
        have : a = b := by omega
        subst this
        exact ⟨a, by show x_Rules_combine_B341 (w32 a) X = _; rw [q a (by omega) (by omega), xclamp (by omega), clp_id ha], rfl, hb.1, hb.2, by omega⟩
    · rw [if_neg z, if_neg (by omega)]
      exact ⟨a, by show x_Rules_combine_B341 (w32 a) X = _; rw [q a (by omega) (by omega), xclamp (by omega), clp_id ha], rfl, ha.1, ha.2, by omega⟩
  · unfold j_Math_max_7cf53
    rw [q a (by omega) (by omega), q b (by omega) (by omega)]
    by_cases z : a ≤ b
    · rw [if_pos z]
      by_cases y : a < b
      · rw [if_pos y]
        exact ⟨b, by show x_Rules_combine_B341 (w32 b) X = _; rw [q b (by omega) (by omega), xclamp (by omega), clp_id hb], rfl, hb.1, hb.2, by omega⟩
      · rw [if_neg y]
        have : a = b := by omega
        subst this
        exact ⟨a, by show x_Rules_combine_B341 (w32 a) X = _; rw [q a (by omega) (by omega), xclamp (by omega), clp_id ha], rfl, hb.1, hb.2, by omega⟩
    · rw [if_neg z, if_neg (by omega)]
      exact ⟨a, by show x_Rules_combine_B341 (w32 a) X = _; rw [q a (by omega) (by omega), xclamp (by omega), clp_id ha], rfl, ha.1, ha.2, by omega⟩
  · unfold x_Rules_combine_B273
    rw [k0, k1]
    split
    · exact ⟨0, rfl, rfl, by omega, by omega, by omega⟩
    · exact ⟨1, rfl, rfl, by omega, by omega, by omega⟩
  · unfold x_Rules_combine_B287
    rw [k0, k1]
    split
    · exact ⟨0, rfl, rfl, by omega, by omega, by omega⟩
    · exact ⟨1, rfl, rfl, by omega, by omega, by omega⟩
  · unfold x_Rules_combine_B301
    rw [k0, k1]
    split
    · exact ⟨0, rfl, rfl, by omega, by omega, by omega⟩
    · exact ⟨1, rfl, rfl, by omega, by omega, by omega⟩
  · obtain ⟨u1, u2⟩ := h01 (by omega)
    obtain ⟨e1, e2, e3, e4⟩ := ab_01 u1 u2
    rw [e1, w32_eq (by omega) (by omega), xclamp (by omega), clp_id (by omega)]
    exact ⟨_, rfl, rfl, by omega, by omega, fun _ => e3⟩
  · obtain ⟨u1, u2⟩ := h01 (by omega)
    obtain ⟨e1, e2, e3, e4⟩ := ab_01 u1 u2
    rw [e2, w32_eq (by omega) (by omega), xclamp (by omega), clp_id (by omega)]
    exact ⟨_, rfl, rfl, by omega, by omega, fun _ => e4⟩
/-- the two stacks, as high as the types tell -/
def StkOK (X M : Mem) : List Bool → Prop
  | [] => True
  | b :: r => X 37 r.length = M 37 r.length ∧ -1000000 ≤ M 37 r.length ∧ M 37 r.length ≤ 1000000 ∧ (b = true → M 37 r.length = 0 ∨ M 37 r.length = 1) ∧ StkOK X M r
theorem StkOK_up {X M : Mem} {st : List Bool} {j : Nat} {u v : Int} (h : StkOK X M st) (hj : st.length ≤ j) : StkOK (upM X 37 j u) (upM M 37 j v) st := by
  induction st with
  | nil => trivial
  | cons b r ih =>
    obtain ⟨h1, h2, h3, h4, h5⟩ := h
    have hl : r.length < j := by have := hj; simp only [List.length_cons] at this; omega
    unfold StkOK
    rw [up_i (by omega), up_i (by omega)]
    exact ⟨h1, h2, h3, h4, ih h5 (by omega)⟩
theorem StkOK_push {X M : Mem} {st : List Bool} {u : Int} {b : Bool} (h : StkOK X M st) (hu : -1000000 ≤ u ∧ u ≤ 1000000) (hb : b = true → u = 0 ∨ u = 1) : StkOK (upM X 37 st.length u) (upM M 37 st.length u) (b :: st) := by
  refine ⟨?_, ?_, ?_, ?_, StkOK_up h (by omega)⟩
  · rw [up_e, up_e]
  · rw [up_e]; exact hu.1
  · rw [up_e]; exact hu.2
  · rw [up_e]; exact hb
/-- what a fact is worth, in both -/
def FactEq (w : Nat) (X M : Mem) : Prop := ∀ so x : Int, asks w so = true → CodeEq x so 0 → X 33 (x - 10000).toNat = M 38 so.toNat ∧ -1000000 ≤ M 38 so.toNat ∧ M 38 so.toNat ≤ 1000000
/-- only the scratch has changed -/
def FXs (X X1 : Mem) : Prop := ∀ a, a ≠ 33 → a ≠ 37 → X1 a = X a
def FMs (M M1 : Mem) : Prop := ∀ a, a ≠ 37 → a ≠ 38 → M1 a = M a
theorem FXs_refl (X : Mem) : FXs X X := fun _ _ _ => rfl
theorem FMs_refl (X : Mem) : FMs X X := fun _ _ _ => rfl
theorem FXs_trans {X Y Z : Mem} (h : FXs X Y) (k : FXs Y Z) : FXs X Z := fun a h1 h2 => (k a h1 h2).trans (h a h1 h2)
theorem FMs_trans {X Y Z : Mem} (h : FMs X Y) (k : FMs Y Z) : FMs X Z := fun a h1 h2 => (k a h1 h2).trans (h a h1 h2)
theorem FXs_up {X : Mem} {k i : Nat} {v : Int} (h : k = 33 ∨ k = 37) : FXs X (upM X k i v) := fun a h1 h2 => upM_row (by omega)
theorem FMs_up {X : Mem} {k i : Nat} {v : Int} (h : k = 37 ∨ k = 38) : FMs X (upM X k i v) := fun a h1 h2 => upM_row (by omega)
