/-! THE PURE PART: the relation that the law's calls keep -/
theorem RS_g {nv ns th v : Nat} {X M X1 M1 : Mem} (h : RS nv ns th v X M) (hnv : nv ≤ 7) (hns : ns ≤ 12) (hk : X th 12 ≤ 12) (e : ∀ a, th ≤ a → a ≤ th + 12 → X1 a = X a) (hm : ∀ a i, 25 ≤ a → a ≤ 36 → lay a i = v → M1 a i = M a i) : RS nv ns th v X1 M1 := by
  have hS := h
  obtain ⟨rp, rs, rb, rw, rd, rt, rv, rl, rx, rk, rm, rk1, rk2, rk3, rz1, rz2⟩ := hS
  refine ⟨?_, ?_, ?_, ?_, ?_, ?_, ?_, ?_, ?_, ?_, ?_, ?_, ?_, ?_, ?_, ?_⟩
  · intro k hk; rw [e (th + 1) (by omega) (by omega), hm 26 _ (by omega) (by omega) (lay7 (by omega)).1]; exact rp k hk
  · intro k hk; rw [e (th + 2) (by omega) (by omega), hm 28 v (by omega) (by omega) (lay1 (by omega))]; exact rs k hk
  · intro k hk; rw [e (th + 3) (by omega) (by omega), hm 27 _ (by omega) (by omega) (lay7 (by omega)).2]; exact rb k hk
  · intro k hk; rw [e (th + 4) (by omega) (by omega), hm 29 _ (by omega) (by omega) (lay12 (by omega) (by omega))]; exact rw k hk
  · intro k hk; rw [e (th + 5) (by omega) (by omega), hm 30 _ (by omega) (by omega) (lay12 (by omega) (by omega))]; exact rd k hk
  · intro k hk; rw [e (th + 6) (by omega) (by omega), hm 31 _ (by omega) (by omega) (lay12 (by omega) (by omega))]; exact rt k hk
  · intro k hk; rw [e (th + 7) (by omega) (by omega), hm 32 _ (by omega) (by omega) (lay12 (by omega) (by omega))]; exact rv k hk
  · intro k hk; rw [e (th + 8) (by omega) (by omega), hm 33 _ (by omega) (by omega) (lay12 (by omega) (by omega))]; exact rl k hk
  · intro k hk; rw [e (th + 9) (by omega) (by omega), hm 34 v (by omega) (by omega) (lay1 (by omega))]; exact rx k hk
  · rw [e th (by omega) (by omega), hm 35 v (by omega) (by omega) (lay1 (by omega))]; exact rk
  · rw [e th (by omega) (by omega), hm 25 v (by omega) (by omega) (lay1 (by omega))]; exact rm
  · intro k; rw [e th (by omega) (by omega), e (th + 10) (by omega) (by omega)]; intro hk; rw [hm 36 _ (by omega) (by omega) (lay120 (by omega))]; exact rk1 k hk
  · intro k; rw [e th (by omega) (by omega), e (th + 11) (by omega) (by omega)]; intro hk; rw [hm 36 _ (by omega) (by omega) (by rw [show 120 * v + 3 * k + 1 = 120 * v + (3 * k + 1) by omega]; exact lay120 (by omega))]; exact rk2 k hk
  · intro k; rw [e th (by omega) (by omega), e (th + 12) (by omega) (by omega)]; intro hk; rw [hm 36 _ (by omega) (by omega) (by rw [show 120 * v + 3 * k + 2 = 120 * v + (3 * k + 2) by omega]; exact lay120 (by omega))]; exact rk3 k hk
  · rw [hm 28 v (by omega) (by omega) (lay1 (by omega))]; exact rz1
  · rw [hm 34 v (by omega) (by omega) (lay1 (by omega))]; exact rz2
/-- where the i-th oldest state ahead of an act lies, in the class and in the reference -/
def pX (p u i : Nat) : Nat := 66 + 13 * ((p + 20 - u + i) % 20)
def pM (q i : Nat) : Nat := 2 + (q + i) % 20
def RPast (nv ns : Nat) (X M : Mem) : Prop := ∃ u p q : Nat, X 64 0 = (u : Int) ∧ M 0 57 = (u : Int) ∧ u ≤ 20 ∧ X 64 2 = (p : Int) ∧ p < 20 ∧ M 0 56 = (q : Int) ∧ q < 20 ∧ ∀ i, i < u → RS nv ns (pX p u i) (pM q i) X M ∧ SI nv ns (pX p u i) X
def RTape (X M : Mem) : Prop := X 1 1 = M 0 1 ∧ 0 ≤ X 1 1 ∧ X 1 1 ≤ 1600 ∧ ∀ j, j < 1600 → X 2 j = M 1 j ∧ 0 ≤ X 2 j ∧ X 2 j ≤ 255
def RFault (X M : Mem) : Prop := X 3 1 = M 0 10 ∧ X 3 2 = M 0 11 ∧ 0 ≤ X 3 1 ∧ X 3 1 ≤ 6 ∧ -1 ≤ X 3 2 ∧ X 3 2 ≤ 1600
def RRef (k : Nat) (X M : Mem) : Prop := ∀ j, j < 6 → X 372 j = M 24 j ∧ 0 ≤ X 372 j ∧ X 372 j ≤ (k : Int)
def RSeed (X M : Mem) : Prop := X 0 10 = M 0 58 ∧ 0 ≤ X 0 10 ∧ X 0 10 < 2147483648
def RHeard (nv ns : Nat) (X M : Mem) : Prop := X 354 0 = M 0 63 ∧ 0 ≤ X 354 0 ∧ X 354 0 ≤ 16 ∧ ∀ i : Nat, (i : Int) < X 354 0 → X 355 i = M 41 i ∧ 0 ≤ X 355 i ∧ X 355 i ≤ 30 ∧ X 356 i = M 42 i ∧ 0 ≤ X 356 i ∧ X 356 i < (ns : Int) ∧ ((X 357 i = 7 ∧ M 43 i = -1) ∨ (X 357 i = M 43 i ∧ 0 ≤ M 43 i ∧ M 43 i < (nv : Int)))
def RPic (X M : Mem) : Prop := X 370 1 = M 0 69 ∧ 0 ≤ X 370 1 ∧ X 370 1 ≤ 108 ∧ ∀ j : Nat, (j : Int) < X 370 1 → X 371 j = M 45 j ∧ 0 ≤ X 371 j ∧ X 371 j ≤ 255
def RAll (nv np ns bk k : Nat) (X M : Mem) : Prop := RT nv np ns bk X M ∧ RS nv ns 38 0 X M ∧ SI nv ns 38 X ∧ RPast nv ns X M ∧ RTape X M ∧ RFault X M ∧ RRef k X M ∧ RSeed X M ∧ RHeard nv ns X M ∧ RPic X M
def RR (k : Nat) (X M : Mem) : Prop := ∃ nv np ns bk, RAll nv np ns bk k X M
theorem RRef_up {k : Nat} {X M : Mem} (h : RRef k X M) : RRef (k + 1) X M := fun j hj => by
  obtain ⟨h1, h2, h3⟩ := h j hj
  exact ⟨h1, h2, by omega⟩
theorem RAll_up {nv np ns bk k : Nat} {X M : Mem} (h : RAll nv np ns bk k X M) : RAll nv np ns bk (k + 1) X M := by
  obtain ⟨h1, h2, h3, h4, h5, h6, h7, h8⟩ := h
  exact ⟨h1, h2, h3, h4, h5, h6, RRef_up h7, h8⟩
theorem RR_up {k : Nat} {X M : Mem} (h : RR k X M) : RR (k + 1) X M := by
  obtain ⟨nv, np, ns, bk, h⟩ := h
  exact ⟨nv, np, ns, bk, RAll_up h⟩
/-- what a question may change -/
def QX (X X1 : Mem) : Prop := ∀ a, a ≠ 33 → a ≠ 37 → (a < 51 ∨ 63 < a) → (a < 327 ∨ 353 < a) → (a < 358 ∨ 369 < a) → X1 a = X a
def QM (M M1 : Mem) : Prop := ∀ a i, (a ≤ 24 ∨ (41 ≤ a ∧ a ≤ 43) ∨ 45 ≤ a ∨ (25 ≤ a ∧ a ≤ 36 ∧ lay a i ≠ 1)) → M1 a i = M a i
theorem QX_refl (X : Mem) : QX X X := fun _ _ _ _ _ _ => rfl
theorem QM_refl (M : Mem) : QM M M := fun _ _ _ => rfl
theorem QX_trans {X Y Z : Mem} (h : QX X Y) (k : QX Y Z) : QX X Z := fun a h1 h2 h3 h4 h5 => (k a h1 h2 h3 h4 h5).trans (h a h1 h2 h3 h4 h5)
theorem QM_trans {X Y Z : Mem} (h : QM X Y) (k : QM Y Z) : QM X Z := fun a i h1 => (k a i h1).trans (h a i h1)
theorem QX_t {X Y : Mem} (h : FXt 51 X Y) : QX X Y := fun a h1 h2 h3 _ _ => h a h1 h2 (by omega)
theorem QM_t {X Y : Mem} (h : FMt 1 X Y) : QM X Y := fun a i h1 => h a i (by omega)
theorem QX_s {X Y : Mem} (h : FXs X Y) : QX X Y := fun a h1 h2 _ _ _ => h a h1 h2
theorem QM_s {X Y : Mem} (h : FMs X Y) : QM X Y := fun a i h1 => by rw [h a (by omega) (by omega)]
theorem QX_c {X Y : Mem} (h : ∀ a, (a < 51 ∨ 51 + 12 < a) → Y a = X a) : QX X Y := fun a _ _ h3 _ _ => h a (by omega)
theorem RAll_q {nv np ns bk k : Nat} {X M X1 M1 : Mem} (h : RAll nv np ns bk k X M) (hx : QX X X1) (hm : QM M M1) : RAll nv np ns bk k X1 M1 := by
  obtain ⟨h1, h2, h3, ⟨u, p, q, p1, p2, p3, p4, p5, p6, p7, p8⟩, h5, h6, h7, h8, h9, h10⟩ := h
  have hns := h1.1.2.2.2.2
  have hnv := h1.1.2.2.1
  have m0 : M1 0 = M 0 := by funext i; exact hm 0 i (by omega)
  refine ⟨?_, ?_, ?_, ?_, ?_, ?_, ?_, ?_, ?_, ?_⟩
  · exact RT_of h1 (fun a g1 g2 g3 => hx a g3 (by omega) (by omega) (by omega) (by omega)) (by rw [m0]) (fun a g1 g2 => by funext i; exact hm a i (by omega))
  · exact RS_g h2 hnv hns (SI_kept2 h3 hns).2 (fun a g1 g2 => hx a (by omega) (by omega) (by omega) (by omega) (by omega)) (fun a i g1 g2 g3 => hm a i (by omega))
  · exact SI_of h3 (fun a g1 g2 => hx a (by omega) (by omega) (by omega) (by omega) (by omega))
  · refine ⟨u, p, q, by rw [hx 64 (by omega) (by omega) (by omega) (by omega) (by omega)]; exact p1, by rw [m0]; exact p2, p3, by rw [hx 64 (by omega) (by omega) (by omega) (by omega) (by omega)]; exact p4, p5, by rw [m0]; exact p6, p7, fun i hi => ?_⟩
    obtain ⟨g1, g2⟩ := p8 i hi
    have e : ∀ a, pX p u i ≤ a → a ≤ pX p u i + 12 → X1 a = X a := fun a q1 q2 => by unfold pX at q1 q2; exact hx a (by omega) (by omega) (by omega) (by omega) (by omega)
    exact ⟨RS_g g1 hnv hns (SI_kept2 g2 hns).2 e (fun a i1 q1 q2 q3 => hm a i1 (by unfold pM at q3; omega)), SI_of g2 e⟩
  · unfold RTape at h5 ⊢
    rw [m0, hx 1 (by omega) (by omega) (by omega) (by omega) (by omega), hx 2 (by omega) (by omega) (by omega) (by omega) (by omega)]
    exact ⟨h5.1, h5.2.1, h5.2.2.1, fun j hj => by rw [hm 1 j (by omega)]; exact h5.2.2.2 j hj⟩
  · unfold RFault at h6 ⊢
    rw [m0, hx 3 (by omega) (by omega) (by omega) (by omega) (by omega)]
    exact h6
  · intro j hj
    rw [hx 372 (by omega) (by omega) (by omega) (by omega) (by omega), hm 24 j (by omega)]
    exact h7 j hj
  · unfold RSeed at h8 ⊢
    rw [m0, hx 0 (by omega) (by omega) (by omega) (by omega) (by omega)]
    exact h8
  · unfold RHeard at h9 ⊢
    rw [m0, hx 354 (by omega) (by omega) (by omega) (by omega) (by omega), hx 355 (by omega) (by omega) (by omega) (by omega) (by omega), hx 356 (by omega) (by omega) (by omega) (by omega) (by omega), hx 357 (by omega) (by omega) (by omega) (by omega) (by omega)]
    exact ⟨h9.1, h9.2.1, h9.2.2.1, fun i hi => by rw [hm 41 i (by omega), hm 42 i (by omega), hm 43 i (by omega)]; exact h9.2.2.2 i hi⟩
  · unfold RPic at h10 ⊢
    rw [m0, hx 370 (by omega) (by omega) (by omega) (by omega) (by omega), hx 371 (by omega) (by omega) (by omega) (by omega) (by omega)]
    exact ⟨h10.1, h10.2.1, h10.2.2.1, fun i hi => by rw [hm 45 i (by omega)]; exact h10.2.2.2 i hi⟩
theorem xm_isVoice {nv np ns bk : Nat} {X M : Mem} {a : Int} (hT : RT nv np ns bk X M) (ha : -2147483648 ≤ a ∧ a < 2147483648) : x_X_isVoice a X = some (decide (0 ≤ a ∧ a < (nv : Int))) ∧ m_isVoice a M = some (decide (0 ≤ a ∧ a < (nv : Int))) := by
  obtain ⟨⟨tb, tb2, tnv, tnp, tns⟩, ⟨x0, x1, x2⟩, ⟨m0, m1, m2⟩, ⟨t3, t3a, t3b⟩, tpit, tper, tsay, trul⟩ := hT
  unfold x_X_isVoice m_isVoice chk
  simp (disch := omega) only [tb, x0, m0, w32_eq, Int.toNat_natCast, if_pos]
  by_cases h1 : a < 0
  · rw [if_pos h1, decide_eq_false (by omega)]; exact ⟨rfl, rfl⟩
  · rw [if_neg h1]
    by_cases h2 : (nv : Int) ≤ a
    · rw [if_pos h2, decide_eq_false (by omega)]; exact ⟨rfl, rfl⟩
    · rw [if_neg h2, decide_eq_true (by omega)]; exact ⟨rfl, rfl⟩
theorem xm_isPerson {nv np ns bk : Nat} {X M : Mem} {a : Int} (hT : RT nv np ns bk X M) (ha : -2147483648 ≤ a ∧ a < 2147483648) : x_X_isPerson a X = some (decide (0 ≤ a ∧ a < (np : Int))) ∧ m_isPerson a M = some (decide (0 ≤ a ∧ a < (np : Int))) := by
  obtain ⟨⟨tb, tb2, tnv, tnp, tns⟩, ⟨x0, x1, x2⟩, ⟨m0, m1, m2⟩, ⟨t3, t3a, t3b⟩, tpit, tper, tsay, trul⟩ := hT
  unfold x_X_isPerson m_isPerson chk
  simp (disch := omega) only [tb, x1, m1, w32_eq, Int.toNat_natCast, if_pos]
  by_cases h1 : a < 0
  · rw [if_pos h1, decide_eq_false (by omega)]; exact ⟨rfl, rfl⟩
  · rw [if_neg h1]
    by_cases h2 : (np : Int) ≤ a
    · rw [if_pos h2, decide_eq_false (by omega)]; exact ⟨rfl, rfl⟩
    · rw [if_neg h2, decide_eq_true (by omega)]; exact ⟨rfl, rfl⟩
theorem xm_isSaying {nv np ns bk : Nat} {X M : Mem} {a : Int} (hT : RT nv np ns bk X M) (ha : -2147483648 ≤ a ∧ a < 2147483648) : x_X_isSaying a X = some (decide (0 ≤ a ∧ a < (ns : Int))) ∧ m_isSaying a M = some (decide (0 ≤ a ∧ a < (ns : Int))) := by
  obtain ⟨⟨tb, tb2, tnv, tnp, tns⟩, ⟨x0, x1, x2⟩, ⟨m0, m1, m2⟩, ⟨t3, t3a, t3b⟩, tpit, tper, tsay, trul⟩ := hT
  unfold x_X_isSaying m_isSaying chk
  simp (disch := omega) only [tb, x2, m2, w32_eq, Int.toNat_natCast, if_pos]
  by_cases h1 : a < 0
  · rw [if_pos h1, decide_eq_false (by omega)]; exact ⟨rfl, rfl⟩
  · rw [if_neg h1]
    by_cases h2 : (ns : Int) ≤ a
    · rw [if_pos h2, decide_eq_false (by omega)]; exact ⟨rfl, rfl⟩
    · rw [if_neg h2, decide_eq_true (by omega)]; exact ⟨rfl, rfl⟩
theorem m_is_eq {a b c : Int} (ha : -2147483648 ≤ a ∧ a < 2147483648) (hb : -2147483648 ≤ b ∧ b < 2147483648) (hc : -2147483648 ≤ c ∧ c < 2147483648) : m_is a b c = some (decide (b ≤ a ∧ a ≤ c)) := by
  unfold m_is
  rw [w32_eq ha.1 ha.2, w32_eq hb.1 hb.2, w32_eq hc.1 hc.2]
  by_cases h1 : a < b
  · rw [if_pos h1, decide_eq_false (by omega)]
  · rw [if_neg h1]
    by_cases h2 : c < a
    · rw [if_pos h2, decide_eq_false (by omega)]
    · rw [if_neg h2, decide_eq_true (by omega)]
theorem xm_comes {nv np ns bk k : Nat} {X M : Mem} {a b c : Int} (h : RAll nv np ns bk k X M) (ha : -2147483648 ≤ a ∧ a < 2147483648) (hb : 0 ≤ b ∧ b ≤ 60) (hc : 0 ≤ c ∧ c ≤ 60) : x_X_comes a b c X = some (decide (b ≤ a ∧ a ≤ c ∧ X 38 13 + a ≤ 999)) ∧ m_isAhead a b c M = some (decide (b ≤ a ∧ a ≤ c ∧ X 38 13 + a ≤ 999)) := by
  have hm : M 25 0 = X 38 13 := h.2.1.2.2.2.2.2.2.2.2.2.2.1
  have hr : 0 ≤ X 38 13 ∧ X 38 13 ≤ 999 := h.2.2.1.2.2.2.2.2.2.2.2.2.2.2.2.1
  unfold x_X_comes m_isAhead
  rw [m_is_eq ha (by omega) (by omega), bnd_some, hm]
  rw [w32_eq ha.1 ha.2, w32_eq (x := b) (by omega) (by omega), w32_eq (x := c) (by omega) (by omega), w32_eq (x := X 38 13) (by omega) (by omega), w32_eq (x := 999) (by omega) (by omega)]
  by_cases h1 : a < b
  · rw [if_pos h1, decide_eq_false (by omega), decide_eq_false (by omega)]; exact ⟨rfl, rfl⟩
  · rw [if_neg h1]
    by_cases h2 : c < a
    · rw [if_pos h2, decide_eq_false (by omega), decide_eq_false (by omega)]; exact ⟨rfl, rfl⟩
    · rw [if_neg h2, decide_eq_true (p := b ≤ a ∧ a ≤ c) (by omega), if_pos rfl, w32_eq (x := X 38 13 + a) (by omega) (by omega), w32_eq (x := 999 - a) (by omega) (by omega)]
      by_cases h3 : 999 < X 38 13 + a
      · rw [if_pos h3, if_pos (by omega), decide_eq_false (by omega)]; exact ⟨rfl, rfl⟩
      · rw [if_neg h3, if_neg (by omega), decide_eq_true (by omega)]; exact ⟨rfl, rfl⟩
