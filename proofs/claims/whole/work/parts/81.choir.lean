/-! THE PURE PART: choir, the search -/
/-- whether a set is enough, as the class answers it -/
def enb (X : Mem) (n z : Nat) : Bool := match x_X_isEnough (z : Int) (n : Int) X with
  | some p => p.1
  | none => false
theorem enough_any {nv np ns bk k n z : Nat} {X M X1 M1 : Mem} (hR : RAll nv np ns bk k X M) (hx : QX X X1) (hm : QM M M1) (hz : z < 128) (hn : n ≤ 30) (h13 : X 38 13 + n ≤ 999) :
    (∃ X2, x_X_isEnough (z : Int) (n : Int) X1 = some (enb X n z, X2) ∧ QX X1 X2) ∧ (enb X n z = true → Clear nv X z) ∧ (Clear nv X z → ∃ M2 M3 w, m_copies 1 0 M1 = some M2 ∧ m_goesOn_ (n : Int) (z : Int) M2 = some M3 ∧ QM M1 M3 ∧ m_manyOf 1 4 4 M3 = some w ∧ 0 ≤ w ∧ w ≤ 12 ∧ (enb X n z = true ↔ w = (cw ns 38 X 4 : Int))) := by
  have r : ∀ q, 38 ≤ q → q ≤ 50 → X1 q = X q := fun q h1 h2 => hx q (by omega) (by omega) (by omega) (by omega) (by omega)
  have hcw : cw ns 38 X1 4 = cw ns 38 X 4 := by unfold cw; rw [r (38 + 4) (by omega) (by omega)]
  have hcl : Clear nv X1 z ↔ Clear nv X z := by unfold Clear; rw [r 40 (by omega) (by omega)]
  obtain ⟨b, X2, a1, a2, a3, a4⟩ := sim_enough (z := z) (n := n) (RAll_q hR (QX_refl X) hm) hz hn h13
  obtain ⟨b', X3, c1, c2, c3, c4⟩ := sim_enough (z := z) (n := n) (RAll_q hR hx hm) hz hn (by rw [r 38 (by omega) (by omega)]; exact h13)
  have hb : enb X n z = b := by
    unfold enb
    rw [a1]
  have hbb : b' = b := by
    by_cases hc : Clear nv X z
    · obtain ⟨M2, M3, w, d1, d2, d3, d4, d5, d6, d7⟩ := a4 hc
      obtain ⟨M2', M3', w', e1, e2, e3, e4, e5, e6, e7⟩ := c4 (hcl.mpr hc)
      rw [d1] at e1
      cases e1
      rw [d2] at e2
      cases e2
      rw [d4] at e4
      cases e4
      rw [hcw] at e7
      cases b <;> cases b'
      · rfl
      · have := d7.mpr (e7.mp rfl); cases this
      · have := e7.mpr (d7.mp rfl); cases this
      · rfl
    · cases b
      · cases b'
        · rfl
        · exact absurd (hcl.mp (c3 rfl)) hc
      · exact absurd (a3 rfl) hc
  rw [hb]
  subst hbb
  exact ⟨⟨X3, c1, c2⟩, a3, a4⟩
/-- how many are in a set -/
def pc (z : Nat) : Nat := cnt (fun k => z.testBit k) 7
theorem pc_le {nv z : Nat} (hnv : nv ≤ 7) (hz : z < 2 ^ nv) : pc z ≤ nv := by
  unfold pc
  rw [cnt_more hnv (fun j h1 h2 => Nat.testBit_lt_two_pow (Nat.lt_of_lt_of_le hz (Nat.pow_le_pow_right (by omega) h1)))]
  exact cnt_le _ _
def ChoirIs (nv n : Nat) (X : Mem) (r : Int) : Prop := (r = -1 ∧ ∀ t, t < 2 ^ nv → enb X n t = false) ∨ (∃ s : Nat, s < 2 ^ nv ∧ r = (s : Int) ∧ enb X n s = true ∧ ∀ t, t < 2 ^ nv → enb X n t = true → pc s < pc t ∨ (pc s = pc t ∧ s ≤ t))
theorem ChoirIs_uniq {nv n : Nat} {X : Mem} {r q : Int} (h : ChoirIs nv n X r) (g : ChoirIs nv n X q) : r = q := by
  rcases h with ⟨rfl, h⟩ | ⟨s, h1, rfl, h3, h4⟩ <;> rcases g with ⟨rfl, g⟩ | ⟨t, g1, rfl, g3, g4⟩
  · rfl
  · rw [h t g1] at g3; cases g3
  · rw [g s h1] at h3; cases h3
  · have a := h4 t g1 g3
    have b := g4 s h1 h3
    omega
theorem x_choir_is {nv np ns bk k n : Nat} {X M : Mem} (hR : RAll nv np ns bk k X M) (hn : n ≤ 30) (h13 : X 38 13 + n ≤ 999) :
    post (itr2 (x_X_choir_L15 (n : Int)) FUEL 0 X) (fun p => ∃ r X1, ChoirIs nv n X r ∧ QX X X1 ∧ ((r ≠ -1 ∧ p = .inl (r, X1)) ∨ (r = -1 ∧ ∃ u, p = .inr (u, X1)))) := by
  have hnv := hR.1.1.2.2.1
  have hp7 := Nat.pow_le_pow_right (n := 2) (by omega) hnv
  refine post_itr2 (fun m (i : Int) X1 => ∃ c : Nat, i = (c : Int) ∧ c ≤ nv + 1 ∧ m = nv + 1 - c ∧ QX X X1 ∧ ∀ t, t < 2 ^ nv → enb X n t = true → c ≤ pc t) _ ?_ FUEL (nv + 1) 0 X (fuel_lt (by omega)) ⟨0, rfl, by omega, rfl, QX_refl X, fun t ht he => by omega⟩
  rintro m i X1 ⟨size, rfl, hsz, rfl, hx, hge⟩ F ih
  have x01 : X1 23 0 = (nv : Int) := by rw [hx 23 (by omega) (by omega) (by omega) (by omega) (by omega)]; exact hR.1.2.1.1
  unfold x_X_choir_L15
  by_cases h : size ≤ nv
  · repeat' (first | with_reducible refine post_lt ?_ | (with_reducible refine post_chk ?_ ?_; focus ((try simp (disch := omega) only [Bool.false_eq_true, not_true_eq_false, not_false_eq_true, Nat.reduceAdd, Nat.reduceMul, w32_eq, w64_eq, lc_eq, lc_lt, lc_le, lc_gt, lc_ge, up_k, up_i, up_e, Int.toNat_natCast, tn7, tn8, tn12, tn3, tn120, tn1600, w32_and, w32_or, w32_xor, w32_shl, w32_shr, has2_eq, x01]) <;> omega)) | (with_reducible refine post_ite (fun hcp => ?_) (fun hcp => ?_) <;> (try simp (disch := omega) only [Bool.false_eq_true, not_true_eq_false, not_false_eq_true, Nat.reduceAdd, Nat.reduceMul, w32_eq, w64_eq, lc_eq, lc_lt, lc_le, lc_gt, lc_ge, up_k, up_i, up_e, Int.toNat_natCast, tn7, tn8, tn12, tn3, tn120, tn1600, w32_and, w32_or, w32_xor, w32_shl, w32_shr, has2_eq, x01] at hcp) <;> (try (exfalso; first | omega | exact hcp rfl | exact hcp trivial | contradiction))))
    refine post_bnd (post_itr2 (fun m (i : Int) X2 => ∃ c : Nat, i = (c : Int) ∧ c ≤ 2 ^ nv ∧ m = 2 ^ nv - c ∧ QX X X2 ∧ ∀ t, t < c → enb X n t = true → pc t ≠ size) (fun p => (∃ r X2, ChoirIs nv n X r ∧ r ≠ -1 ∧ QX X X2 ∧ p = .inl (r, X2)) ∨ (∃ u X2, QX X X2 ∧ p = .inr (u, X2) ∧ ∀ t, t < 2 ^ nv → enb X n t = true → size + 1 ≤ pc t)) ?_ FUEL (2 ^ nv) 0 X1 (fuel_lt (by omega)) ⟨0, rfl, Nat.zero_le _, rfl, hx, fun t ht => by omega⟩) ?_
    · rintro m i X2 ⟨z, rfl, hz, rfl, hx2, hne⟩ G ih2
      have x02 : X2 23 0 = (nv : Int) := by rw [hx2 23 (by omega) (by omega) (by omega) (by omega) (by omega)]; exact hR.1.2.1.1
      have hsh := shl1 nv (by omega)
      unfold x_X_choir_L28
      by_cases h2 : z < 2 ^ nv
      · obtain ⟨⟨X3, e1, e2⟩, -, -⟩ := enough_any (z := z) (n := n) hR hx2 (QM_refl M) (by omega) hn h13
        have hbc := x_bits_small z (by omega)
        have hpc : cnt (fun k => z.testBit k) 7 = pc z := rfl
        have hpl := pc_le hnv h2
        rw [x02, hsh]
        repeat' (first | with_reducible refine post_lt ?_ | (with_reducible refine post_chk ?_ ?_; focus ((try simp (disch := omega) only [Bool.false_eq_true, not_true_eq_false, not_false_eq_true, Nat.reduceAdd, Nat.reduceMul, w32_eq, w64_eq, lc_eq, lc_lt, lc_le, lc_gt, lc_ge, up_k, up_i, up_e, Int.toNat_natCast, tn7, tn8, tn12, tn3, tn120, tn1600, w32_and, w32_or, w32_xor, w32_shl, w32_shr, has2_eq]) <;> omega)) | (with_reducible refine post_ite (fun hcp => ?_) (fun hcp => ?_) <;> (try simp (disch := omega) only [Bool.false_eq_true, not_true_eq_false, not_false_eq_true, Nat.reduceAdd, Nat.reduceMul, w32_eq, w64_eq, lc_eq, lc_lt, lc_le, lc_gt, lc_ge, up_k, up_i, up_e, Int.toNat_natCast, tn7, tn8, tn12, tn3, tn120, tn1600, w32_and, w32_or, w32_xor, w32_shl, w32_shr, has2_eq] at hcp) <;> (try (exfalso; first | omega | exact hcp rfl | exact hcp trivial | contradiction))))
        refine post_bnde hbc ?_
        rw [hpc]
        repeat' (first | with_reducible refine post_lt ?_ | (with_reducible refine post_chk ?_ ?_; focus ((try simp (disch := omega) only [Bool.false_eq_true, not_true_eq_false, not_false_eq_true, Nat.reduceAdd, Nat.reduceMul, w32_eq, w64_eq, lc_eq, lc_lt, lc_le, lc_gt, lc_ge, up_k, up_i, up_e, Int.toNat_natCast, tn7, tn8, tn12, tn3, tn120, tn1600, w32_and, w32_or, w32_xor, w32_shl, w32_shr, has2_eq]) <;> omega)) | (with_reducible refine post_ite (fun hcp => ?_) (fun hcp => ?_) <;> (try simp (disch := omega) only [Bool.false_eq_true, not_true_eq_false, not_false_eq_true, Nat.reduceAdd, Nat.reduceMul, w32_eq, w64_eq, lc_eq, lc_lt, lc_le, lc_gt, lc_ge, up_k, up_i, up_e, Int.toNat_natCast, tn7, tn8, tn12, tn3, tn120, tn1600, w32_and, w32_or, w32_xor, w32_shl, w32_shr, has2_eq] at hcp) <;> (try (exfalso; first | omega | exact hcp rfl | exact hcp trivial | contradiction))))
        · refine ih2 (2 ^ nv - (z + 1)) _ _ (by omega) ⟨z + 1, rfl, by omega, rfl, hx2, fun t ht he => ?_⟩
          by_cases e : t = z
          · subst e; omega
          · exact hne t (by omega) he
        · refine post_bnd2e e1 ?_
          cases heb : enb X n z
          · simp only [Bool.false_eq_true, ↓reduceIte]
            repeat' (first | with_reducible refine post_lt ?_ | (with_reducible refine post_chk ?_ ?_; focus ((try simp (disch := omega) only [Bool.false_eq_true, not_true_eq_false, not_false_eq_true, Nat.reduceAdd, Nat.reduceMul, w32_eq, w64_eq, lc_eq, lc_lt, lc_le, lc_gt, lc_ge, up_k, up_i, up_e, Int.toNat_natCast, tn7, tn8, tn12, tn3, tn120, tn1600, w32_and, w32_or, w32_xor, w32_shl, w32_shr, has2_eq]) <;> omega)) | (with_reducible refine post_ite (fun hcp => ?_) (fun hcp => ?_) <;> (try simp (disch := omega) only [Bool.false_eq_true, not_true_eq_false, not_false_eq_true, Nat.reduceAdd, Nat.reduceMul, w32_eq, w64_eq, lc_eq, lc_lt, lc_le, lc_gt, lc_ge, up_k, up_i, up_e, Int.toNat_natCast, tn7, tn8, tn12, tn3, tn120, tn1600, w32_and, w32_or, w32_xor, w32_shl, w32_shr, has2_eq] at hcp) <;> (try (exfalso; first | omega | exact hcp rfl | exact hcp trivial | contradiction))))
            refine ih2 (2 ^ nv - (z + 1)) _ _ (by omega) ⟨z + 1, rfl, by omega, rfl, QX_trans hx2 e2, fun t ht he => ?_⟩
            by_cases e : t = z
            · subst e; rw [heb] at he; cases he
            · exact hne t (by omega) he
          · simp only [↓reduceIte]
            refine post_some (Or.inl ⟨(z : Int), X3, Or.inr ⟨z, h2, rfl, heb, fun t ht he => ?_⟩, by omega, QX_trans hx2 e2, rfl⟩)
            have a := hge t ht he
            by_cases e : pc t = size
            · refine Or.inr ⟨by omega, ?_⟩
              apply Classical.byContradiction
              intro q
              exact hne t (by omega) he e
            · exact Or.inl (by omega)
      · rw [x02, hsh]
        repeat' (first | with_reducible refine post_lt ?_ | (with_reducible refine post_chk ?_ ?_; focus ((try simp (disch := omega) only [Bool.false_eq_true, not_true_eq_false, not_false_eq_true, Nat.reduceAdd, Nat.reduceMul, w32_eq, w64_eq, lc_eq, lc_lt, lc_le, lc_gt, lc_ge, up_k, up_i, up_e, Int.toNat_natCast, tn7, tn8, tn12, tn3, tn120, tn1600, w32_and, w32_or, w32_xor, w32_shl, w32_shr, has2_eq]) <;> omega)) | (with_reducible refine post_ite (fun hcp => ?_) (fun hcp => ?_) <;> (try simp (disch := omega) only [Bool.false_eq_true, not_true_eq_false, not_false_eq_true, Nat.reduceAdd, Nat.reduceMul, w32_eq, w64_eq, lc_eq, lc_lt, lc_le, lc_gt, lc_ge, up_k, up_i, up_e, Int.toNat_natCast, tn7, tn8, tn12, tn3, tn120, tn1600, w32_and, w32_or, w32_xor, w32_shl, w32_shr, has2_eq] at hcp) <;> (try (exfalso; first | omega | exact hcp rfl | exact hcp trivial | contradiction))))
        refine post_some (Or.inr ⟨_, X2, hx2, rfl, fun t ht he => ?_⟩)
        have a := hge t ht he
        have b := hne t (by omega) he
        omega
    · rintro p (⟨r, X2, y1, y2, y3, rfl⟩ | ⟨u, X2, y1, rfl, y3⟩)
      · exact post_some ⟨r, X2, y1, y3, Or.inl ⟨y2, rfl⟩⟩
      · simp only
        repeat' (first | with_reducible refine post_lt ?_ | (with_reducible refine post_chk ?_ ?_; focus ((try simp (disch := omega) only [Bool.false_eq_true, not_true_eq_false, not_false_eq_true, Nat.reduceAdd, Nat.reduceMul, w32_eq, w64_eq, lc_eq, lc_lt, lc_le, lc_gt, lc_ge, up_k, up_i, up_e, Int.toNat_natCast, tn7, tn8, tn12, tn3, tn120, tn1600, w32_and, w32_or, w32_xor, w32_shl, w32_shr, has2_eq]) <;> omega)) | (with_reducible refine post_ite (fun hcp => ?_) (fun hcp => ?_) <;> (try simp (disch := omega) only [Bool.false_eq_true, not_true_eq_false, not_false_eq_true, Nat.reduceAdd, Nat.reduceMul, w32_eq, w64_eq, lc_eq, lc_lt, lc_le, lc_gt, lc_ge, up_k, up_i, up_e, Int.toNat_natCast, tn7, tn8, tn12, tn3, tn120, tn1600, w32_and, w32_or, w32_xor, w32_shl, w32_shr, has2_eq] at hcp) <;> (try (exfalso; first | omega | exact hcp rfl | exact hcp trivial | contradiction))))
        exact ih (nv + 1 - (size + 1)) _ _ (by omega) ⟨size + 1, rfl, by omega, rfl, y1, y3⟩
  · repeat' (first | with_reducible refine post_lt ?_ | (with_reducible refine post_chk ?_ ?_; focus ((try simp (disch := omega) only [Bool.false_eq_true, not_true_eq_false, not_false_eq_true, Nat.reduceAdd, Nat.reduceMul, w32_eq, w64_eq, lc_eq, lc_lt, lc_le, lc_gt, lc_ge, up_k, up_i, up_e, Int.toNat_natCast, tn7, tn8, tn12, tn3, tn120, tn1600, w32_and, w32_or, w32_xor, w32_shl, w32_shr, has2_eq, x01]) <;> omega)) | (with_reducible refine post_ite (fun hcp => ?_) (fun hcp => ?_) <;> (try simp (disch := omega) only [Bool.false_eq_true, not_true_eq_false, not_false_eq_true, Nat.reduceAdd, Nat.reduceMul, w32_eq, w64_eq, lc_eq, lc_lt, lc_le, lc_gt, lc_ge, up_k, up_i, up_e, Int.toNat_natCast, tn7, tn8, tn12, tn3, tn120, tn1600, w32_and, w32_or, w32_xor, w32_shl, w32_shr, has2_eq, x01] at hcp) <;> (try (exfalso; first | omega | exact hcp rfl | exact hcp trivial | contradiction))))
    refine post_some ⟨-1, X1, Or.inl ⟨rfl, fun t ht => ?_⟩, hx, Or.inr ⟨rfl, _, rfl⟩⟩
    cases he : enb X n t
    · rfl
    · have := hge t ht he
      have := pc_le hnv ht
      omega
theorem clear_and {nv np ns bk k z : Nat} {X M : Mem} (hR : RAll nv np ns bk k X M) (hz : z < 128) : (and32 (z : Int) (M 28 0) = 0) ↔ Clear nv X z := by
  have hnv := hR.1.1.2.2.1
  have hp7 := Nat.pow_le_pow_right (n := 2) (by omega) hnv
  obtain ⟨r0, r1⟩ := hR.2.1.2.2.2.2.2.2.2.2.2.2.2.2.2.2.1
  obtain ⟨m, hm⟩ := Int.eq_ofNat_of_zero_le r0
  have hmn : m < 2 ^ nv := by omega
  have hb : ∀ v, v < nv → (X 40 v = 0 ↔ m.testBit v = false) := fun v hv => by
    have e := hR.2.1.2.1 v hv
    rw [hm, bit_of (by omega) (by omega)] at e
    have e' : (if m.testBit v = true then (1 : Int) else 0) = X 40 v := e
    cases h : m.testBit v
    · have e2 : X 40 v = 0 := by rw [h] at e'; simpa using e'.symm
      exact ⟨fun _ => rfl, fun _ => e2⟩
    · have e2 : X 40 v = 1 := by rw [h] at e'; simpa using e'.symm
      exact ⟨fun q => (by omega), fun q => (by cases q)⟩
  rw [hm, and32_nat (by omega)]
  unfold Clear
  constructor
  · intro h v hv hbz
    have h0 : z &&& m = 0 := by omega
    have e := congrArg (fun q => Nat.testBit q v) h0
    simp only [Nat.testBit_and, Nat.zero_testBit] at e
    rw [bit_of (by omega) (by omega)] at hbz
    rw [hb v hv]
    cases h1 : z.testBit v
    · rw [h1] at hbz; simp at hbz
    · rw [h1] at e; simpa using e
  · intro h
    have h0 : z &&& m = 0 := by
      apply Nat.eq_of_testBit_eq
      intro v
      rw [Nat.testBit_and, Nat.zero_testBit]
      by_cases hv : v < nv
      · cases h1 : z.testBit v
        · rfl
        · have := (hb v hv).mp (h v hv (by rw [bit_of (by omega) (by omega), h1]; rfl))
          rw [this]; rfl
      · rw [Nat.testBit_lt_two_pow (Nat.lt_of_lt_of_le hmn (Nat.pow_le_pow_right (by omega) (by omega)) : m < 2 ^ v), Bool.and_false]
    rw [h0]; rfl
theorem m_bits_pc {z : Nat} {M : Mem} (hz : z < 128) : m_bits (z : Int) M = some ((pc z : Nat) : Int) := by
  rw [m_bits_any, m_bits_small z hz]
  rfl
theorem m_choir_is {nv np ns bk k n : Nat} {X M : Mem} (hR : RAll nv np ns bk k X M) (hn : n ≤ 30) (h13 : X 38 13 + n ≤ 999) :
    post (itr3 (m_choir_L26 (n : Int) (cw ns 38 X 4 : Int)) FUEL (-1) 0 M) (fun p => ChoirIs nv n X p.1 ∧ QM M p.2.2) := by
  have hnv := hR.1.1.2.2.1
  have hns := hR.1.1.2.2.2.2
  have hp7 := Nat.pow_le_pow_right (n := 2) (by omega) hnv
  have hcw := cw_le ns 38 X 4
  have hp1 := Nat.one_le_two_pow (n := nv)
  refine post_itr3 (fun m (a i : Int) M1 => ∃ c : Nat, i = (c : Int) ∧ c ≤ 2 ^ nv ∧ m = 2 ^ nv - c ∧ QM M M1 ∧ ((a = -1 ∧ ∀ t, t < c → enb X n t = false) ∨ (∃ s : Nat, s < c ∧ a = (s : Int) ∧ enb X n s = true ∧ ∀ t, t < c → enb X n t = true → pc s < pc t ∨ (pc s = pc t ∧ s ≤ t)))) _ ?_ FUEL (2 ^ nv) (-1) 0 M (fuel_lt (by omega)) ⟨0, rfl, by omega, rfl, QM_refl M, Or.inl ⟨rfl, fun t ht => by omega⟩⟩
  rintro m a i M1 ⟨z, rfl, hz, rfl, hm, hb⟩ F ih
  have hR1 := RAll_q hR (QX_refl X) hm
  unfold m_choir_L26 m_choir_L26_B67
  rw [m_all_eq hR1.1]
  simp only [bnd_some]
  by_cases h : z < 2 ^ nv
  · obtain ⟨-, h2, h3⟩ := enough_any (z := z) (n := n) hR (QX_refl X) hm (by omega) hn h13
    have hcl := clear_and hR1 (show z < 128 by omega)
    rw [if_neg (by rw [w32_eq (by omega) (by omega), w32_eq (by omega) (by omega)]; omega), w32_and]
    -- a set that is not taken
    have skip : ∀ M2, QM M M2 → (enb X n z = true → ∃ s : Nat, s < z ∧ a = (s : Int) ∧ enb X n s = true ∧ pc s ≤ pc z) → post (F a ((z : Int) + 1) M2) (fun p => ChoirIs nv n X p.1 ∧ QM M p.2.2) := fun M2 hm2 hs => by
      refine ih (2 ^ nv - (z + 1)) _ _ _ (by omega) ⟨z + 1, rfl, by omega, rfl, hm2, ?_⟩
      rcases hb with ⟨rfl, b2⟩ | ⟨s, b1, rfl, b3, b4⟩
      · refine Or.inl ⟨rfl, fun t ht => ?_⟩
        by_cases e : t = z
        · subst e
          cases he : enb X n t
          · rfl
          · obtain ⟨s, s1, s2, -⟩ := hs he; omega
        · exact b2 t (by omega)
      · refine Or.inr ⟨s, by omega, rfl, b3, fun t ht he => ?_⟩
        by_cases e : t = z
        · subst e
          obtain ⟨s', s1, s2, s3, s4⟩ := hs he
          have : s' = s := by omega
          subst this
          by_cases q : pc s' < pc t
          · exact Or.inl q
          · exact Or.inr ⟨by omega, by omega⟩
        · exact b4 t (by omega) he
    by_cases hc : Clear nv X z
    · rw [if_neg (fun q => q (hcl.mpr hc))]
      obtain ⟨M2, M3, w, g1, g2, g3, g4, g5, g6, g7⟩ := h3 hc
      have run : (∀ s : Nat, a = (s : Int) → pc z < pc s) → post (bnd (m_copies 1 0 M1) (fun M4 => bnd (m_goesOn_ (n : Int) (z : Int) M4) (fun M5 => bnd (m_manyOf 1 4 4 M5) (fun r6 => (if ¬ w32 r6 = w32 (cw ns 38 X 4 : Int) then lt ((z : Int) + 1) (fun v4_94 => F a v4_94 M5) else lt ((z : Int) + 1) (fun v4_94 => F (z : Int) v4_94 M5)))))) (fun p => ChoirIs nv n X p.1 ∧ QM M p.2.2) := fun hlt => by
        rw [g1]; simp only [bnd_some]
        rw [g2]; simp only [bnd_some]
        rw [g4]; simp only [bnd_some]
        rw [w32_eq (by omega) (by omega), w32_eq (by omega) (by omega)]
        by_cases he : enb X n z = true
        · rw [if_neg (fun q => q (g7.mp he))]
          refine ih (2 ^ nv - (z + 1)) _ _ _ (by omega) ⟨z + 1, rfl, by omega, rfl, QM_trans hm g3, Or.inr ⟨z, by omega, rfl, he, fun t ht het => ?_⟩⟩
          by_cases e : t = z
          · subst e; exact Or.inr ⟨rfl, Nat.le_refl _⟩
          · rcases hb with ⟨b1, b2⟩ | ⟨s, b1, b2, b3, b4⟩
            · rw [b2 t (by omega)] at het; cases het
            · have := hlt s b2
              have := b4 t (by omega) het
              exact Or.inl (by omega)
        · rw [if_pos (fun q => he (g7.mpr q))]
          exact skip M3 (QM_trans hm g3) (fun q => absurd q he)
      rcases hb with ⟨rfl, b2⟩ | ⟨s, b1, rfl, b3, b4⟩
      · rw [if_pos rfl]
        exact run (fun s hs => by omega)
      · rw [if_neg (by rw [w32_eq (by omega) (by omega), w32_eq (by omega) (by omega)]; omega)]
        rw [m_bits_pc (show z < 128 by omega)]
        simp only [bnd_some]
        rw [m_bits_pc (show s < 128 by omega)]
        simp only [bnd_some]
        have p1 := pc_le hnv h
        have p2 := pc_le hnv (show s < 2 ^ nv by omega)
        rw [w32_eq (by omega) (by omega), w32_eq (by omega) (by omega)]
        by_cases hlt : pc z < pc s
        · rw [if_pos (by omega)]
          exact run (fun s' hs' => by have : s' = s := by omega
                                      subst this; exact hlt)
        · rw [if_neg (by omega)]
          exact skip M1 hm (fun q => ⟨s, b1, rfl, b3, by omega⟩)
    · rw [if_pos (fun q => hc (hcl.mp q))]
      exact skip M1 hm (fun q => absurd (h2 q) hc)
  · rw [if_pos (by rw [w32_eq (by omega) (by omega), w32_eq (by omega) (by omega)]; omega)]
    have hze : z = 2 ^ nv := by omega
    refine post_some ⟨?_, hm⟩
    rcases hb with ⟨rfl, b2⟩ | ⟨s, b1, rfl, b3, b4⟩
    · exact Or.inl ⟨rfl, fun t ht => b2 t (by omega)⟩
    · exact Or.inr ⟨s, by omega, rfl, b3, fun t ht => b4 t (by omega)⟩
theorem ls_choir : LS_choir RR := by
  rintro k X M a1 hk h1 ⟨nv, np, ns, bk, hR⟩
  apply ls_of
  unfold i32 at h1
  obtain ⟨e2, f2⟩ := xm_comes (b := 1) (c := 30) hR h1 (by omega) (by omega)
  unfold x_X_choir m_choir
  refine two_bnd_l e2 ?_
  refine two_bnd_r f2 ?_
  by_cases c2 : 1 ≤ a1 ∧ a1 ≤ 30 ∧ X 38 13 + a1 ≤ 999
  · simp only [decide_eq_true c2, ↓reduceIte]
    obtain ⟨n, rfl⟩ := Int.eq_ofNat_of_zero_le (show 0 ≤ a1 by omega)
    obtain ⟨p, p1, r, X1, p2, p3, p4⟩ := x_choir_is hR (n := n) (by omega) (by omega)
    obtain ⟨⟨q, qi, M1⟩, q1, q2, q3⟩ := m_choir_is hR (n := n) (by omega) (by omega)
    simp only at q2 q3
    have hrq := ChoirIs_uniq p2 q2
    subst hrq
    have hmany := m_many (v := 0) (k := 4) (q := 4) hR.1 hR.2.1 hR.2.2.1 (by omega) (by omega) (by omega)
    have hc4 : cnt (fun s => decide (X (38 + 4) s = 4 ∨ X (38 + 4) s = 4)) ns = cw ns 38 X 4 := cnt_ext (fun j hj => by simp)
    rw [hc4] at hmany
    refine two_bnd_l p1 ?_
    refine two_bnd_r hmany ?_
    refine two_bnd_r q1 ?_
    rcases p4 with ⟨y1, rfl⟩ | ⟨y1, u, rfl⟩
    · exact two_some ⟨rfl, nv, np, ns, bk, RAll_up (RAll_q hR p3 q3)⟩
    · exact two_some ⟨by rw [y1], nv, np, ns, bk, RAll_up (RAll_q hR p3 q3)⟩
  · simp only [decide_eq_false c2, Bool.false_eq_true, ↓reduceIte]
    exact two_some ⟨rfl, nv, np, ns, bk, RAll_up hR⟩
