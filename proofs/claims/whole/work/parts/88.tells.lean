/-! THE PURE PART: tells: the most alike of a set of pitches -/
def inz (z p : Nat) : Bool := decide (and32 (shr32 (z : Int) (p : Int)) 1 = 1)
/-- how many of the set below c tell w -/
def lk (z : Nat) (g : Nat → Int) (w : Int) (c : Nat) : Nat := cnt (fun p => decide (inz z p = true ∧ g p = w)) c
theorem lk_next {z c : Nat} {g : Nat → Int} {w : Int} : lk z g w (c + 1) = lk z g w c + (if inz z c = true ∧ g c = w then 1 else 0) := by
  show cnt _ c + (if decide _ = true then 1 else 0) = _
  simp only [decide_eq_true_eq]
  rfl
theorem lk_le {z c : Nat} {g : Nat → Int} {w : Int} : lk z g w c ≤ c := cnt_le _ _
theorem lk_pos {z : Nat} {g : Nat → Int} {w : Int} : ∀ {c : Nat}, 0 < lk z g w c → ∃ a, a < c ∧ inz z a = true ∧ g a = w := by
  intro c
  induction c with
  | zero => intro h; exact absurd h (Nat.lt_irrefl 0)
  | succ c ih =>
    intro h
    rw [lk_next] at h
    by_cases q : inz z c = true ∧ g c = w
    · exact ⟨c, by omega, q.1, q.2⟩
    · rw [if_neg q] at h
      obtain ⟨a, h1, h2, h3⟩ := ih (by omega)
      exact ⟨a, by omega, h2, h3⟩
theorem xmax {a b : Int} (ha : -2147483648 ≤ a ∧ a < 2147483648) (hb : -2147483648 ≤ b ∧ b < 2147483648) : j_Math_max_7cf53 a b = some (if a < b then b else a) := by
  unfold j_Math_max_7cf53
  rw [w32_eq ha.1 ha.2, w32_eq hb.1 hb.2]
  split <;> rfl
theorem x_most {z j : Nat} {X : Mem} (hz : z < 1024) (hj : j < 372) (hg : ∀ p, p < 10 → 0 ≤ X (359 + p) j ∧ X (359 + p) j ≤ 7) :
    post (x_Heard_mostAlike (z : Int) (j : Int) X) (fun r => (∀ a, a ≠ 369 → r.2 a = X a) ∧ ∃ B : Nat, r.1 = (B : Int) ∧ B ≤ 10 ∧ (∀ w : Nat, w < 8 → lk z (fun p => X (359 + p) j) (w : Int) 10 ≤ B) ∧ (B = 0 ∨ ∃ w : Nat, w < 8 ∧ lk z (fun p => X (359 + p) j) (w : Int) 10 = B)) := by
  unfold x_Heard_mostAlike
  refine post_bnd (x_fill0 (show 8 ≤ 2000 by omega)) ?_
  rintro X1 ⟨f1, f2, f3⟩
  refine post_bnd (post_itr3 (fun n (b i : Int) X2 => ∃ c B : Nat, i = (c : Int) ∧ c ≤ 10 ∧ n = 10 - c ∧ b = (B : Int) ∧ B ≤ c ∧ (∀ a, a ≠ 369 → X2 a = X a) ∧ (∀ w : Nat, w < 8 → X2 369 w = ((lk z (fun p => X (359 + p) j) (w : Int) c : Nat) : Int) ∧ lk z (fun p => X (359 + p) j) (w : Int) c ≤ B) ∧ (B = 0 ∨ ∃ w : Nat, w < 8 ∧ lk z (fun p => X (359 + p) j) (w : Int) c = B))
    (fun r => (∀ a, a ≠ 369 → r.2.2 a = X a) ∧ ∃ B : Nat, r.1 = (B : Int) ∧ B ≤ 10 ∧ (∀ w : Nat, w < 8 → lk z (fun p => X (359 + p) j) (w : Int) 10 ≤ B) ∧ (B = 0 ∨ ∃ w : Nat, w < 8 ∧ lk z (fun p => X (359 + p) j) (w : Int) 10 = B)) ?_ FUEL 10 0 0 X1 (fuel_lt (by omega)) ⟨0, 0, rfl, by omega, rfl, rfl, by omega, f1, fun w hw => ⟨by rw [f2 w hw]; rfl, Nat.le_refl 0⟩, Or.inl rfl⟩) ?_
  · rintro n b i X2 ⟨c, B, rfl, hc, rfl, rfl, hB, g1, g2, g3⟩ F ih
    unfold x_Heard_mostAlike_L13
    by_cases h : c < 10
    · have hgc := hg c h
      obtain ⟨u, hu⟩ := Int.eq_ofNat_of_zero_le hgc.1
      have hu2 : X2 (359 + c) j = (u : Int) := by rw [g1 _ (by omega)]; exact hu
      have hu8 : u < 8 := by omega
      have hb := bit_01 (n := z) (k := c) (by omega) (by omega)
      have l1 := g2 u hu8
      have l2 := lk_le (z := z) (c := c) (g := fun p => X (359 + p) j) (w := (u : Int))
      repeat' (first | with_reducible refine post_lt ?_ | (with_reducible refine post_chk ?_ ?_; focus ((try simp (disch := omega) only [Bool.false_eq_true, not_true_eq_false, not_false_eq_true, Nat.reduceAdd, Nat.reduceMul, w32_eq, w64_eq, lc_eq, lc_lt, lc_le, lc_gt, lc_ge, up_k, up_i, up_e, Int.toNat_natCast, tn7, tn8, tn12, tn3, tn120, tn1600, w32_and, w32_or, w32_xor, w32_shl, w32_shr, has2_eq, hu2]) <;> omega)) | (with_reducible refine post_ite (fun hcp => ?_) (fun hcp => ?_) <;> (try simp (disch := omega) only [Bool.false_eq_true, not_true_eq_false, not_false_eq_true, Nat.reduceAdd, Nat.reduceMul, w32_eq, w64_eq, lc_eq, lc_lt, lc_le, lc_gt, lc_ge, up_k, up_i, up_e, Int.toNat_natCast, tn7, tn8, tn12, tn3, tn120, tn1600, w32_and, w32_or, w32_xor, w32_shl, w32_shr, has2_eq, hu2] at hcp) <;> (try (exfalso; first | omega | exact hcp rfl | exact hcp trivial | contradiction))))
      · refine ih (10 - (c + 1)) _ _ _ (by omega) ⟨c + 1, B, rfl, by omega, rfl, rfl, by omega, g1, fun w hw => ?_, ?_⟩
        · rw [lk_next, if_neg (by unfold inz; rw [decide_eq_true_eq]; omega)]
          exact g2 w hw
        · rcases g3 with g3 | ⟨w, hw, g3⟩
          · exact Or.inl g3
          · refine Or.inr ⟨w, hw, ?_⟩
            rw [lk_next, if_neg (by unfold inz; rw [decide_eq_true_eq]; omega)]
            exact g3
      · simp (disch := omega) only [hu2, Int.toNat_natCast, up_e]
        have hin : inz z c = true := by unfold inz; rw [decide_eq_true_eq]; omega
        have nxt : ∀ w : Nat, lk z (fun p => X (359 + p) j) (w : Int) (c + 1) = lk z (fun p => X (359 + p) j) (w : Int) c + (if w = u then 1 else 0) := fun w => by
          rw [lk_next]
          have hiff : (inz z c = true ∧ X (359 + c) j = (w : Int)) ↔ w = u := ⟨fun q => by omega, fun q => ⟨hin, by omega⟩⟩
          by_cases e : w = u
          · rw [if_pos e, if_pos (hiff.mpr e)]
          · rw [if_neg e, if_neg (fun q => e (hiff.mp q))]
        rw [l1.1, xmax (by omega) (by omega)]
        simp only [bnd_some, lt_eq]
        have cells : ∀ (B' : Nat), lk z (fun p => X (359 + p) j) (u : Int) c + 1 ≤ B' → B ≤ B' → ∀ w : Nat, w < 8 → (upM X2 369 u ((lk z (fun p => X (359 + p) j) (u : Int) c : Nat) + 1)) 369 w = ((lk z (fun p => X (359 + p) j) (w : Int) (c + 1) : Nat) : Int) ∧ lk z (fun p => X (359 + p) j) (w : Int) (c + 1) ≤ B' := fun B' q1 q2 w hw => by
          rw [nxt w]
          by_cases e : w = u
          · subst e
            rw [if_pos rfl, up_e]
            exact ⟨by omega, q1⟩
          · rw [if_neg e, up_i e]
            have := g2 w hw
            exact ⟨by omega, by omega⟩
        by_cases hlt : B < lk z (fun p => X (359 + p) j) (u : Int) c + 1
        · rw [if_pos (by omega)]
          refine ih (10 - (c + 1)) _ _ _ (by omega) ⟨c + 1, lk z (fun p => X (359 + p) j) (u : Int) c + 1, rfl, by omega, rfl, by omega, by omega, fun a ha => by rw [upM_row ha]; exact g1 a ha, cells _ (Nat.le_refl _) (by omega), Or.inr ⟨u, hu8, by rw [nxt u, if_pos rfl]⟩⟩
        · rw [if_neg (by omega)]
          refine ih (10 - (c + 1)) _ _ _ (by omega) ⟨c + 1, B, rfl, by omega, rfl, rfl, by omega, fun a ha => by rw [upM_row ha]; exact g1 a ha, cells _ (by omega) (Nat.le_refl _), ?_⟩
          rcases g3 with g3 | ⟨w, hw, g3⟩
          · omega
          · refine Or.inr ⟨w, hw, ?_⟩
            have := nxt w
            have := (cells B (by omega) (Nat.le_refl _) w hw).2
            omega
    · have e : c = 10 := by omega
      subst e
      repeat' (first | with_reducible refine post_lt ?_ | (with_reducible refine post_chk ?_ ?_; focus ((try simp (disch := omega) only [Bool.false_eq_true, not_true_eq_false, not_false_eq_true, Nat.reduceAdd, Nat.reduceMul, w32_eq, w64_eq, lc_eq, lc_lt, lc_le, lc_gt, lc_ge, up_k, up_i, up_e, Int.toNat_natCast, tn7, tn8, tn12, tn3, tn120, tn1600, w32_and, w32_or, w32_xor, w32_shl, w32_shr, has2_eq]) <;> omega)) | (with_reducible refine post_ite (fun hcp => ?_) (fun hcp => ?_) <;> (try simp (disch := omega) only [Bool.false_eq_true, not_true_eq_false, not_false_eq_true, Nat.reduceAdd, Nat.reduceMul, w32_eq, w64_eq, lc_eq, lc_lt, lc_le, lc_gt, lc_ge, up_k, up_i, up_e, Int.toNat_natCast, tn7, tn8, tn12, tn3, tn120, tn1600, w32_and, w32_or, w32_xor, w32_shl, w32_shr, has2_eq] at hcp) <;> (try (exfalso; first | omega | exact hcp rfl | exact hcp trivial | contradiction))))
      exact post_some ⟨g1, B, rfl, hB, fun w hw => (g2 w hw).2, g3⟩
  · rintro ⟨b, i, X2⟩ h
    exact post_some h
theorem m_most {z m s : Nat} {M : Mem} (hz : z < 1024) (hm : m < 31) (hs : s < 12) (hg : ∀ p, p < 10 → -1 ≤ M 44 (12 * (31 * p + m) + s) ∧ M 44 (12 * (31 * p + m) + s) ≤ 7) :
    post (m_mostBy (z : Int) (m : Int) (s : Int) M) (fun r => ∃ A : Nat, r = (A : Int) ∧ A ≤ 10 ∧ (∀ a : Nat, a < 10 → inz z a = true → lk z (fun p => M 44 (12 * (31 * p + m) + s)) (M 44 (12 * (31 * a + m) + s)) 10 ≤ A) ∧ (A = 0 ∨ ∃ a : Nat, a < 10 ∧ inz z a = true ∧ lk z (fun p => M 44 (12 * (31 * p + m) + s)) (M 44 (12 * (31 * a + m) + s)) 10 = A)) := by
  have inner : ∀ (v4 : Int) (a : Nat), a < 10 → post (itr2 (m_mostBy_L19 (z : Int) (m : Int) (s : Int) v4 (a : Int) M) FUEL 0 0) (fun r => r.1 = ((if inz z a = true then lk z (fun p => M 44 (12 * (31 * p + m) + s)) (M 44 (12 * (31 * a + m) + s)) 10 else 0 : Nat) : Int)) := fun v4 a ha => by
    refine post_itr2 (fun n (v i : Int) => ∃ c : Nat, i = (c : Int) ∧ c ≤ 10 ∧ n = 10 - c ∧ v = ((if inz z a = true then lk z (fun p => M 44 (12 * (31 * p + m) + s)) (M 44 (12 * (31 * a + m) + s)) c else 0 : Nat) : Int)) _ ?_ FUEL 10 0 0 (fuel_lt (by omega)) ⟨0, rfl, by omega, rfl, by split <;> rfl⟩
    rintro n v i ⟨c, rfl, hc, rfl, rfl⟩ F ih
    unfold m_mostBy_L19
    by_cases h : c < 10
    · have ta : (12 * (31 * (a : Int) + (m : Int)) + (s : Int)).toNat = 12 * (31 * a + m) + s := by omega
      have tc : (12 * (31 * (c : Int) + (m : Int)) + (s : Int)).toNat = 12 * (31 * c + m) + s := by omega
      have ga := hg a ha
      have gc := hg c h
      have e1 : m_has2 (z : Int) (a : Int) = some (inz z a) := has2_eq
      have e2 : m_has2 (z : Int) (c : Int) = some (inz z c) := has2_eq
      have hl := lk_le (z := z) (c := c) (g := fun p => M 44 (12 * (31 * p + m) + s)) (w := M 44 (12 * (31 * a + m) + s))
      rw [e1, e2]
      simp only [bnd_some]
      have nx := lk_next (z := z) (c := c) (g := fun p => M 44 (12 * (31 * p + m) + s)) (w := M 44 (12 * (31 * a + m) + s))
      generalize hL : lk z (fun p => M 44 (12 * (31 * p + m) + s)) (M 44 (12 * (31 * a + m) + s)) c = L at nx hl ⊢
      have go : ∀ x : Int, x = ((if inz z a = true then lk z (fun p => M 44 (12 * (31 * p + m) + s)) (M 44 (12 * (31 * a + m) + s)) (c + 1) else 0 : Nat) : Int) → post (F x ((c : Int) + 1)) (fun r => r.1 = ((if inz z a = true then lk z (fun p => M 44 (12 * (31 * p + m) + s)) (M 44 (12 * (31 * a + m) + s)) 10 else 0 : Nat) : Int)) := fun x hx =>
        ih (10 - (c + 1)) _ _ (by omega) ⟨c + 1, rfl, by omega, rfl, hx⟩
      rw [nx] at go
      by_cases hA : inz z a = true
      · rw [if_pos hA] at go ⊢
        by_cases hC : inz z c = true
        · by_cases hq : M 44 (12 * (31 * c + m) + s) = M 44 (12 * (31 * a + m) + s)
          · rw [if_pos (show inz z c = true ∧ (fun p : Nat => M 44 (12 * (31 * p + m) + s)) c = M 44 (12 * (31 * a + m) + s) from ⟨hC, hq⟩)] at go
            rw [if_pos hC]
            repeat' (first | with_reducible refine post_lt ?_ | (with_reducible refine post_chk ?_ ?_; focus ((try simp (disch := omega) only [Bool.false_eq_true, not_true_eq_false, not_false_eq_true, Nat.reduceAdd, Nat.reduceMul, w32_eq, w64_eq, lc_eq, lc_lt, lc_le, lc_gt, lc_ge, up_k, up_i, up_e, Int.toNat_natCast, tn7, tn8, tn12, tn3, tn120, tn1600, w32_and, w32_or, w32_xor, w32_shl, w32_shr, has2_eq, ta, tc]) <;> omega)) | (with_reducible refine post_ite (fun hcp => ?_) (fun hcp => ?_) <;> (try simp (disch := omega) only [Bool.false_eq_true, not_true_eq_false, not_false_eq_true, Nat.reduceAdd, Nat.reduceMul, w32_eq, w64_eq, lc_eq, lc_lt, lc_le, lc_gt, lc_ge, up_k, up_i, up_e, Int.toNat_natCast, tn7, tn8, tn12, tn3, tn120, tn1600, w32_and, w32_or, w32_xor, w32_shl, w32_shr, has2_eq, ta, tc] at hcp) <;> (try (exfalso; first | omega | exact hcp rfl | exact hcp trivial | contradiction))))
            exact go _ (by omega)
          · rw [if_neg (fun z : inz _ c = true ∧ (fun p : Nat => M 44 (12 * (31 * p + m) + s)) c = M 44 (12 * (31 * a + m) + s) => hq z.2)] at go
            rw [if_pos hC]
            repeat' (first | with_reducible refine post_lt ?_ | (with_reducible refine post_chk ?_ ?_; focus ((try simp (disch := omega) only [Bool.false_eq_true, not_true_eq_false, not_false_eq_true, Nat.reduceAdd, Nat.reduceMul, w32_eq, w64_eq, lc_eq, lc_lt, lc_le, lc_gt, lc_ge, up_k, up_i, up_e, Int.toNat_natCast, tn7, tn8, tn12, tn3, tn120, tn1600, w32_and, w32_or, w32_xor, w32_shl, w32_shr, has2_eq, ta, tc]) <;> omega)) | (with_reducible refine post_ite (fun hcp => ?_) (fun hcp => ?_) <;> (try simp (disch := omega) only [Bool.false_eq_true, not_true_eq_false, not_false_eq_true, Nat.reduceAdd, Nat.reduceMul, w32_eq, w64_eq, lc_eq, lc_lt, lc_le, lc_gt, lc_ge, up_k, up_i, up_e, Int.toNat_natCast, tn7, tn8, tn12, tn3, tn120, tn1600, w32_and, w32_or, w32_xor, w32_shl, w32_shr, has2_eq, ta, tc] at hcp) <;> (try (exfalso; first | omega | exact hcp rfl | exact hcp trivial | contradiction))))
            exact go _ (by omega)
        · rw [if_neg (fun z : inz _ c = true ∧ (fun p : Nat => M 44 (12 * (31 * p + m) + s)) c = M 44 (12 * (31 * a + m) + s) => hC z.1)] at go
          rw [if_neg hC]
          repeat' (first | with_reducible refine post_lt ?_ | (with_reducible refine post_chk ?_ ?_; focus ((try simp (disch := omega) only [Bool.false_eq_true, not_true_eq_false, not_false_eq_true, Nat.reduceAdd, Nat.reduceMul, w32_eq, w64_eq, lc_eq, lc_lt, lc_le, lc_gt, lc_ge, up_k, up_i, up_e, Int.toNat_natCast, tn7, tn8, tn12, tn3, tn120, tn1600, w32_and, w32_or, w32_xor, w32_shl, w32_shr, has2_eq, ta, tc]) <;> omega)) | (with_reducible refine post_ite (fun hcp => ?_) (fun hcp => ?_) <;> (try simp (disch := omega) only [Bool.false_eq_true, not_true_eq_false, not_false_eq_true, Nat.reduceAdd, Nat.reduceMul, w32_eq, w64_eq, lc_eq, lc_lt, lc_le, lc_gt, lc_ge, up_k, up_i, up_e, Int.toNat_natCast, tn7, tn8, tn12, tn3, tn120, tn1600, w32_and, w32_or, w32_xor, w32_shl, w32_shr, has2_eq, ta, tc] at hcp) <;> (try (exfalso; first | omega | exact hcp rfl | exact hcp trivial | contradiction))))
          exact go _ (by omega)
      · rw [if_neg hA] at go ⊢
        repeat' (first | with_reducible refine post_lt ?_ | (with_reducible refine post_chk ?_ ?_; focus ((try simp (disch := omega) only [Bool.false_eq_true, not_true_eq_false, not_false_eq_true, Nat.reduceAdd, Nat.reduceMul, w32_eq, w64_eq, lc_eq, lc_lt, lc_le, lc_gt, lc_ge, up_k, up_i, up_e, Int.toNat_natCast, tn7, tn8, tn12, tn3, tn120, tn1600, w32_and, w32_or, w32_xor, w32_shl, w32_shr, has2_eq, ta, tc]) <;> omega)) | (with_reducible refine post_ite (fun hcp => ?_) (fun hcp => ?_) <;> (try simp (disch := omega) only [Bool.false_eq_true, not_true_eq_false, not_false_eq_true, Nat.reduceAdd, Nat.reduceMul, w32_eq, w64_eq, lc_eq, lc_lt, lc_le, lc_gt, lc_ge, up_k, up_i, up_e, Int.toNat_natCast, tn7, tn8, tn12, tn3, tn120, tn1600, w32_and, w32_or, w32_xor, w32_shl, w32_shr, has2_eq, ta, tc] at hcp) <;> (try (exfalso; first | omega | exact hcp rfl | exact hcp trivial | contradiction))))
        exact go _ (by omega)
    · have e : c = 10 := by omega
      subst e
      repeat' (first | with_reducible refine post_lt ?_ | (with_reducible refine post_chk ?_ ?_; focus ((try simp (disch := omega) only [Bool.false_eq_true, not_true_eq_false, not_false_eq_true, Nat.reduceAdd, Nat.reduceMul, w32_eq, w64_eq, lc_eq, lc_lt, lc_le, lc_gt, lc_ge, up_k, up_i, up_e, Int.toNat_natCast, tn7, tn8, tn12, tn3, tn120, tn1600, w32_and, w32_or, w32_xor, w32_shl, w32_shr, has2_eq]) <;> omega)) | (with_reducible refine post_ite (fun hcp => ?_) (fun hcp => ?_) <;> (try simp (disch := omega) only [Bool.false_eq_true, not_true_eq_false, not_false_eq_true, Nat.reduceAdd, Nat.reduceMul, w32_eq, w64_eq, lc_eq, lc_lt, lc_le, lc_gt, lc_ge, up_k, up_i, up_e, Int.toNat_natCast, tn7, tn8, tn12, tn3, tn120, tn1600, w32_and, w32_or, w32_xor, w32_shl, w32_shr, has2_eq] at hcp) <;> (try (exfalso; first | omega | exact hcp rfl | exact hcp trivial | contradiction))))
      exact post_some rfl
  unfold m_mostBy
  refine post_bnd (post_itr2 (fun n (b i : Int) => ∃ c A : Nat, i = (c : Int) ∧ c ≤ 10 ∧ n = 10 - c ∧ b = (A : Int) ∧ A ≤ 10 ∧ (∀ a : Nat, a < c → inz z a = true → lk z (fun p => M 44 (12 * (31 * p + m) + s)) (M 44 (12 * (31 * a + m) + s)) 10 ≤ A) ∧ (A = 0 ∨ ∃ a : Nat, a < 10 ∧ inz z a = true ∧ lk z (fun p => M 44 (12 * (31 * p + m) + s)) (M 44 (12 * (31 * a + m) + s)) 10 = A))
    (fun r => ∃ A : Nat, r.1 = (A : Int) ∧ A ≤ 10 ∧ (∀ a : Nat, a < 10 → inz z a = true → lk z (fun p => M 44 (12 * (31 * p + m) + s)) (M 44 (12 * (31 * a + m) + s)) 10 ≤ A) ∧ (A = 0 ∨ ∃ a : Nat, a < 10 ∧ inz z a = true ∧ lk z (fun p => M 44 (12 * (31 * p + m) + s)) (M 44 (12 * (31 * a + m) + s)) 10 = A)) ?_ FUEL 10 0 0 (fuel_lt (by omega)) ⟨0, 0, rfl, by omega, rfl, rfl, by omega, fun a ha => by omega, Or.inl rfl⟩) ?_
  · rintro n b i ⟨c, A, rfl, hc, rfl, rfl, hA, g2, g3⟩ F ih
    unfold m_mostBy_L6
    by_cases h : c < 10
    · obtain ⟨⟨r1, r2⟩, e, er⟩ := inner (A : Int) c h
      simp only at er
      have hl := lk_le (z := z) (c := 10) (g := fun p => M 44 (12 * (31 * p + m) + s)) (w := M 44 (12 * (31 * c + m) + s))
      repeat' (first | with_reducible refine post_lt ?_ | (with_reducible refine post_chk ?_ ?_; focus ((try simp (disch := omega) only [Bool.false_eq_true, not_true_eq_false, not_false_eq_true, Nat.reduceAdd, Nat.reduceMul, w32_eq, w64_eq, lc_eq, lc_lt, lc_le, lc_gt, lc_ge, up_k, up_i, up_e, Int.toNat_natCast, tn7, tn8, tn12, tn3, tn120, tn1600, w32_and, w32_or, w32_xor, w32_shl, w32_shr, has2_eq]) <;> omega)) | (with_reducible refine post_ite (fun hcp => ?_) (fun hcp => ?_) <;> (try simp (disch := omega) only [Bool.false_eq_true, not_true_eq_false, not_false_eq_true, Nat.reduceAdd, Nat.reduceMul, w32_eq, w64_eq, lc_eq, lc_lt, lc_le, lc_gt, lc_ge, up_k, up_i, up_e, Int.toNat_natCast, tn7, tn8, tn12, tn3, tn120, tn1600, w32_and, w32_or, w32_xor, w32_shl, w32_shr, has2_eq] at hcp) <;> (try (exfalso; first | omega | exact hcp rfl | exact hcp trivial | contradiction))))
      refine post_bnde e ?_
      simp only [er]
      by_cases hi : inz z c = true
      · rw [if_pos hi]
        repeat' (first | with_reducible refine post_lt ?_ | (with_reducible refine post_chk ?_ ?_; focus ((try simp (disch := omega) only [Bool.false_eq_true, not_true_eq_false, not_false_eq_true, Nat.reduceAdd, Nat.reduceMul, w32_eq, w64_eq, lc_eq, lc_lt, lc_le, lc_gt, lc_ge, up_k, up_i, up_e, Int.toNat_natCast, tn7, tn8, tn12, tn3, tn120, tn1600, w32_and, w32_or, w32_xor, w32_shl, w32_shr, has2_eq]) <;> omega)) | (with_reducible refine post_ite (fun hcp => ?_) (fun hcp => ?_) <;> (try simp (disch := omega) only [Bool.false_eq_true, not_true_eq_false, not_false_eq_true, Nat.reduceAdd, Nat.reduceMul, w32_eq, w64_eq, lc_eq, lc_lt, lc_le, lc_gt, lc_ge, up_k, up_i, up_e, Int.toNat_natCast, tn7, tn8, tn12, tn3, tn120, tn1600, w32_and, w32_or, w32_xor, w32_shl, w32_shr, has2_eq] at hcp) <;> (try (exfalso; first | omega | exact hcp rfl | exact hcp trivial | contradiction))))
        · refine ih (10 - (c + 1)) _ _ (by omega) ⟨c + 1, A, rfl, by omega, rfl, rfl, hA, fun a ha hz1 => ?_, g3⟩
          by_cases e : a = c
          · subst e; omega
          · exact g2 a (by omega) hz1
        · refine ih (10 - (c + 1)) _ _ (by omega) ⟨c + 1, _, rfl, by omega, rfl, rfl, hl, fun a ha hz1 => ?_, Or.inr ⟨c, h, hi, rfl⟩⟩
          by_cases e : a = c
          · subst e; exact Nat.le_refl _
          · have := g2 a (by omega) hz1
            omega
      · rw [if_neg hi]
        repeat' (first | with_reducible refine post_lt ?_ | (with_reducible refine post_chk ?_ ?_; focus ((try simp (disch := omega) only [Bool.false_eq_true, not_true_eq_false, not_false_eq_true, Nat.reduceAdd, Nat.reduceMul, w32_eq, w64_eq, lc_eq, lc_lt, lc_le, lc_gt, lc_ge, up_k, up_i, up_e, Int.toNat_natCast, tn7, tn8, tn12, tn3, tn120, tn1600, w32_and, w32_or, w32_xor, w32_shl, w32_shr, has2_eq]) <;> omega)) | (with_reducible refine post_ite (fun hcp => ?_) (fun hcp => ?_) <;> (try simp (disch := omega) only [Bool.false_eq_true, not_true_eq_false, not_false_eq_true, Nat.reduceAdd, Nat.reduceMul, w32_eq, w64_eq, lc_eq, lc_lt, lc_le, lc_gt, lc_ge, up_k, up_i, up_e, Int.toNat_natCast, tn7, tn8, tn12, tn3, tn120, tn1600, w32_and, w32_or, w32_xor, w32_shl, w32_shr, has2_eq] at hcp) <;> (try (exfalso; first | omega | exact hcp rfl | exact hcp trivial | contradiction))))
        refine ih (10 - (c + 1)) _ _ (by omega) ⟨c + 1, A, rfl, by omega, rfl, rfl, hA, fun a ha hz1 => ?_, g3⟩
        by_cases e : a = c
        · subst e; exact absurd hz1 hi
        · exact g2 a (by omega) hz1
    · have e : c = 10 := by omega
      subst e
      repeat' (first | with_reducible refine post_lt ?_ | (with_reducible refine post_chk ?_ ?_; focus ((try simp (disch := omega) only [Bool.false_eq_true, not_true_eq_false, not_false_eq_true, Nat.reduceAdd, Nat.reduceMul, w32_eq, w64_eq, lc_eq, lc_lt, lc_le, lc_gt, lc_ge, up_k, up_i, up_e, Int.toNat_natCast, tn7, tn8, tn12, tn3, tn120, tn1600, w32_and, w32_or, w32_xor, w32_shl, w32_shr, has2_eq]) <;> omega)) | (with_reducible refine post_ite (fun hcp => ?_) (fun hcp => ?_) <;> (try simp (disch := omega) only [Bool.false_eq_true, not_true_eq_false, not_false_eq_true, Nat.reduceAdd, Nat.reduceMul, w32_eq, w64_eq, lc_eq, lc_lt, lc_le, lc_gt, lc_ge, up_k, up_i, up_e, Int.toNat_natCast, tn7, tn8, tn12, tn3, tn120, tn1600, w32_and, w32_or, w32_xor, w32_shl, w32_shr, has2_eq] at hcp) <;> (try (exfalso; first | omega | exact hcp rfl | exact hcp trivial | contradiction))))
      exact post_some ⟨A, rfl, hA, g2, g3⟩
  · rintro ⟨b, i⟩ ⟨A, h1, h2⟩
    exact post_some ⟨A, h1, h2⟩
