/-! THE PURE PART: on: a saying, the class takes it -/
/-- a saying is written into the trial -/
def Wrote (c p : Nat) (X X1 X2 : Mem) : Prop := (∀ j, j ≠ c → X2 55 j = X1 55 j ∧ X2 56 j = X1 56 j ∧ X2 57 j = X1 57 j ∧ X2 58 j = X1 58 j ∧ X2 59 j = X1 59 j ∧ X2 60 j = X1 60 j) ∧ X2 55 c = X 2 p ∧ X2 56 c = or32 (shl32 (X 2 (p + 1)) 8) (X 2 (p + 2)) ∧ X2 57 c = X 2 (p + 3) ∧ X2 58 c = (if X 2 p = 2 ∨ X 2 p = 3 ∨ X 2 p = 5 then X 2 (p + 4) else -1) ∧ X2 59 c = X 2 (p + 5) ∧ X2 60 c = X 2 (p + 6)
theorem x_saying {L p c nv ns : Nat} {X X1 : Mem} (hr : Rd L p X1) (hp : p + 7 ≤ L) (hc : c < ns) (hns : ns ≤ 12) (hnv : nv ≤ 7) (h0 : X1 23 0 = (nv : Int)) (h2 : X1 23 2 = (ns : Int)) (h31 : X1 31 c = X 31 c ∧ 1 ≤ X 31 c ∧ X 31 c ≤ 20) (hf : FrX X X1) (hb : ∀ j, j < 1600 → 0 ≤ X 2 j ∧ X 2 j ≤ 255) :
    post (x_Picture_takeSaying (c : Int) X1) (fun r => Rd L (p + 7) r.2 ∧ FrX X r.2 ∧ (∀ a, (a < 55 ∨ 60 < a) → a ≠ 370 → r.2 a = X1 a) ∧ ((r.1 = true ∧ SOk nv ns c X X1 p ∧ Wrote c p X X1 r.2) ∨ (r.1 = false ∧ ¬ SOk nv ns c X X1 p))) := by
  have hL := hr.2.2.2
  have tape : X1 2 = X 2 := hf.1 2 (by omega) (by omega)
  obtain ⟨X2, a1, a2, a3, a4⟩ := x_takes hr (by omega)
  obtain ⟨X3, b1, b2, b3, b4⟩ := x_takes a2 (by omega)
  obtain ⟨X4, c1, c2, c3, c4⟩ := x_takes b2 (by omega)
  obtain ⟨X5, d1, d2, d3, d4⟩ := x_takes c2 (by omega)
  obtain ⟨X6, e1, e2, e3, e4⟩ := x_takes d2 (by omega)
  obtain ⟨X7, f1, f2, f3, f4⟩ := x_takes e2 (by omega)
  obtain ⟨X8, g1, g2, g3, g4⟩ := x_takes f2 (by omega)
  have fr : ∀ a, a ≠ 370 → X8 a = X1 a := fun a ha => by rw [g3 a ha, f3 a ha, e3 a ha, d3 a ha, c3 a ha, b3 a ha, a3 a ha]
  have fj : ∀ j, j ≠ 6 → X8 370 j = X1 370 j := fun j hj => by rw [g4 j hj, f4 j hj, e4 j hj, d4 j hj, c4 j hj, b4 j hj, a4 j hj]
  rw [tape] at a1
  rw [a3 2 (by omega), tape] at b1
  rw [b3 2 (by omega), a3 2 (by omega), tape] at c1
  rw [c3 2 (by omega), b3 2 (by omega), a3 2 (by omega), tape] at d1
  rw [d3 2 (by omega), c3 2 (by omega), b3 2 (by omega), a3 2 (by omega), tape] at e1
  rw [e3 2 (by omega), d3 2 (by omega), c3 2 (by omega), b3 2 (by omega), a3 2 (by omega), tape] at f1
  rw [f3 2 (by omega), e3 2 (by omega), d3 2 (by omega), c3 2 (by omega), b3 2 (by omega), a3 2 (by omega), tape] at g1
  have c1 : x_Picture_take X3 = some (X 2 (p + 2), X4) := c1
  have d1 : x_Picture_take X4 = some (X 2 (p + 3), X5) := d1
  have e1 : x_Picture_take X5 = some (X 2 (p + 4), X6) := e1
  have f1 : x_Picture_take X6 = some (X 2 (p + 5), X7) := f1
  have g1 : x_Picture_take X7 = some (X 2 (p + 6), X8) := g1
  have z0 := hb p (by omega)
  have z1 := hb (p + 1) (by omega)
  have z2 := hb (p + 2) (by omega)
  have z3 := hb (p + 3) (by omega)
  have z4 := hb (p + 4) (by omega)
  have z5 := hb (p + 5) (by omega)
  have z6 := hb (p + 6) (by omega)
  have n23 : X8 23 0 = (nv : Int) := by rw [fr 23 (by omega)]; exact h0
  have n232 : X8 23 2 = (ns : Int) := by rw [fr 23 (by omega)]; exact h2
  have n31 : X8 31 c = X 31 c := by rw [fr 31 (by omega)]; exact h31.1
  have hfree : ∀ v, Fre ns X8 v ↔ Fre ns X1 v := fun v => by
    unfold Fre
    rw [fr 53 (by omega), fr 55 (by omega), fr 58 (by omega)]
  obtain ⟨q1, hq1⟩ := Int.eq_ofNat_of_zero_le z1.1
  obtain ⟨q2, hq2⟩ := Int.eq_ofNat_of_zero_le z2.1
  have pr : or32 (shl32 (X 2 (p + 1)) 8) (X 2 (p + 2)) = ((256 * q1 + q2 : Nat) : Int) := by rw [hq1, hq2]; exact pair_small q1 (by omega) q2 (by omega)
  obtain ⟨D, hD⟩ : ∃ D, D = or32 (shl32 (X 2 (p + 1)) 8) (X 2 (p + 2)) := ⟨_, rfl⟩
  have dr : 0 ≤ D ∧ D ≤ 70000 := by rw [hD, pr]; omega
  have e2b : x_Picture_takePair X2 = some (D, X4) := by
    unfold x_Picture_takePair
    rw [b1, bnd2_some, c1, bnd2_some, hD]
  have bad : ¬ SOk nv ns c X X1 p → (fun r => Rd L (p + 7) r.2 ∧ FrX X r.2 ∧ (∀ a, (a < 55 ∨ 60 < a) → a ≠ 370 → r.2 a = X1 a) ∧ ((r.1 = true ∧ SOk nv ns c X X1 p ∧ Wrote c p X X1 r.2) ∨ (r.1 = false ∧ ¬ SOk nv ns c X X1 p))) (false, X8) := fun hn =>
    ⟨g2, ⟨fun a y1 y2 => (fr a y2).trans (hf.1 a y1 y2), fun j y1 y2 => (fj j y2).trans (hf.2 j y1 y2)⟩, fun a y1 y2 => fr a y2, Or.inr ⟨rfl, hn⟩⟩
  have good : ∀ vv : Int, vv = (if (X 2 p = 2 ∨ X 2 p = 3 ∨ X 2 p = 5) then X 2 (p + 4) else -1) → SOk nv ns c X X1 p → (fun r => Rd L (p + 7) r.2 ∧ FrX X r.2 ∧ (∀ a, (a < 55 ∨ 60 < a) → a ≠ 370 → r.2 a = X1 a) ∧ ((r.1 = true ∧ SOk nv ns c X X1 p ∧ Wrote c p X X1 r.2) ∨ (r.1 = false ∧ ¬ SOk nv ns c X X1 p))) (true, (upM (upM (upM (upM (upM (upM X8 55 c (X 2 p)) 56 c D) 57 c (X 2 (p + 3))) 58 c vv) 59 c (X 2 (p + 5))) 60 c (X 2 (p + 6)))) := fun vv hvv hok => by
    have rows : ∀ a, (a < 55 ∨ 60 < a) → (upM (upM (upM (upM (upM (upM X8 55 c (X 2 p)) 56 c D) 57 c (X 2 (p + 3))) 58 c vv) 59 c (X 2 (p + 5))) 60 c (X 2 (p + 6))) a = X8 a := fun a ha => by
      rw [upM_row (by omega), upM_row (by omega), upM_row (by omega), upM_row (by omega), upM_row (by omega), upM_row (by omega)]
    refine ⟨Rd_up (Rd_up (Rd_up (Rd_up (Rd_up (Rd_up g2 (by omega) (by omega)) (by omega) (by omega)) (by omega) (by omega)) (by omega) (by omega)) (by omega) (by omega)) (by omega) (by omega), ⟨fun a y1 y2 => ?_, fun j y1 y2 => ?_⟩, fun a y1 y2 => ?_, Or.inl ⟨rfl, hok, fun j hj => ?_, ?_, ?_, ?_, ?_, ?_, ?_⟩⟩
    · exact (rows a (by omega)).trans ((fr a y2).trans (hf.1 a y1 y2))
    · exact (congrFun (rows 370 (by omega)) j).trans ((fj j y2).trans (hf.2 j y1 y2))
    · exact (rows a (by omega)).trans (fr a y2)
    · simp (disch := omega) only [up_k, up_i, fr]
      exact ⟨trivial, trivial, trivial, trivial, trivial, trivial⟩
    · simp (disch := omega) only [up_k, up_e]
    · simp (disch := omega) only [up_k, up_e]; exact hD
    · simp (disch := omega) only [up_k, up_e]
    · simp (disch := omega) only [up_k, up_e]; exact hvv
    · simp (disch := omega) only [up_k, up_e]
    · simp (disch := omega) only [up_k, up_e]
  have main : ∀ P : Bool × Mem → Prop, (¬ SOk nv ns c X X1 p → P (false, X8)) → (∀ vv : Int, vv = (if (X 2 p = 2 ∨ X 2 p = 3 ∨ X 2 p = 5) then X 2 (p + 4) else -1) → SOk nv ns c X X1 p → P (true, (upM (upM (upM (upM (upM (upM X8 55 c (X 2 p)) 56 c D) 57 c (X 2 (p + 3))) 58 c vv) 59 c (X 2 (p + 5))) 60 c (X 2 (p + 6))))) → post (x_Picture_takeSaying (c : Int) X1) P := fun P bad good => by
    have w175 : ∀ s0 : Int, ((s0 = 0 ∧ ¬ (X 2 p = 2 ∨ X 2 p = 3 ∨ X 2 p = 5)) ∨ (s0 = 1 ∧ (X 2 p = 2 ∨ X 2 p = 3 ∨ X 2 p = 5))) → SOk nv ns c X X1 p → post (x_Picture_takeSaying_B175 (c : Int) (X 2 p) D (X 2 (p + 3)) (X 2 (p + 4)) (X 2 (p + 5)) (X 2 (p + 6)) s0 X8) P := fun s0 hs hok => by
      unfold x_Picture_takeSaying_B175 x_Picture_takeSaying_B225
      rw [show ((c : Nat) : Int).toNat = c from Int.toNat_natCast c]
      rcases hs with ⟨rfl, hk⟩ | ⟨rfl, hk⟩
      · repeat' (first | with_reducible refine post_lt ?_ | (with_reducible refine post_chk ?_ ?_; focus ((try simp (disch := omega) only [Bool.false_eq_true, not_true_eq_false, not_false_eq_true, Nat.reduceAdd, Nat.reduceMul, w32_eq, w64_eq, lc_eq, lc_lt, lc_le, lc_gt, lc_ge, up_k, up_i, up_e, Int.toNat_natCast, tn7, tn8, tn12, tn3, tn120, tn1600, w32_and, w32_or, w32_xor, w32_shl, w32_shr, has2_eq]) <;> omega)) | (with_reducible refine post_ite (fun hcp => ?_) (fun hcp => ?_) <;> (try simp (disch := omega) only [Bool.false_eq_true, not_true_eq_false, not_false_eq_true, Nat.reduceAdd, Nat.reduceMul, w32_eq, w64_eq, lc_eq, lc_lt, lc_le, lc_gt, lc_ge, up_k, up_i, up_e, Int.toNat_natCast, tn7, tn8, tn12, tn3, tn120, tn1600, w32_and, w32_or, w32_xor, w32_shl, w32_shr, has2_eq] at hcp) <;> (try (exfalso; first | omega | exact hcp rfl | exact hcp trivial | contradiction))))
        exact post_some (good (-1) (by rw [if_neg hk]) hok)
      · repeat' (first | with_reducible refine post_lt ?_ | (with_reducible refine post_chk ?_ ?_; focus ((try simp (disch := omega) only [Bool.false_eq_true, not_true_eq_false, not_false_eq_true, Nat.reduceAdd, Nat.reduceMul, w32_eq, w64_eq, lc_eq, lc_lt, lc_le, lc_gt, lc_ge, up_k, up_i, up_e, Int.toNat_natCast, tn7, tn8, tn12, tn3, tn120, tn1600, w32_and, w32_or, w32_xor, w32_shl, w32_shr, has2_eq]) <;> omega)) | (with_reducible refine post_ite (fun hcp => ?_) (fun hcp => ?_) <;> (try simp (disch := omega) only [Bool.false_eq_true, not_true_eq_false, not_false_eq_true, Nat.reduceAdd, Nat.reduceMul, w32_eq, w64_eq, lc_eq, lc_lt, lc_le, lc_gt, lc_ge, up_k, up_i, up_e, Int.toNat_natCast, tn7, tn8, tn12, tn3, tn120, tn1600, w32_and, w32_or, w32_xor, w32_shl, w32_shr, has2_eq] at hcp) <;> (try (exfalso; first | omega | exact hcp rfl | exact hcp trivial | contradiction))))
        exact post_some (good (X 2 (p + 4)) (by rw [if_pos hk]) hok)
    have w129 : ∀ s0 : Int, ((s0 = 0 ∧ ¬ (X 2 p = 2 ∨ X 2 p = 3 ∨ X 2 p = 5) ∧ X 2 (p + 4) = 255 ∧ X 2 (p + 6) = 0) ∨ (s0 = 1 ∧ (X 2 p = 2 ∨ X 2 p = 3 ∨ X 2 p = 5) ∧ X 2 (p + 4) < (nv : Int))) → X 2 p ≤ 5 → D ≤ 999 → X 2 (p + 3) ≤ 99 → X 2 (p + 6) ≤ 1 → (X 2 p = 0 → X 2 (p + 3) = 0) → post (x_Picture_takeSaying_B129 (c : Int) (X 2 p) D (X 2 (p + 3)) (X 2 (p + 4)) (X 2 (p + 5)) (X 2 (p + 6)) s0 X8) P := fun s0 hs y1 y2 y3 y4 y5 => by
      have hs' : (s0 = 0 ∧ ¬ (X 2 p = 2 ∨ X 2 p = 3 ∨ X 2 p = 5)) ∨ (s0 = 1 ∧ (X 2 p = 2 ∨ X 2 p = 3 ∨ X 2 p = 5)) := hs.elim (fun z => Or.inl ⟨z.1, z.2.1⟩) (fun z => Or.inr ⟨z.1, z.2.1⟩)
      have six : ((X 2 p = 2 ∨ X 2 p = 3 ∨ X 2 p = 5) ∧ X 2 (p + 4) < (nv : Int)) ∨ (¬ (X 2 p = 2 ∨ X 2 p = 3 ∨ X 2 p = 5) ∧ X 2 (p + 4) = 255 ∧ X 2 (p + 6) = 0) := hs.elim (fun z => Or.inr ⟨z.2.1, z.2.2.1, z.2.2.2⟩) (fun z => Or.inl ⟨z.2.1, z.2.2⟩)
      rw [hD] at y2
      unfold x_Picture_takeSaying_B129
      by_cases q : X 2 p = 2
      · have h4 : X 2 (p + 4) < (nv : Int) := by omega
        obtain ⟨u, hu⟩ := Int.eq_ofNat_of_zero_le z4.1
        have ht : (X 2 (p + 4)).toNat = u := by omega
        obtain ⟨b, eb, hbF⟩ := x_free (v := u) n232 hns (by omega)
        have eb' : x_State_isFree 51 (X 2 (p + 4)) X8 = some b := by rw [hu]; exact eb
        rw [show ((c : Nat) : Int).toNat = c from Int.toNat_natCast c]
        refine post_ite (fun hcp => absurd (by rw [q]) hcp) (fun _ => ?_)
        refine post_bnde eb' ?_
        cases b with
        | false =>
          rw [if_neg Bool.false_ne_true]
          refine post_some (bad fun hk => ?_)
          obtain ⟨-, -, -, -, -, -, k7⟩ := hk
          rcases k7 with k7 | k7
          · rw [ht] at k7
            have := hbF.mpr ((hfree u).mpr k7.2.1)
            cases this
          · exact k7.1 q
        | true =>
          rw [if_pos rfl]
          have hF : Fre ns X1 (X 2 (p + 4)).toNat := by rw [ht]; exact (hfree u).mp (hbF.mp rfl)
          repeat' (first | with_reducible refine post_lt ?_ | (with_reducible refine post_chk ?_ ?_; focus ((try simp (disch := omega) only [Bool.false_eq_true, not_true_eq_false, not_false_eq_true, Nat.reduceAdd, Nat.reduceMul, w32_eq, w64_eq, lc_eq, lc_lt, lc_le, lc_gt, lc_ge, up_k, up_i, up_e, Int.toNat_natCast, tn7, tn8, tn12, tn3, tn120, tn1600, w32_and, w32_or, w32_xor, w32_shl, w32_shr, has2_eq, n31]) <;> omega)) | (with_reducible refine post_ite (fun hcp => ?_) (fun hcp => ?_) <;> (try simp (disch := omega) only [Bool.false_eq_true, not_true_eq_false, not_false_eq_true, Nat.reduceAdd, Nat.reduceMul, w32_eq, w64_eq, lc_eq, lc_lt, lc_le, lc_gt, lc_ge, up_k, up_i, up_e, Int.toNat_natCast, tn7, tn8, tn12, tn3, tn120, tn1600, w32_and, w32_or, w32_xor, w32_shl, w32_shr, has2_eq, n31] at hcp) <;> (try (exfalso; first | omega | exact hcp rfl | exact hcp trivial | contradiction))))
          · exact post_some (bad fun hk => by
              obtain ⟨-, -, -, -, -, -, k7⟩ := hk
              rcases k7 with k7 | k7
              · omega
              · exact k7.1 q)
          · exact w175 s0 hs' ⟨y1, y2, y3, y4, y5, six, Or.inl ⟨q, hF, by omega, by omega⟩⟩
          · exact post_some (bad fun hk => by
              obtain ⟨-, -, -, -, -, -, k7⟩ := hk
              rcases k7 with k7 | k7
              · omega
              · exact k7.1 q)
      · repeat' (first | with_reducible refine post_lt ?_ | (with_reducible refine post_chk ?_ ?_; focus ((try simp (disch := omega) only [Bool.false_eq_true, not_true_eq_false, not_false_eq_true, Nat.reduceAdd, Nat.reduceMul, w32_eq, w64_eq, lc_eq, lc_lt, lc_le, lc_gt, lc_ge, up_k, up_i, up_e, Int.toNat_natCast, tn7, tn8, tn12, tn3, tn120, tn1600, w32_and, w32_or, w32_xor, w32_shl, w32_shr, has2_eq]) <;> omega)) | (with_reducible refine post_ite (fun hcp => ?_) (fun hcp => ?_) <;> (try simp (disch := omega) only [Bool.false_eq_true, not_true_eq_false, not_false_eq_true, Nat.reduceAdd, Nat.reduceMul, w32_eq, w64_eq, lc_eq, lc_lt, lc_le, lc_gt, lc_ge, up_k, up_i, up_e, Int.toNat_natCast, tn7, tn8, tn12, tn3, tn120, tn1600, w32_and, w32_or, w32_xor, w32_shl, w32_shr, has2_eq] at hcp) <;> (try (exfalso; first | omega | exact hcp rfl | exact hcp trivial | contradiction))))
        · exact w175 s0 hs' ⟨y1, y2, y3, y4, y5, six, Or.inr ⟨q, by omega⟩⟩
        · exact post_some (bad fun hk => by
            obtain ⟨-, -, -, -, -, -, k7⟩ := hk
            rcases k7 with k7 | k7
            · exact q k7.1
            · omega)
    have bad' : ∀ y : Option (Bool × Mem), y = some (false, X8) → ¬ (X 2 p ≤ 5 ∧ D ≤ 999 ∧ X 2 (p + 3) ≤ 99 ∧ X 2 (p + 6) ≤ 1 ∧ (X 2 p = 0 → X 2 (p + 3) = 0) ∧ (((X 2 p = 2 ∨ X 2 p = 3 ∨ X 2 p = 5) ∧ X 2 (p + 4) < (nv : Int)) ∨ (¬ (X 2 p = 2 ∨ X 2 p = 3 ∨ X 2 p = 5) ∧ X 2 (p + 4) = 255 ∧ X 2 (p + 6) = 0))) → post y P := fun y hy hn => by
      rw [hy]
      refine post_some (bad fun hk => hn ?_)
      obtain ⟨k1, k2, k3, k4, k5, k6, -⟩ := hk
      rw [← hD] at k2
      exact ⟨k1, k2, k3, k4, k5, k6⟩
    unfold x_Picture_takeSaying
    refine post_bnd2e a1 ?_
    refine post_bnd2e e2b ?_
    refine post_bnd2e d1 ?_
    refine post_bnd2e e1 ?_
    refine post_bnd2e f1 ?_
    refine post_bnd2e g1 ?_
    unfold x_Picture_takeSaying_B72 x_Picture_takeSaying_B87 x_Picture_takeSaying_B92
    repeat' (first | with_reducible refine post_lt ?_ | (with_reducible refine post_chk ?_ ?_; focus ((try simp (disch := omega) only [Bool.false_eq_true, not_true_eq_false, not_false_eq_true, Nat.reduceAdd, Nat.reduceMul, w32_eq, w64_eq, lc_eq, lc_lt, lc_le, lc_gt, lc_ge, up_k, up_i, up_e, Int.toNat_natCast, tn7, tn8, tn12, tn3, tn120, tn1600, w32_and, w32_or, w32_xor, w32_shl, w32_shr, has2_eq, n23]) <;> omega)) | (with_reducible refine post_ite (fun hcp => ?_) (fun hcp => ?_) <;> (try simp (disch := omega) only [Bool.false_eq_true, not_true_eq_false, not_false_eq_true, Nat.reduceAdd, Nat.reduceMul, w32_eq, w64_eq, lc_eq, lc_lt, lc_le, lc_gt, lc_ge, up_k, up_i, up_e, Int.toNat_natCast, tn7, tn8, tn12, tn3, tn120, tn1600, w32_and, w32_or, w32_xor, w32_shl, w32_shr, has2_eq, n23] at hcp) <;> (try (exfalso; first | omega | exact hcp rfl | exact hcp trivial | contradiction))))
    all_goals first
      | exact bad' _ rfl (by omega)
      | exact w129 0 (Or.inl ⟨rfl, by omega, by omega, by omega⟩) (by omega) (by omega) (by omega) (by omega) (by omega)
      | exact w129 1 (Or.inr ⟨rfl, by omega, by omega⟩) (by omega) (by omega) (by omega) (by omega) (by omega)
  exact main _ bad good
