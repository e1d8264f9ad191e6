/-! THE PURE PART: who is needed -/
/-- the sum of picks, as the class answers it now -/
def pkv (X : Mem) (s v : Nat) : Int := match x_State_sumOfPicks 38 (s : Int) (v : Int) X with
  | some p => p.1
  | none => 0
theorem pick_any {nv np ns bk k s v : Nat} {X M X1 M1 : Mem} (hR : RAll nv np ns bk k X M) (hx : QX X X1) (hm : QM M M1) (hs : s < ns) (hv : v < nv) :
    ∃ X2 M2, x_State_sumOfPicks 38 (s : Int) (v : Int) X1 = some (pkv X s v, X2) ∧ m_pickOf 0 (s : Int) (v : Int) M1 = some (pkv X s v, M2) ∧ -1000000 ≤ pkv X s v ∧ pkv X s v ≤ 1000000 ∧ FXs X1 X2 ∧ FMs M1 M2 := by
  have hR1 := RAll_q hR hx hm
  have hR2 := RAll_q hR (QX_refl X) hm
  obtain ⟨⟨p, X2⟩, ⟨q, M2⟩, a1, a2, a3, a4, a5, a6, a7⟩ := sim_pick (v := 0) hR1.1 hR1.2.1 hR1.2.2.1 (by omega) (by omega) hs hv
  obtain ⟨⟨p', X3⟩, ⟨q', M3⟩, b1, b2, b3, b4, b5, b6, b7⟩ := sim_pick (v := 0) hR2.1 hR2.2.1 hR2.2.2.1 (by omega) (by omega) hs hv
  simp only at a3 a4 a5 a6 a7 b3
  rw [a2] at b2
  have e := Option.some.inj b2
  have e1 : q = q' := congrArg Prod.fst e
  have hp : pkv X s v = p := by
    unfold pkv
    rw [b1]
    show p' = p
    rw [a3, e1, ← b3]
  rw [hp]
  exact ⟨X2, M2, a1, by rw [show m_pickOf 0 (s : Int) (v : Int) M1 = _ from a2, a3], a4, a5, a6, a7⟩
theorem free_any {nv np ns bk k v : Nat} {X M X1 M1 : Mem} (hR : RAll nv np ns bk k X M) (hx : QX X X1) (hm : QM M M1) (hv : v < nv) :
    ∃ b, x_State_isFree 38 (v : Int) X1 = some b ∧ m_isFree 0 (v : Int) M1 = some b ∧ (b = true ↔ Free ns 38 X v) := by
  have hR1 := RAll_q hR hx hm
  obtain ⟨a, b, e1, e2, rfl, e3⟩ := sim_free (v := 0) hR1.1 hR1.2.1 hR1.2.2.1 (by omega) hv
  refine ⟨a, e1, e2, ?_⟩
  have r : ∀ q, 38 ≤ q → q ≤ 50 → X1 q = X q := fun q h1 h2 => hx q (by omega) (by omega) (by omega) (by omega) (by omega)
  unfold Free at e3 ⊢
  rw [r (38 + 2) (by omega) (by omega), r (38 + 4) (by omega) (by omega), r (38 + 7) (by omega) (by omega)] at e3
  exact e3
/-- the sums: 0 where the voice can't be given now -/
noncomputable def smv (ns : Nat) (X : Mem) (s v : Nat) : Int := @ite Int (X 42 s = 1 ∧ Free ns 38 X v ∧ 0 < pkv X s v) (Classical.propDecidable _) (pkv X s v) 0
theorem smv_b {nv np ns bk k s v : Nat} {X M : Mem} (hR : RAll nv np ns bk k X M) (hs : s < ns) (hv : v < nv) : 0 ≤ smv ns X s v ∧ smv ns X s v ≤ 1000000 := by
  obtain ⟨X2, M2, -, -, h1, h2, -⟩ := pick_any hR (QX_refl X) (QM_refl M) hs hv
  unfold smv
  split <;> omega
theorem smv_pos {ns s v : Nat} {X : Mem} : 0 < smv ns X s v ↔ X 42 s = 1 ∧ Free ns 38 X v ∧ 0 < pkv X s v := by
  unfold smv
  split
  · rename_i h
    exact ⟨fun _ => h, fun _ => h.2.2⟩
  · rename_i h
    exact ⟨fun z => by omega, fun z => absurd z h⟩
theorem smv_val {ns s v : Nat} {X : Mem} (h1 : X 42 s = 1) (h2 : Free ns 38 X v) : smv ns X s v = if 0 < pkv X s v then pkv X s v else 0 := by
  unfold smv
  by_cases h : 0 < pkv X s v
  · rw [if_pos ⟨h1, h2, h⟩, if_pos h]
  · rw [if_neg (fun z => h z.2.2), if_neg h]
theorem smv_0 {ns s v : Nat} {X : Mem} (h : ¬ (X 42 s = 1 ∧ Free ns 38 X v)) : smv ns X s v = 0 := by
  unfold smv
  rw [if_neg (fun z => h ⟨z.1, z.2.1⟩)]
theorem x_fill {nv np ns bk k : Nat} {X M : Mem} (hR : RAll nv np ns bk k X M) : post (x_Matching_fillSums X) (fun X1 => QX X X1 ∧ ∀ s v, s < ns → v < nv → X1 (342 + s) v = smv ns X s v) := by
  have hns := hR.1.1.2.2.2.2
  have hnv := hR.1.1.2.2.1
  have x0 := hR.1.2.1.1
  have x2 := hR.1.2.1.2.2
  have qx : ∀ {X1 : Mem} (a i : Nat) (w : Int), 342 ≤ a → a ≤ 353 → QX X1 (upM X1 a i w) := fun a i w h1 h2 q g1 g2 g3 g4 g5 => upM_row (by omega)
  unfold x_Matching_fillSums
  refine post_bnd (post_itr2 (fun n (i : Int) X1 => ∃ c : Nat, i = (c : Int) ∧ c ≤ ns ∧ n = ns - c ∧ QX X X1 ∧ ∀ s v, s < c → v < nv → X1 (342 + s) v = smv ns X s v) (fun p => QX X p.2 ∧ ∀ s v, s < ns → v < nv → p.2 (342 + s) v = smv ns X s v) ?_ FUEL ns 0 X (fuel_lt (by omega)) ⟨0, rfl, by omega, rfl, QX_refl X, fun s v h => by omega⟩) (fun p h => post_some h)
  rintro n i X1 ⟨s, rfl, hs, rfl, hx, hsum⟩ F ih
  unfold x_Matching_fillSums_L2
  have x21 : X1 23 2 = (ns : Int) := by rw [hx 23 (by omega) (by omega) (by omega) (by omega) (by omega)]; exact x2
  by_cases h : s < ns
  · repeat' (first | with_reducible refine post_lt ?_ | (with_reducible refine post_chk ?_ ?_; focus ((try simp (disch := omega) only [Bool.false_eq_true, not_true_eq_false, not_false_eq_true, Nat.reduceAdd, Nat.reduceMul, w32_eq, w64_eq, lc_eq, lc_lt, lc_le, lc_gt, lc_ge, up_k, up_i, up_e, Int.toNat_natCast, tn7, tn8, tn12, tn3, tn120, tn1600, w32_and, w32_or, w32_xor, w32_shl, w32_shr, has2_eq, x21]) <;> omega)) | (with_reducible refine post_ite (fun hcp => ?_) (fun hcp => ?_) <;> (try simp (disch := omega) only [Bool.false_eq_true, not_true_eq_false, not_false_eq_true, Nat.reduceAdd, Nat.reduceMul, w32_eq, w64_eq, lc_eq, lc_lt, lc_le, lc_gt, lc_ge, up_k, up_i, up_e, Int.toNat_natCast, tn7, tn8, tn12, tn3, tn120, tn1600, w32_and, w32_or, w32_xor, w32_shl, w32_shr, has2_eq, x21] at hcp) <;> (try (exfalso; first | omega | exact hcp rfl | exact hcp trivial | contradiction))))
    refine post_bnd (post_itr2 (fun n (i : Int) X2 => ∃ c : Nat, i = (c : Int) ∧ c ≤ nv ∧ n = nv - c ∧ QX X X2 ∧ (∀ t v, t < s → v < nv → X2 (342 + t) v = smv ns X t v) ∧ ∀ v, v < c → X2 (342 + s) v = smv ns X s v) (fun p => QX X p.2 ∧ ∀ t v, t < s + 1 → v < nv → p.2 (342 + t) v = smv ns X t v) ?_ FUEL nv 0 X1 (fuel_lt (by omega)) ⟨0, rfl, by omega, rfl, hx, hsum, fun v h => by omega⟩) ?_
    · rintro n i X2 ⟨v, rfl, hv, rfl, hx2, hsum2, hrow⟩ G ih2
      unfold x_Matching_fillSums_L15 x_Matching_fillSums_L15_B54 x_Matching_fillSums_L15_B55
      have x02 : X2 23 0 = (nv : Int) := by rw [hx2 23 (by omega) (by omega) (by omega) (by omega) (by omega)]; exact x0
      have e42 : X2 42 = X 42 := hx2 42 (by omega) (by omega) (by omega) (by omega) (by omega)
      have i4 : 0 ≤ X 42 s ∧ X 42 s ≤ 5 := hR.2.2.1.2.2.2.1 s h
      by_cases hvv : v < nv
      · have next : ∀ X3 w, QX X X3 → (∀ a, 342 ≤ a → X3 a = X2 a) → w = smv ns X s v → post (G ((v : Int) + 1) (upM X3 (342 + s) v w)) (fun p => QX X p.2 ∧ ∀ t v, t < s + 1 → v < nv → p.2 (342 + t) v = smv ns X t v) := by
          intro X3 w hx3 he hw
          refine ih2 (nv - (v + 1)) _ _ (by omega) ⟨v + 1, rfl, by omega, rfl, QX_trans hx3 (qx _ _ _ (by omega) (by omega)), fun t u ht hu => ?_, fun u hu => ?_⟩
          · rw [up_k (by omega), he _ (by omega)]; exact hsum2 t u ht hu
          · by_cases e : u = v
            · subst e; rw [up_e]; exact hw
            · rw [up_i e, he _ (by omega)]; exact hrow u (by omega)
        obtain ⟨b, b1, -, b3⟩ := free_any hR hx2 (QM_refl M) hvv
        by_cases h1 : X 42 s = 1
        · repeat' (first | with_reducible refine post_lt ?_ | (with_reducible refine post_chk ?_ ?_; focus ((try simp (disch := omega) only [Bool.false_eq_true, not_true_eq_false, not_false_eq_true, Nat.reduceAdd, Nat.reduceMul, w32_eq, w64_eq, lc_eq, lc_lt, lc_le, lc_gt, lc_ge, up_k, up_i, up_e, Int.toNat_natCast, tn7, tn8, tn12, tn3, tn120, tn1600, w32_and, w32_or, w32_xor, w32_shl, w32_shr, has2_eq, x02, e42]) <;> omega)) | (with_reducible refine post_ite (fun hcp => ?_) (fun hcp => ?_) <;> (try simp (disch := omega) only [Bool.false_eq_true, not_true_eq_false, not_false_eq_true, Nat.reduceAdd, Nat.reduceMul, w32_eq, w64_eq, lc_eq, lc_lt, lc_le, lc_gt, lc_ge, up_k, up_i, up_e, Int.toNat_natCast, tn7, tn8, tn12, tn3, tn120, tn1600, w32_and, w32_or, w32_xor, w32_shl, w32_shr, has2_eq, x02, e42] at hcp) <;> (try (exfalso; first | omega | exact hcp rfl | exact hcp trivial | contradiction))))
          refine post_bnde b1 ?_
          cases b
          · simp only [Bool.false_eq_true, ↓reduceIte]
            repeat' (first | with_reducible refine post_lt ?_ | (with_reducible refine post_chk ?_ ?_; focus ((try simp (disch := omega) only [Bool.false_eq_true, not_true_eq_false, not_false_eq_true, Nat.reduceAdd, Nat.reduceMul, w32_eq, w64_eq, lc_eq, lc_lt, lc_le, lc_gt, lc_ge, up_k, up_i, up_e, Int.toNat_natCast, tn7, tn8, tn12, tn3, tn120, tn1600, w32_and, w32_or, w32_xor, w32_shl, w32_shr, has2_eq]) <;> omega)) | (with_reducible refine post_ite (fun hcp => ?_) (fun hcp => ?_) <;> (try simp (disch := omega) only [Bool.false_eq_true, not_true_eq_false, not_false_eq_true, Nat.reduceAdd, Nat.reduceMul, w32_eq, w64_eq, lc_eq, lc_lt, lc_le, lc_gt, lc_ge, up_k, up_i, up_e, Int.toNat_natCast, tn7, tn8, tn12, tn3, tn120, tn1600, w32_and, w32_or, w32_xor, w32_shl, w32_shr, has2_eq] at hcp) <;> (try (exfalso; first | omega | exact hcp rfl | exact hcp trivial | contradiction))))
            simp only [Int.toNat_natCast]
            exact next X2 0 hx2 (fun _ _ => rfl) (smv_0 (fun z => by have := b3.mpr z.2; cases this)).symm
          · simp only [↓reduceIte]
            obtain ⟨X3, M3, p1, -, p2, p3, p4, -⟩ := pick_any hR hx2 (QM_refl M) h hvv
            repeat' (first | with_reducible refine post_lt ?_ | (with_reducible refine post_chk ?_ ?_; focus ((try simp (disch := omega) only [Bool.false_eq_true, not_true_eq_false, not_false_eq_true, Nat.reduceAdd, Nat.reduceMul, w32_eq, w64_eq, lc_eq, lc_lt, lc_le, lc_gt, lc_ge, up_k, up_i, up_e, Int.toNat_natCast, tn7, tn8, tn12, tn3, tn120, tn1600, w32_and, w32_or, w32_xor, w32_shl, w32_shr, has2_eq]) <;> omega)) | (with_reducible refine post_ite (fun hcp => ?_) (fun hcp => ?_) <;> (try simp (disch := omega) only [Bool.false_eq_true, not_true_eq_false, not_false_eq_true, Nat.reduceAdd, Nat.reduceMul, w32_eq, w64_eq, lc_eq, lc_lt, lc_le, lc_gt, lc_ge, up_k, up_i, up_e, Int.toNat_natCast, tn7, tn8, tn12, tn3, tn120, tn1600, w32_and, w32_or, w32_xor, w32_shl, w32_shr, has2_eq] at hcp) <;> (try (exfalso; first | omega | exact hcp rfl | exact hcp trivial | contradiction))))
            refine post_bnd2e p1 ?_
            have hmax : j_Math_max_7cf53 0 (pkv X s v) = some (if 0 < pkv X s v then pkv X s v else 0) := by
              unfold j_Math_max_7cf53
              rw [w32_0, w32_eq (by omega) (by omega)]
              split <;> rfl
            refine post_bnde hmax ?_
            repeat' (first | with_reducible refine post_lt ?_ | (with_reducible refine post_chk ?_ ?_; focus ((try simp (disch := omega) only [Bool.false_eq_true, not_true_eq_false, not_false_eq_true, Nat.reduceAdd, Nat.reduceMul, w32_eq, w64_eq, lc_eq, lc_lt, lc_le, lc_gt, lc_ge, up_k, up_i, up_e, Int.toNat_natCast, tn7, tn8, tn12, tn3, tn120, tn1600, w32_and, w32_or, w32_xor, w32_shl, w32_shr, has2_eq]) <;> omega)) | (with_reducible refine post_ite (fun hcp => ?_) (fun hcp => ?_) <;> (try simp (disch := omega) only [Bool.false_eq_true, not_true_eq_false, not_false_eq_true, Nat.reduceAdd, Nat.reduceMul, w32_eq, w64_eq, lc_eq, lc_lt, lc_le, lc_gt, lc_ge, up_k, up_i, up_e, Int.toNat_natCast, tn7, tn8, tn12, tn3, tn120, tn1600, w32_and, w32_or, w32_xor, w32_shl, w32_shr, has2_eq] at hcp) <;> (try (exfalso; first | omega | exact hcp rfl | exact hcp trivial | contradiction))))
            simp only [Int.toNat_natCast]
            exact next X3 _ (QX_trans hx2 (QX_s p4)) (fun a ha => p4 a (by omega) (by omega)) (smv_val h1 (b3.mp rfl)).symm
        · repeat' (first | with_reducible refine post_lt ?_ | (with_reducible refine post_chk ?_ ?_; focus ((try simp (disch := omega) only [Bool.false_eq_true, not_true_eq_false, not_false_eq_true, Nat.reduceAdd, Nat.reduceMul, w32_eq, w64_eq, lc_eq, lc_lt, lc_le, lc_gt, lc_ge, up_k, up_i, up_e, Int.toNat_natCast, tn7, tn8, tn12, tn3, tn120, tn1600, w32_and, w32_or, w32_xor, w32_shl, w32_shr, has2_eq, x02, e42]) <;> omega)) | (with_reducible refine post_ite (fun hcp => ?_) (fun hcp => ?_) <;> (try simp (disch := omega) only [Bool.false_eq_true, not_true_eq_false, not_false_eq_true, Nat.reduceAdd, Nat.reduceMul, w32_eq, w64_eq, lc_eq, lc_lt, lc_le, lc_gt, lc_ge, up_k, up_i, up_e, Int.toNat_natCast, tn7, tn8, tn12, tn3, tn120, tn1600, w32_and, w32_or, w32_xor, w32_shl, w32_shr, has2_eq, x02, e42] at hcp) <;> (try (exfalso; first | omega | exact hcp rfl | exact hcp trivial | contradiction))))
          simp only [Int.toNat_natCast]
          exact next X2 0 hx2 (fun _ _ => rfl) (smv_0 (fun z => h1 z.1)).symm
      · repeat' (first | with_reducible refine post_lt ?_ | (with_reducible refine post_chk ?_ ?_; focus ((try simp (disch := omega) only [Bool.false_eq_true, not_true_eq_false, not_false_eq_true, Nat.reduceAdd, Nat.reduceMul, w32_eq, w64_eq, lc_eq, lc_lt, lc_le, lc_gt, lc_ge, up_k, up_i, up_e, Int.toNat_natCast, tn7, tn8, tn12, tn3, tn120, tn1600, w32_and, w32_or, w32_xor, w32_shl, w32_shr, has2_eq, x02]) <;> omega)) | (with_reducible refine post_ite (fun hcp => ?_) (fun hcp => ?_) <;> (try simp (disch := omega) only [Bool.false_eq_true, not_true_eq_false, not_false_eq_true, Nat.reduceAdd, Nat.reduceMul, w32_eq, w64_eq, lc_eq, lc_lt, lc_le, lc_gt, lc_ge, up_k, up_i, up_e, Int.toNat_natCast, tn7, tn8, tn12, tn3, tn120, tn1600, w32_and, w32_or, w32_xor, w32_shl, w32_shr, has2_eq, x02] at hcp) <;> (try (exfalso; first | omega | exact hcp rfl | exact hcp trivial | contradiction))))
        refine post_some ⟨hx2, fun t u ht hu => ?_⟩
        by_cases e : t = s
        · subst e; exact hrow u (by omega)
        · exact hsum2 t u (by omega) hu
    · rintro ⟨v2, X4⟩ ⟨g1, g2⟩
      simp only at g1 g2 ⊢
      repeat' (first | with_reducible refine post_lt ?_ | (with_reducible refine post_chk ?_ ?_; focus ((try simp (disch := omega) only [Bool.false_eq_true, not_true_eq_false, not_false_eq_true, Nat.reduceAdd, Nat.reduceMul, w32_eq, w64_eq, lc_eq, lc_lt, lc_le, lc_gt, lc_ge, up_k, up_i, up_e, Int.toNat_natCast, tn7, tn8, tn12, tn3, tn120, tn1600, w32_and, w32_or, w32_xor, w32_shl, w32_shr, has2_eq]) <;> omega)) | (with_reducible refine post_ite (fun hcp => ?_) (fun hcp => ?_) <;> (try simp (disch := omega) only [Bool.false_eq_true, not_true_eq_false, not_false_eq_true, Nat.reduceAdd, Nat.reduceMul, w32_eq, w64_eq, lc_eq, lc_lt, lc_le, lc_gt, lc_ge, up_k, up_i, up_e, Int.toNat_natCast, tn7, tn8, tn12, tn3, tn120, tn1600, w32_and, w32_or, w32_xor, w32_shl, w32_shr, has2_eq] at hcp) <;> (try (exfalso; first | omega | exact hcp rfl | exact hcp trivial | contradiction))))
      exact ih (ns - (s + 1)) _ _ (by omega) ⟨s + 1, rfl, by omega, rfl, g1, g2⟩
  · repeat' (first | with_reducible refine post_lt ?_ | (with_reducible refine post_chk ?_ ?_; focus ((try simp (disch := omega) only [Bool.false_eq_true, not_true_eq_false, not_false_eq_true, Nat.reduceAdd, Nat.reduceMul, w32_eq, w64_eq, lc_eq, lc_lt, lc_le, lc_gt, lc_ge, up_k, up_i, up_e, Int.toNat_natCast, tn7, tn8, tn12, tn3, tn120, tn1600, w32_and, w32_or, w32_xor, w32_shl, w32_shr, has2_eq, x21]) <;> omega)) | (with_reducible refine post_ite (fun hcp => ?_) (fun hcp => ?_) <;> (try simp (disch := omega) only [Bool.false_eq_true, not_true_eq_false, not_false_eq_true, Nat.reduceAdd, Nat.reduceMul, w32_eq, w64_eq, lc_eq, lc_lt, lc_le, lc_gt, lc_ge, up_k, up_i, up_e, Int.toNat_natCast, tn7, tn8, tn12, tn3, tn120, tn1600, w32_and, w32_or, w32_xor, w32_shl, w32_shr, has2_eq, x21] at hcp) <;> (try (exfalso; first | omega | exact hcp rfl | exact hcp trivial | contradiction))))
    exact post_some ⟨hx, fun s v hs hv => hsum s v (by omega) hv⟩
