/-! THE PURE PART: needed -/
theorem cnt_single {n v : Nat} : cnt (fun k => decide (k = v)) n = if v < n then 1 else 0 := by
  induction n with
  | zero => simp [cnt]
  | succ n ih =>
    rw [cnt, ih]
    by_cases h : n = v
    · subst h; simp
    · rw [if_neg (c := decide (n = v) = true) (by simpa using h)]
      by_cases h2 : v < n
      · rw [if_pos h2, if_pos (by omega)]
      · rw [if_neg h2, if_neg (by omega)]
theorem one_iff {p : Nat → Bool} {n v : Nat} (hv : v < n) : (cnt p n = 1 ∧ p v = true) ↔ ∀ k, k < n → (p k = true ↔ k = v) := by
  constructor
  · rintro ⟨h1, h2⟩ k hk
    constructor
    · intro h
      apply Classical.byContradiction
      intro hne
      have a := cnt_flip (p := fun j => if j = k then false else p j) (q := p) hk (fun j _ hj => by simp [hj]) (by simp) h
      have b := cnt_flip (p := fun j => if j = v then false else if j = k then false else p j) (q := fun j => if j = k then false else p j) hv (fun j _ hj => by simp [hj]) (by simp) (by show (if v = k then false else p v) = true; rw [if_neg (fun e => hne e.symm)]; exact h2)
      omega
    · intro h; rw [h]; exact h2
  · intro h
    have e : cnt p n = cnt (fun k => decide (k = v)) n := cnt_ext (fun k hk => by
      have := h k hk
      cases hp : p k
      · exact (decide_eq_false (fun z => by rw [this.mpr z] at hp; cases hp)).symm
      · exact (decide_eq_true (this.mp hp)).symm)
    rw [e, cnt_single, if_pos hv]
    exact ⟨rfl, (h v hv).mpr rfl⟩
theorem x_needing {nv np ns bk k v : Nat} {X M : Mem} (hR : RAll nv np ns bk k X M) (hv : v < nv) :
    post (x_Matching_needing (v : Int) X) (fun r => r.1 = ((cnt (fun s => decide (∀ k, k < nv → (decide (0 < smv ns X s k) = true ↔ k = v))) ns : Nat) : Int) ∧ QX X r.2) := by
  have hns := hR.1.1.2.2.2.2
  have hnv := hR.1.1.2.2.1
  have x0 := hR.1.2.1.1
  have x2 := hR.1.2.1.2.2
  unfold x_Matching_needing
  refine post_bnd (x_fill hR) ?_
  rintro X1 ⟨hx, hsum⟩
  have x21 : X1 23 2 = (ns : Int) := by rw [hx 23 (by omega) (by omega) (by omega) (by omega) (by omega)]; exact x2
  have x01 : X1 23 0 = (nv : Int) := by rw [hx 23 (by omega) (by omega) (by omega) (by omega) (by omega)]; exact x0
  refine post_bnd (post_itr2 (fun n (i j : Int) => ∃ c : Nat, j = (c : Int) ∧ i = (cnt (fun s => decide (∀ k, k < nv → (decide (0 < smv ns X s k) = true ↔ k = v))) c : Nat) ∧ c ≤ ns ∧ n = ns - c) (fun (a : Int × Int) => a.1 = ((cnt (fun s => decide (∀ k, k < nv → (decide (0 < smv ns X s k) = true ↔ k = v))) ns : Nat) : Int)) ?_ FUEL ns 0 0 (fuel_lt (by omega)) ⟨0, rfl, rfl, by omega, rfl⟩) (fun a h => post_some ⟨h, hx⟩)
  rintro n i j ⟨s, rfl, rfl, hs, rfl⟩ F ih
  unfold x_Matching_needing_L8
  by_cases h : s < ns
  · have yes : (∀ k, k < nv → (decide (0 < smv ns X s k) = true ↔ k = v)) → post (F (((cnt (fun s => decide (∀ k, k < nv → (decide (0 < smv ns X s k) = true ↔ k = v))) s : Nat) : Int) + 1) ((s : Int) + 1)) (fun (a : Int × Int) => a.1 = ((cnt (fun s => decide (∀ k, k < nv → (decide (0 < smv ns X s k) = true ↔ k = v))) ns : Nat) : Int)) := fun z => by
      refine ih (ns - (s + 1)) _ _ (by omega) ⟨s + 1, rfl, ?_, by omega, rfl⟩
      rw [cnt, if_pos (decide_eq_true z)]; rfl
    have no : ¬ (∀ k, k < nv → (decide (0 < smv ns X s k) = true ↔ k = v)) → post (F (((cnt (fun s => decide (∀ k, k < nv → (decide (0 < smv ns X s k) = true ↔ k = v))) s : Nat) : Int)) ((s : Int) + 1)) (fun (a : Int × Int) => a.1 = ((cnt (fun s => decide (∀ k, k < nv → (decide (0 < smv ns X s k) = true ↔ k = v))) ns : Nat) : Int)) := fun z => by
      refine ih (ns - (s + 1)) _ _ (by omega) ⟨s + 1, rfl, ?_, by omega, rfl⟩
      rw [cnt, if_neg (fun y => z (of_decide_eq_true y))]; rfl
    have hone := one_iff (p := fun k => decide (0 < smv ns X s k)) hv
    have hb := smv_b hR h hv
    have e : X1 (342 + s) v = smv ns X s v := hsum s v h hv
    repeat' (first | with_reducible refine post_lt ?_ | (with_reducible refine post_chk ?_ ?_; focus ((try simp (disch := omega) only [Bool.false_eq_true, not_true_eq_false, not_false_eq_true, Nat.reduceAdd, Nat.reduceMul, w32_eq, w64_eq, lc_eq, lc_lt, lc_le, lc_gt, lc_ge, up_k, up_i, up_e, Int.toNat_natCast, tn7, tn8, tn12, tn3, tn120, tn1600, w32_and, w32_or, w32_xor, w32_shl, w32_shr, has2_eq, x21]) <;> omega)) | (with_reducible refine post_ite (fun hcp => ?_) (fun hcp => ?_) <;> (try simp (disch := omega) only [Bool.false_eq_true, not_true_eq_false, not_false_eq_true, Nat.reduceAdd, Nat.reduceMul, w32_eq, w64_eq, lc_eq, lc_lt, lc_le, lc_gt, lc_ge, up_k, up_i, up_e, Int.toNat_natCast, tn7, tn8, tn12, tn3, tn120, tn1600, w32_and, w32_or, w32_xor, w32_shl, w32_shr, has2_eq, x21] at hcp) <;> (try (exfalso; first | omega | exact hcp rfl | exact hcp trivial | contradiction))))
    refine post_bnd (post_itr2 (fun n (i j : Int) => ∃ c : Nat, j = (c : Int) ∧ i = (cnt (fun k => decide (0 < smv ns X s k)) c : Nat) ∧ c ≤ nv ∧ n = nv - c) (fun (a : Int × Int) => a.1 = ((cnt (fun k => decide (0 < smv ns X s k)) nv : Nat) : Int)) ?_ FUEL nv 0 0 (fuel_lt (by omega)) ⟨0, rfl, rfl, by omega, rfl⟩) ?_
    · rintro n i j ⟨c, rfl, rfl, hc, rfl⟩ G ih2
      unfold x_Matching_needing_L25
      by_cases h2 : c < nv
      · have e2 : X1 (342 + s) c = smv ns X s c := hsum s c h h2
        have hb2 := smv_b hR h h2
        repeat' (first | with_reducible refine post_lt ?_ | (with_reducible refine post_chk ?_ ?_; focus ((try simp (disch := omega) only [Bool.false_eq_true, not_true_eq_false, not_false_eq_true, Nat.reduceAdd, Nat.reduceMul, w32_eq, w64_eq, lc_eq, lc_lt, lc_le, lc_gt, lc_ge, up_k, up_i, up_e, Int.toNat_natCast, tn7, tn8, tn12, tn3, tn120, tn1600, w32_and, w32_or, w32_xor, w32_shl, w32_shr, has2_eq, x01, e2]) <;> omega)) | (with_reducible refine post_ite (fun hcp => ?_) (fun hcp => ?_) <;> (try simp (disch := omega) only [Bool.false_eq_true, not_true_eq_false, not_false_eq_true, Nat.reduceAdd, Nat.reduceMul, w32_eq, w64_eq, lc_eq, lc_lt, lc_le, lc_gt, lc_ge, up_k, up_i, up_e, Int.toNat_natCast, tn7, tn8, tn12, tn3, tn120, tn1600, w32_and, w32_or, w32_xor, w32_shl, w32_shr, has2_eq, x01, e2] at hcp) <;> (try (exfalso; first | omega | exact hcp rfl | exact hcp trivial | contradiction))))
        · refine ih2 (nv - (c + 1)) _ _ (by omega) ⟨c + 1, rfl, ?_, by omega, rfl⟩
          rw [cnt, if_neg (by simpa using hcp)]; rfl
        · refine ih2 (nv - (c + 1)) _ _ (by omega) ⟨c + 1, rfl, ?_, by omega, rfl⟩
          rw [cnt, if_pos (by simpa using hcp)]; rfl
      · repeat' (first | with_reducible refine post_lt ?_ | (with_reducible refine post_chk ?_ ?_; focus ((try simp (disch := omega) only [Bool.false_eq_true, not_true_eq_false, not_false_eq_true, Nat.reduceAdd, Nat.reduceMul, w32_eq, w64_eq, lc_eq, lc_lt, lc_le, lc_gt, lc_ge, up_k, up_i, up_e, Int.toNat_natCast, tn7, tn8, tn12, tn3, tn120, tn1600, w32_and, w32_or, w32_xor, w32_shl, w32_shr, has2_eq, x01]) <;> omega)) | (with_reducible refine post_ite (fun hcp => ?_) (fun hcp => ?_) <;> (try simp (disch := omega) only [Bool.false_eq_true, not_true_eq_false, not_false_eq_true, Nat.reduceAdd, Nat.reduceMul, w32_eq, w64_eq, lc_eq, lc_lt, lc_le, lc_gt, lc_ge, up_k, up_i, up_e, Int.toNat_natCast, tn7, tn8, tn12, tn3, tn120, tn1600, w32_and, w32_or, w32_xor, w32_shl, w32_shr, has2_eq, x01] at hcp) <;> (try (exfalso; first | omega | exact hcp rfl | exact hcp trivial | contradiction))))
        have : c = nv := by omega
        subst this
        exact post_some rfl
    · rintro ⟨able, c⟩ ha
      simp only at ha ⊢
      subst ha
      have hle := cnt_le (fun k => decide (0 < smv ns X s k)) nv
      repeat' (first | with_reducible refine post_lt ?_ | (with_reducible refine post_chk ?_ ?_; focus ((try simp (disch := omega) only [Bool.false_eq_true, not_true_eq_false, not_false_eq_true, Nat.reduceAdd, Nat.reduceMul, w32_eq, w64_eq, lc_eq, lc_lt, lc_le, lc_gt, lc_ge, up_k, up_i, up_e, Int.toNat_natCast, tn7, tn8, tn12, tn3, tn120, tn1600, w32_and, w32_or, w32_xor, w32_shl, w32_shr, has2_eq, e]) <;> omega)) | (with_reducible refine post_ite (fun hcp => ?_) (fun hcp => ?_) <;> (try simp (disch := omega) only [Bool.false_eq_true, not_true_eq_false, not_false_eq_true, Nat.reduceAdd, Nat.reduceMul, w32_eq, w64_eq, lc_eq, lc_lt, lc_le, lc_gt, lc_ge, up_k, up_i, up_e, Int.toNat_natCast, tn7, tn8, tn12, tn3, tn120, tn1600, w32_and, w32_or, w32_xor, w32_shl, w32_shr, has2_eq, e] at hcp) <;> (try (exfalso; first | omega | exact hcp rfl | exact hcp trivial | contradiction))))
      · exact no (fun z => by have := (hone.mpr z).1; omega)
      · exact no (fun z => by have := of_decide_eq_true (hone.mpr z).2; omega)
      · exact yes (hone.mp ⟨by omega, decide_eq_true (by omega)⟩)
  · repeat' (first | with_reducible refine post_lt ?_ | (with_reducible refine post_chk ?_ ?_; focus ((try simp (disch := omega) only [Bool.false_eq_true, not_true_eq_false, not_false_eq_true, Nat.reduceAdd, Nat.reduceMul, w32_eq, w64_eq, lc_eq, lc_lt, lc_le, lc_gt, lc_ge, up_k, up_i, up_e, Int.toNat_natCast, tn7, tn8, tn12, tn3, tn120, tn1600, w32_and, w32_or, w32_xor, w32_shl, w32_shr, has2_eq, x21]) <;> omega)) | (with_reducible refine post_ite (fun hcp => ?_) (fun hcp => ?_) <;> (try simp (disch := omega) only [Bool.false_eq_true, not_true_eq_false, not_false_eq_true, Nat.reduceAdd, Nat.reduceMul, w32_eq, w64_eq, lc_eq, lc_lt, lc_le, lc_gt, lc_ge, up_k, up_i, up_e, Int.toNat_natCast, tn7, tn8, tn12, tn3, tn120, tn1600, w32_and, w32_or, w32_xor, w32_shl, w32_shr, has2_eq, x21] at hcp) <;> (try (exfalso; first | omega | exact hcp rfl | exact hcp trivial | contradiction))))
    have : s = ns := by omega
    subst this
    exact post_some rfl
theorem m_does {nv np ns bk k s v : Nat} {X M M1 : Mem} (hR : RAll nv np ns bk k X M) (hm : QM M M1) (hs : s < ns) (hv : v < nv) :
    post (m_doesNeed (s : Int) (v : Int) M1) (fun r => (r.1 = true ↔ (∀ j, j < nv → Free ns 38 X j → (0 < pkv X s j ↔ j = v)) ∧ Free ns 38 X v) ∧ QM M r.2) := by
  have hnv := hR.1.1.2.2.1
  unfold m_doesNeed
  refine post_bnd (post_itr2 (fun n (i : Int) M2 => ∃ c : Nat, i = (c : Int) ∧ c ≤ nv ∧ n = nv - c ∧ QM M M2 ∧ (∀ j, j < c → Free ns 38 X j → (0 < pkv X s j ↔ j = v))) (fun p => (∃ M2, QM M M2 ∧ p = .inl (false, M2) ∧ ¬ (∀ j, j < nv → Free ns 38 X j → (0 < pkv X s j ↔ j = v))) ∨ (∃ u M2, QM M M2 ∧ p = .inr (u, M2) ∧ (∀ j, j < nv → Free ns 38 X j → (0 < pkv X s j ↔ j = v)))) ?_ FUEL nv 0 M1 (fuel_lt (by omega)) ⟨0, rfl, by omega, rfl, hm, fun j hj => by omega⟩) ?_
  · rintro n i M2 ⟨c, rfl, hc, rfl, hm2, hall⟩ F ih
    have hR2 := RAll_q hR (QX_refl X) hm2
    obtain ⟨⟨tb, tb2, tnv, tnp, tns⟩, ⟨x0, x1, x2⟩, ⟨m0, m1, m2⟩, -⟩ := hR2.1
    unfold m_doesNeed_L2 m_doesNeed_L2_B41
    by_cases h : c < nv
    · obtain ⟨b, -, b2, b3⟩ := free_any hR (QX_refl X) hm2 h
      repeat' (first | with_reducible refine post_lt ?_ | (with_reducible refine post_chk ?_ ?_; focus ((try simp (disch := omega) only [Bool.false_eq_true, not_true_eq_false, not_false_eq_true, Nat.reduceAdd, Nat.reduceMul, w32_eq, w64_eq, lc_eq, lc_lt, lc_le, lc_gt, lc_ge, up_k, up_i, up_e, Int.toNat_natCast, tn7, tn8, tn12, tn3, tn120, tn1600, w32_and, w32_or, w32_xor, w32_shl, w32_shr, has2_eq, tb, m0]) <;> omega)) | (with_reducible refine post_ite (fun hcp => ?_) (fun hcp => ?_) <;> (try simp (disch := omega) only [Bool.false_eq_true, not_true_eq_false, not_false_eq_true, Nat.reduceAdd, Nat.reduceMul, w32_eq, w64_eq, lc_eq, lc_lt, lc_le, lc_gt, lc_ge, up_k, up_i, up_e, Int.toNat_natCast, tn7, tn8, tn12, tn3, tn120, tn1600, w32_and, w32_or, w32_xor, w32_shl, w32_shr, has2_eq, tb, m0] at hcp) <;> (try (exfalso; first | omega | exact hcp rfl | exact hcp trivial | contradiction))))
      refine post_bnde b2 ?_
      cases b
      · simp only [Bool.false_eq_true, ↓reduceIte]
        repeat' (first | with_reducible refine post_lt ?_ | (with_reducible refine post_chk ?_ ?_; focus ((try simp (disch := omega) only [Bool.false_eq_true, not_true_eq_false, not_false_eq_true, Nat.reduceAdd, Nat.reduceMul, w32_eq, w64_eq, lc_eq, lc_lt, lc_le, lc_gt, lc_ge, up_k, up_i, up_e, Int.toNat_natCast, tn7, tn8, tn12, tn3, tn120, tn1600, w32_and, w32_or, w32_xor, w32_shl, w32_shr, has2_eq]) <;> omega)) | (with_reducible refine post_ite (fun hcp => ?_) (fun hcp => ?_) <;> (try simp (disch := omega) only [Bool.false_eq_true, not_true_eq_false, not_false_eq_true, Nat.reduceAdd, Nat.reduceMul, w32_eq, w64_eq, lc_eq, lc_lt, lc_le, lc_gt, lc_ge, up_k, up_i, up_e, Int.toNat_natCast, tn7, tn8, tn12, tn3, tn120, tn1600, w32_and, w32_or, w32_xor, w32_shl, w32_shr, has2_eq] at hcp) <;> (try (exfalso; first | omega | exact hcp rfl | exact hcp trivial | contradiction))))
        refine ih (nv - (c + 1)) _ _ (by omega) ⟨c + 1, rfl, by omega, rfl, hm2, fun j hj hf => ?_⟩
        by_cases e : j = c
        · subst e; have := b3.mpr hf; cases this
        · exact hall j (by omega) hf
      · simp only [↓reduceIte]
        obtain ⟨X3, M3, -, p1, p2, p3, -, p4⟩ := pick_any hR (QX_refl X) hm2 hs h
        refine post_bnd2e p1 ?_
        have hm3 := QM_trans hm2 (QM_s p4)
        have go : (0 < pkv X s c ↔ c = v) → post (F ((c : Int) + 1) M3) (fun p => (∃ M2, QM M M2 ∧ p = .inl (false, M2) ∧ ¬ (∀ j, j < nv → Free ns 38 X j → (0 < pkv X s j ↔ j = v))) ∨ (∃ u M2, QM M M2 ∧ p = .inr (u, M2) ∧ (∀ j, j < nv → Free ns 38 X j → (0 < pkv X s j ↔ j = v)))) := fun z => by
          refine ih (nv - (c + 1)) _ _ (by omega) ⟨c + 1, rfl, by omega, rfl, hm3, fun j hj hf => ?_⟩
          by_cases e : j = c
          · subst e; exact z
          · exact hall j (by omega) hf
        have st : ¬ (0 < pkv X s c ↔ c = v) → post (some (Sum.inl (false, M3) : (Bool × Mem) ⊕ (Int × Mem))) (fun p => (∃ M2, QM M M2 ∧ p = .inl (false, M2) ∧ ¬ (∀ j, j < nv → Free ns 38 X j → (0 < pkv X s j ↔ j = v))) ∨ (∃ u M2, QM M M2 ∧ p = .inr (u, M2) ∧ (∀ j, j < nv → Free ns 38 X j → (0 < pkv X s j ↔ j = v)))) := fun z => post_some (Or.inl ⟨M3, hm3, rfl, fun y => z (y c h (b3.mp rfl))⟩)
        repeat' (first | with_reducible refine post_lt ?_ | (with_reducible refine post_chk ?_ ?_; focus ((try simp (disch := omega) only [Bool.false_eq_true, not_true_eq_false, not_false_eq_true, Nat.reduceAdd, Nat.reduceMul, w32_eq, w64_eq, lc_eq, lc_lt, lc_le, lc_gt, lc_ge, up_k, up_i, up_e, Int.toNat_natCast, tn7, tn8, tn12, tn3, tn120, tn1600, w32_and, w32_or, w32_xor, w32_shl, w32_shr, has2_eq]) <;> omega)) | (with_reducible refine post_ite (fun hcp => ?_) (fun hcp => ?_) <;> (try simp (disch := omega) only [Bool.false_eq_true, not_true_eq_false, not_false_eq_true, Nat.reduceAdd, Nat.reduceMul, w32_eq, w64_eq, lc_eq, lc_lt, lc_le, lc_gt, lc_ge, up_k, up_i, up_e, Int.toNat_natCast, tn7, tn8, tn12, tn3, tn120, tn1600, w32_and, w32_or, w32_xor, w32_shl, w32_shr, has2_eq] at hcp) <;> (try (exfalso; first | omega | exact hcp rfl | exact hcp trivial | contradiction))))
        · exact go (by omega)
        · exact st (by omega)
        · exact st (by omega)
        · exact go (by omega)
    · repeat' (first | with_reducible refine post_lt ?_ | (with_reducible refine post_chk ?_ ?_; focus ((try simp (disch := omega) only [Bool.false_eq_true, not_true_eq_false, not_false_eq_true, Nat.reduceAdd, Nat.reduceMul, w32_eq, w64_eq, lc_eq, lc_lt, lc_le, lc_gt, lc_ge, up_k, up_i, up_e, Int.toNat_natCast, tn7, tn8, tn12, tn3, tn120, tn1600, w32_and, w32_or, w32_xor, w32_shl, w32_shr, has2_eq, tb, m0]) <;> omega)) | (with_reducible refine post_ite (fun hcp => ?_) (fun hcp => ?_) <;> (try simp (disch := omega) only [Bool.false_eq_true, not_true_eq_false, not_false_eq_true, Nat.reduceAdd, Nat.reduceMul, w32_eq, w64_eq, lc_eq, lc_lt, lc_le, lc_gt, lc_ge, up_k, up_i, up_e, Int.toNat_natCast, tn7, tn8, tn12, tn3, tn120, tn1600, w32_and, w32_or, w32_xor, w32_shl, w32_shr, has2_eq, tb, m0] at hcp) <;> (try (exfalso; first | omega | exact hcp rfl | exact hcp trivial | contradiction))))
      exact post_some (Or.inr ⟨_, M2, hm2, rfl, fun j hj => hall j (by omega)⟩)
  · rintro p (⟨M2, q1, rfl, q2⟩ | ⟨u, M2, q1, rfl, q2⟩)
    · exact post_some ⟨⟨fun z => (by cases z), fun z => absurd z.1 q2⟩, q1⟩
    · simp only
      obtain ⟨b, -, b2, b3⟩ := free_any hR (QX_refl X) q1 hv
      refine post_bnde b2 ?_
      exact post_some ⟨⟨fun z => ⟨q2, b3.mp z⟩, fun z => b3.mpr z.2⟩, q1⟩
theorem ls_needed : LS_needed RR := by
  rintro k X M a1 hk h1 ⟨nv, np, ns, bk, hR⟩
  apply ls_of
  unfold i32 at h1
  have hns := hR.1.1.2.2.2.2
  have hnv := hR.1.1.2.2.1
  obtain ⟨e1, f1⟩ := xm_isVoice hR.1 h1
  unfold x_X_needed m_needed
  refine two_bnd_l e1 ?_
  refine two_bnd_r f1 ?_
  by_cases c1 : 0 ≤ a1 ∧ a1 < (nv : Int)
  · simp only [decide_eq_true c1, ↓reduceIte]
    obtain ⟨v, rfl⟩ := Int.eq_ofNat_of_zero_le c1.1
    have hv : v < nv := by omega
    rw [bnd2_id]
    obtain ⟨⟨r, X1⟩, hx1, hr, hx⟩ := x_needing hR hv
    simp only at hr hx
    rw [hx1]
    refine two_ofpost (post_some ?_)
    have key : post (itr3 (m_needed_L14 (v : Int)) FUEL 0 0 M) (fun p => p.1 = ((cnt (fun s => decide (∀ k, k < nv → (decide (0 < smv ns X s k) = true ↔ k = v))) ns : Nat) : Int) ∧ QM M p.2.2) := by
      refine post_itr3 (fun n (i j : Int) M1 => ∃ c : Nat, j = (c : Int) ∧ i = (cnt (fun s => decide (∀ k, k < nv → (decide (0 < smv ns X s k) = true ↔ k = v))) c : Nat) ∧ c ≤ ns ∧ n = ns - c ∧ QM M M1) _ ?_ FUEL ns 0 0 M (fuel_lt (by omega)) ⟨0, rfl, rfl, by omega, rfl, QM_refl M⟩
      rintro n i j M1 ⟨s, rfl, rfl, hs, rfl, hm⟩ F ih
      have hR1 := RAll_q hR (QX_refl X) hm
      obtain ⟨⟨tb, tb2, tnv, tnp, tns⟩, ⟨x0, x1, x2⟩, ⟨m0, m1, m2⟩, -⟩ := hR1.1
      unfold m_needed_L14
      by_cases h : s < ns
      · have w4 : M1 29 s = X 42 s := by have := hR1.2.1.2.2.2.1 s h; simpa using this
        have i4 : 0 ≤ X 42 s ∧ X 42 s ≤ 5 := hR.2.2.1.2.2.2.1 s h
        have yes : ∀ M2, QM M M2 → (∀ k, k < nv → (decide (0 < smv ns X s k) = true ↔ k = v)) → post (F (((cnt (fun s => decide (∀ k, k < nv → (decide (0 < smv ns X s k) = true ↔ k = v))) s : Nat) : Int) + 1) ((s : Int) + 1) M2) (fun p => p.1 = ((cnt (fun s => decide (∀ k, k < nv → (decide (0 < smv ns X s k) = true ↔ k = v))) ns : Nat) : Int) ∧ QM M p.2.2) := fun M2 hm2 z => by
          refine ih (ns - (s + 1)) _ _ _ (by omega) ⟨s + 1, rfl, ?_, by omega, rfl, hm2⟩
          rw [cnt, if_pos (decide_eq_true z)]; rfl
        have no : ∀ M2, QM M M2 → ¬ (∀ k, k < nv → (decide (0 < smv ns X s k) = true ↔ k = v)) → post (F (((cnt (fun s => decide (∀ k, k < nv → (decide (0 < smv ns X s k) = true ↔ k = v))) s : Nat) : Int) + 0) ((s : Int) + 1) M2) (fun p => p.1 = ((cnt (fun s => decide (∀ k, k < nv → (decide (0 < smv ns X s k) = true ↔ k = v))) ns : Nat) : Int) ∧ QM M p.2.2) := fun M2 hm2 z => by
          rw [Int.add_zero]
          refine ih (ns - (s + 1)) _ _ _ (by omega) ⟨s + 1, rfl, ?_, by omega, rfl, hm2⟩
          rw [cnt, if_neg (fun y => z (of_decide_eq_true y))]; rfl
        by_cases hw : X 42 s = 1
        · repeat' (first | with_reducible refine post_lt ?_ | (with_reducible refine post_chk ?_ ?_; focus ((try simp (disch := omega) only [Bool.false_eq_true, not_true_eq_false, not_false_eq_true, Nat.reduceAdd, Nat.reduceMul, w32_eq, w64_eq, lc_eq, lc_lt, lc_le, lc_gt, lc_ge, up_k, up_i, up_e, Int.toNat_natCast, tn7, tn8, tn12, tn3, tn120, tn1600, w32_and, w32_or, w32_xor, w32_shl, w32_shr, has2_eq, tb, m2, w4]) <;> omega)) | (with_reducible refine post_ite (fun hcp => ?_) (fun hcp => ?_) <;> (try simp (disch := omega) only [Bool.false_eq_true, not_true_eq_false, not_false_eq_true, Nat.reduceAdd, Nat.reduceMul, w32_eq, w64_eq, lc_eq, lc_lt, lc_le, lc_gt, lc_ge, up_k, up_i, up_e, Int.toNat_natCast, tn7, tn8, tn12, tn3, tn120, tn1600, w32_and, w32_or, w32_xor, w32_shl, w32_shr, has2_eq, tb, m2, w4] at hcp) <;> (try (exfalso; first | omega | exact hcp rfl | exact hcp trivial | contradiction))))
          refine post_bnd2 (m_does hR hm h hv) ?_
          rintro b M2 ⟨q1, q2⟩
          simp only at q1 q2
          have hiff : (∀ k, k < nv → (decide (0 < smv ns X s k) = true ↔ k = v)) ↔ b = true := by
            rw [q1]
            have hp : ∀ j, (decide (0 < smv ns X s j) = true) ↔ (Free ns 38 X j ∧ 0 < pkv X s j) := fun j => by
              rw [decide_eq_true_eq, smv_pos]
              exact ⟨fun z => z.2, fun z => ⟨hw, z⟩⟩
            constructor
            · intro z
              refine ⟨fun j hj hf => ⟨fun y => (z j hj).mp ((hp j).mpr ⟨hf, y⟩), fun y => ((hp j).mp ((z j hj).mpr y)).2⟩, ((hp v).mp ((z v hv).mpr rfl)).1⟩
            · rintro ⟨z1, z2⟩ j hj
              rw [hp j]
              exact ⟨fun y => (z1 j hj y.1).mp y.2, fun y => by subst y; exact ⟨z2, (z1 j hj z2).mpr rfl⟩⟩
          cases b
          · simp only [Bool.false_eq_true, ↓reduceIte]
            exact no M2 q2 (fun z => by have := hiff.mp z; cases this)
          · simp only [↓reduceIte]
            exact yes M2 q2 (hiff.mpr rfl)
        · repeat' (first | with_reducible refine post_lt ?_ | (with_reducible refine post_chk ?_ ?_; focus ((try simp (disch := omega) only [Bool.false_eq_true, not_true_eq_false, not_false_eq_true, Nat.reduceAdd, Nat.reduceMul, w32_eq, w64_eq, lc_eq, lc_lt, lc_le, lc_gt, lc_ge, up_k, up_i, up_e, Int.toNat_natCast, tn7, tn8, tn12, tn3, tn120, tn1600, w32_and, w32_or, w32_xor, w32_shl, w32_shr, has2_eq, tb, m2, w4]) <;> omega)) | (with_reducible refine post_ite (fun hcp => ?_) (fun hcp => ?_) <;> (try simp (disch := omega) only [Bool.false_eq_true, not_true_eq_false, not_false_eq_true, Nat.reduceAdd, Nat.reduceMul, w32_eq, w64_eq, lc_eq, lc_lt, lc_le, lc_gt, lc_ge, up_k, up_i, up_e, Int.toNat_natCast, tn7, tn8, tn12, tn3, tn120, tn1600, w32_and, w32_or, w32_xor, w32_shl, w32_shr, has2_eq, tb, m2, w4] at hcp) <;> (try (exfalso; first | omega | exact hcp rfl | exact hcp trivial | contradiction))))
          exact no M1 hm (fun z => by
            have := of_decide_eq_true ((z v hv).mpr rfl)
            rw [smv_0 (fun y => hw y.1)] at this
            omega)
      · repeat' (first | with_reducible refine post_lt ?_ | (with_reducible refine post_chk ?_ ?_; focus ((try simp (disch := omega) only [Bool.false_eq_true, not_true_eq_false, not_false_eq_true, Nat.reduceAdd, Nat.reduceMul, w32_eq, w64_eq, lc_eq, lc_lt, lc_le, lc_gt, lc_ge, up_k, up_i, up_e, Int.toNat_natCast, tn7, tn8, tn12, tn3, tn120, tn1600, w32_and, w32_or, w32_xor, w32_shl, w32_shr, has2_eq, tb, m2]) <;> omega)) | (with_reducible refine post_ite (fun hcp => ?_) (fun hcp => ?_) <;> (try simp (disch := omega) only [Bool.false_eq_true, not_true_eq_false, not_false_eq_true, Nat.reduceAdd, Nat.reduceMul, w32_eq, w64_eq, lc_eq, lc_lt, lc_le, lc_gt, lc_ge, up_k, up_i, up_e, Int.toNat_natCast, tn7, tn8, tn12, tn3, tn120, tn1600, w32_and, w32_or, w32_xor, w32_shl, w32_shr, has2_eq, tb, m2] at hcp) <;> (try (exfalso; first | omega | exact hcp rfl | exact hcp trivial | contradiction))))
        have : s = ns := by omega
        subst this
        exact post_some ⟨rfl, hm⟩
    refine post_bnd key ?_
    rintro ⟨a, b, M1⟩ ⟨q1, q2⟩
    simp only at q1 q2 ⊢
    refine post_some ⟨?_, nv, np, ns, bk, RAll_up (RAll_q hR hx q2)⟩
    rw [hr, q1]
  · simp only [decide_eq_false c1, Bool.false_eq_true, ↓reduceIte]
    exact two_some ⟨rfl, nv, np, ns, bk, RAll_up hR⟩
