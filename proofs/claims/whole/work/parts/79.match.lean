/-! THE PURE PART: match -/
/-- the voice that fits a best row, the first one -/
noncomputable def fitsBest (ns : Nat) (X X1 : Mem) (s t v : Nat) : Prop := 0 < fitv ns X s v t ∧ fitv ns X s v t + X1 (328 + (s + 1)) (t ||| 2 ^ v) = X1 (328 + s) t
def FirstB (nv ns : Nat) (X X1 : Mem) (s t : Nat) (r : Int) : Prop :=
  (X1 (328 + (s + 1)) t = X1 (328 + s) t ∧ r = -1) ∨ (X1 (328 + (s + 1)) t ≠ X1 (328 + s) t ∧ ∃ v : Nat, v < nv ∧ r = (v : Int) ∧ fitsBest ns X X1 s t v ∧ ∀ u, u < v → ¬ fitsBest ns X X1 s t u) ∨
  (X1 (328 + (s + 1)) t ≠ X1 (328 + s) t ∧ r = -1 ∧ ∀ u, u < nv → ¬ fitsBest ns X X1 s t u)
theorem FirstB_uniq {nv ns s t : Nat} {X X1 : Mem} {r q : Int} (h : FirstB nv ns X X1 s t r) (g : FirstB nv ns X X1 s t q) : r = q := by
  rcases h with ⟨a1, a2⟩ | ⟨a1, v, a2, a3, a4, a5⟩ | ⟨a1, a2, a3⟩ <;> rcases g with ⟨b1, b2⟩ | ⟨b1, w, b2, b3, b4, b5⟩ | ⟨b1, b2, b3⟩
  · omega
  · exact absurd a1 b1
  · exact absurd a1 b1
  · exact absurd b1 a1
  · have : v = w := by
      apply Classical.byContradiction
      intro hne
      rcases Nat.lt_or_gt_of_ne hne with h | h
      · exact b5 v h a4
      · exact a5 w h b4
    omega
  · exact absurd a4 (b3 v a2)
  · exact absurd b1 a1
  · exact absurd b4 (a3 w b2)
  · omega
theorem x_first {nv np ns bk k s t : Nat} {X M X1 M1 : Mem} (hR : RAll nv np ns bk k X M) (hx : QX X X1) (hB : BE ns 0 X1 M1) (hsum : SUMS nv ns X X1) (hs : s < ns) (ht : t < 128) :
    post (x_Matching_firstBest (s : Int) (t : Int) X1) (fun r => FirstB nv ns X X1 s t r) := by
  have hns := hR.1.1.2.2.2.2
  have hnv := hR.1.1.2.2.1
  have x01 : X1 23 0 = (nv : Int) := by rw [hx 23 (by omega) (by omega) (by omega) (by omega) (by omega)]; exact hR.1.2.1.1
  obtain ⟨-, q1, q2⟩ := hB s t (by omega) (by omega) ht
  obtain ⟨-, q3, q4⟩ := hB (s + 1) t (by omega) (by omega) ht
  have e1 : (((s : Int) + 1)).toNat = s + 1 := by omega
  have hB1 : BE ns (s + 1) X1 M1 := fun s' t' r1 r2 r3 => hB s' t' (by omega) r2 r3
  unfold x_Matching_firstBest
  rw [chk_p (by omega), chk_p (by omega), chk_p (by omega), chk_p (by omega), e1, Int.toNat_natCast, Int.toNat_natCast, w32_eq (by omega) (by omega), w32_eq (by omega) (by omega)]
  by_cases he : X1 (328 + (s + 1)) t = X1 (328 + s) t
  · rw [if_neg (fun z => z he)]
    exact post_some (Or.inl ⟨he, rfl⟩)
  · rw [if_pos he]
    refine post_bnd (post_itr1 (fun n (i : Int) => ∃ c : Nat, i = (c : Int) ∧ c ≤ nv ∧ n = nv - c ∧ ∀ u, u < c → ¬ fitsBest ns X X1 s t u) (fun p => (∃ r, p = .inl r ∧ FirstB nv ns X X1 s t r) ∨ (∃ r, p = .inr r ∧ FirstB nv ns X X1 s t (-1))) ?_ FUEL nv 0 (fuel_lt (by omega)) ⟨0, rfl, by omega, rfl, fun u hu => by omega⟩) ?_
    · rintro n i ⟨v, rfl, hv, rfl, hno⟩ F ih
      unfold x_Matching_firstBest_L25
      by_cases h : v < nv
      · obtain ⟨b1, b2, b3⟩ := tk_bits t ht v (by omega)
        have hf := fitv_b (t := t) hR hs h
        obtain ⟨-, r1, r2⟩ := hB (s + 1) (t ||| 2 ^ v) (by omega) (by omega) b3
        repeat' (first | with_reducible refine post_lt ?_ | (with_reducible refine post_chk ?_ ?_; focus ((try simp (disch := omega) only [Bool.false_eq_true, not_true_eq_false, not_false_eq_true, Nat.reduceAdd, Nat.reduceMul, w32_eq, w64_eq, lc_eq, lc_lt, lc_le, lc_gt, lc_ge, up_k, up_i, up_e, Int.toNat_natCast, tn7, tn8, tn12, tn3, tn120, tn1600, w32_and, w32_or, w32_xor, w32_shl, w32_shr, has2_eq, x01]) <;> omega)) | (with_reducible refine post_ite (fun hcp => ?_) (fun hcp => ?_) <;> (try simp (disch := omega) only [Bool.false_eq_true, not_true_eq_false, not_false_eq_true, Nat.reduceAdd, Nat.reduceMul, w32_eq, w64_eq, lc_eq, lc_lt, lc_le, lc_gt, lc_ge, up_k, up_i, up_e, Int.toNat_natCast, tn7, tn8, tn12, tn3, tn120, tn1600, w32_and, w32_or, w32_xor, w32_shl, w32_shr, has2_eq, x01] at hcp) <;> (try (exfalso; first | omega | exact hcp rfl | exact hcp trivial | contradiction))))
        refine post_bnde (x_sumWith hR hs h ht hB1 hsum) ?_
        rw [chk_p (by omega), chk_p (by omega), Int.toNat_natCast, Int.toNat_natCast, w32_eq (x := X1 (328 + s) t) (by omega) (by omega)]
        by_cases hpos : 0 < fitv ns X s v t
        · rw [if_pos hpos, w32_eq (by omega) (by omega)]
          by_cases hq : fitv ns X s v t + X1 (328 + (s + 1)) (t ||| 2 ^ v) = X1 (328 + s) t
          · rw [if_neg (fun z => z hq)]
            exact post_some (Or.inl ⟨_, rfl, Or.inr (Or.inl ⟨he, v, h, rfl, ⟨hpos, hq⟩, hno⟩)⟩)
          · rw [if_pos hq]
            refine ih (nv - (v + 1)) _ (by omega) ⟨v + 1, rfl, by omega, rfl, fun u hu => ?_⟩
            by_cases e : u = v
            · subst e; exact fun z => hq z.2
            · exact hno u (by omega)
        · rw [if_neg hpos, w32_eq (by omega) (by omega), if_pos (by omega)]
          refine ih (nv - (v + 1)) _ (by omega) ⟨v + 1, rfl, by omega, rfl, fun u hu => ?_⟩
          by_cases e : u = v
          · subst e; exact fun z => hpos z.1
          · exact hno u (by omega)
      · repeat' (first | with_reducible refine post_lt ?_ | (with_reducible refine post_chk ?_ ?_; focus ((try simp (disch := omega) only [Bool.false_eq_true, not_true_eq_false, not_false_eq_true, Nat.reduceAdd, Nat.reduceMul, w32_eq, w64_eq, lc_eq, lc_lt, lc_le, lc_gt, lc_ge, up_k, up_i, up_e, Int.toNat_natCast, tn7, tn8, tn12, tn3, tn120, tn1600, w32_and, w32_or, w32_xor, w32_shl, w32_shr, has2_eq, x01]) <;> omega)) | (with_reducible refine post_ite (fun hcp => ?_) (fun hcp => ?_) <;> (try simp (disch := omega) only [Bool.false_eq_true, not_true_eq_false, not_false_eq_true, Nat.reduceAdd, Nat.reduceMul, w32_eq, w64_eq, lc_eq, lc_lt, lc_le, lc_gt, lc_ge, up_k, up_i, up_e, Int.toNat_natCast, tn7, tn8, tn12, tn3, tn120, tn1600, w32_and, w32_or, w32_xor, w32_shl, w32_shr, has2_eq, x01] at hcp) <;> (try (exfalso; first | omega | exact hcp rfl | exact hcp trivial | contradiction))))
        exact post_some (Or.inr ⟨_, rfl, Or.inr (Or.inr ⟨he, rfl, fun u hu => hno u (by omega)⟩)⟩)
    · rintro p (⟨r, rfl, hr⟩ | ⟨r, rfl, hr⟩)
      · exact post_some hr
      · exact post_some hr
theorem m_first {nv np ns bk k s t : Nat} {X M X1 M1 : Mem} {a1 : Int} (hR : RAll nv np ns bk k X M) (hm : QM M M1) (hB : BE ns 0 X1 M1) (hs : s < ns) (ht : t < 128) :
    post (itr3 (m_match_L240 a1 (t : Int) (s : Int) (X1 (328 + s) t)) FUEL (-1) 0 M1) (fun p => FirstB nv ns X X1 s t p.1 ∧ QM M p.2.2 ∧ p.2.2 40 = M1 40) := by
  have hns := hR.1.1.2.2.2.2
  have hnv := hR.1.1.2.2.1
  obtain ⟨-, q1, q2⟩ := hB s t (by omega) (by omega) ht
  obtain ⟨q5, q3, q4⟩ := hB (s + 1) t (by omega) (by omega) ht
  refine post_itr3 (fun n (a i : Int) M2 => ∃ c : Nat, i = (c : Int) ∧ c ≤ nv ∧ n = nv - c ∧ QM M M2 ∧ M2 40 = M1 40 ∧ ((a = -1 ∧ (∀ u, u < c → ¬ fitsBest ns X X1 s t u) ∧ (0 < c → X1 (328 + (s + 1)) t ≠ X1 (328 + s) t)) ∨ (0 ≤ a ∧ a < 7 ∧ FirstB nv ns X X1 s t a))) _ ?_ FUEL nv (-1) 0 M1 (fuel_lt (by omega)) ⟨0, rfl, by omega, rfl, hm, rfl, Or.inl ⟨rfl, fun u hu => by omega, fun h => by omega⟩⟩
  rintro n a i M2 ⟨v, rfl, hv, rfl, hm2, h40, ha⟩ F ih
  have hR2 := RAll_q hR (QX_refl X) hm2
  obtain ⟨⟨tb, tb2, tnv, tnp, tns⟩, ⟨x0, x1, x2⟩, ⟨m0, m1, m2⟩, -⟩ := hR2.1
  have n1 : (128 * ((s : Int) + 1) + (t : Int)).toNat = 128 * (s + 1) + t := by omega
  unfold m_match_L240 m_from
  rcases ha with ⟨rfl, hno, hne⟩ | ⟨ha1, ha2, hfb⟩
  · by_cases h : v < nv
    · obtain ⟨b1, b2, b3⟩ := tk_bits t ht v (by omega)
      have hf := fitv_b (t := t) hR hs h
      obtain ⟨r0, r1, r2⟩ := hB (s + 1) (t ||| 2 ^ v) (by omega) (by omega) b3
      obtain ⟨⟨f, M3⟩, p1, p2, p3⟩ := m_fits_eq (t := t) hR hm2 hs h
      simp only at p2 p3
      have n2 : (128 * ((s : Int) + 1) + ((t ||| 2 ^ v : Nat) : Int)).toNat = 128 * (s + 1) + (t ||| 2 ^ v) := by omega
      have hB3 : M3 40 = M1 40 := by rw [p3 40 (by omega) (by omega)]; exact h40
      repeat' (first | with_reducible refine post_lt ?_ | (with_reducible refine post_chk ?_ ?_; focus ((try simp (disch := omega) only [Bool.false_eq_true, not_true_eq_false, not_false_eq_true, Nat.reduceAdd, Nat.reduceMul, w32_eq, w64_eq, lc_eq, lc_lt, lc_le, lc_gt, lc_ge, up_k, up_i, up_e, Int.toNat_natCast, tn7, tn8, tn12, tn3, tn120, tn1600, w32_and, w32_or, w32_xor, w32_shl, w32_shr, has2_eq, tb, m0]) <;> omega)) | (with_reducible refine post_ite (fun hcp => ?_) (fun hcp => ?_) <;> (try simp (disch := omega) only [Bool.false_eq_true, not_true_eq_false, not_false_eq_true, Nat.reduceAdd, Nat.reduceMul, w32_eq, w64_eq, lc_eq, lc_lt, lc_le, lc_gt, lc_ge, up_k, up_i, up_e, Int.toNat_natCast, tn7, tn8, tn12, tn3, tn120, tn1600, w32_and, w32_or, w32_xor, w32_shl, w32_shr, has2_eq, tb, m0] at hcp) <;> (try (exfalso; first | omega | exact hcp rfl | exact hcp trivial | contradiction))))
      simp only [bnd_some]
      rw [chk_p (by omega), n1, h40, ← q5, w32_eq (by omega) (by omega), w32_eq (by omega) (by omega)]
      by_cases he : X1 (328 + (s + 1)) t = X1 (328 + s) t
      · rw [if_pos he]
        exact post_some ⟨Or.inl ⟨he, rfl⟩, hm2, h40⟩
      · rw [if_neg he]
        refine post_bnd2e p1 ?_
        rw [p2]
        have hm3 := QM_trans hm2 (QM_s p3)
        have hstep : ¬ fitsBest ns X X1 s t v → post (F (-1) ((v : Int) + 1) M3) (fun p => FirstB nv ns X X1 s t p.1 ∧ QM M p.2.2 ∧ p.2.2 40 = M1 40) := fun z => by
          refine ih (nv - (v + 1)) _ _ _ (by omega) ⟨v + 1, rfl, by omega, rfl, hm3, hB3, Or.inl ⟨rfl, fun u hu => ?_, fun _ => he⟩⟩
          by_cases e : u = v
          · subst e; exact z
          · exact hno u (by omega)
        by_cases hpos : 0 < fitv ns X s v t
        · rw [if_neg (by rw [w32_eq (by omega) (by omega)]; omega)]
          simp only [b2]
          rw [chk_p (by omega), n2, hB3, ← r0, w32_eq (by omega) (by omega)]
          by_cases hq : fitv ns X s v t + X1 (328 + (s + 1)) (t ||| 2 ^ v) = X1 (328 + s) t
          · rw [if_neg (fun z => z hq)]
            exact ih (nv - (v + 1)) _ _ _ (by omega) ⟨v + 1, rfl, by omega, rfl, hm3, hB3, Or.inr ⟨by omega, by omega, Or.inr (Or.inl ⟨he, v, h, rfl, ⟨hpos, hq⟩, hno⟩)⟩⟩
          · rw [if_pos hq]
            exact hstep (fun z => hq z.2)
        · rw [if_pos (by rw [w32_eq (by omega) (by omega)]; omega)]
          exact hstep (fun z => hpos z.1)
    · repeat' (first | with_reducible refine post_lt ?_ | (with_reducible refine post_chk ?_ ?_; focus ((try simp (disch := omega) only [Bool.false_eq_true, not_true_eq_false, not_false_eq_true, Nat.reduceAdd, Nat.reduceMul, w32_eq, w64_eq, lc_eq, lc_lt, lc_le, lc_gt, lc_ge, up_k, up_i, up_e, Int.toNat_natCast, tn7, tn8, tn12, tn3, tn120, tn1600, w32_and, w32_or, w32_xor, w32_shl, w32_shr, has2_eq, tb, m0]) <;> omega)) | (with_reducible refine post_ite (fun hcp => ?_) (fun hcp => ?_) <;> (try simp (disch := omega) only [Bool.false_eq_true, not_true_eq_false, not_false_eq_true, Nat.reduceAdd, Nat.reduceMul, w32_eq, w64_eq, lc_eq, lc_lt, lc_le, lc_gt, lc_ge, up_k, up_i, up_e, Int.toNat_natCast, tn7, tn8, tn12, tn3, tn120, tn1600, w32_and, w32_or, w32_xor, w32_shl, w32_shr, has2_eq, tb, m0] at hcp) <;> (try (exfalso; first | omega | exact hcp rfl | exact hcp trivial | contradiction))))
      by_cases he : X1 (328 + (s + 1)) t = X1 (328 + s) t
      · exact post_some ⟨Or.inl ⟨he, rfl⟩, hm2, h40⟩
      · exact post_some ⟨Or.inr (Or.inr ⟨he, rfl, fun u hu => hno u (by omega)⟩), hm2, h40⟩
  · repeat' (first | with_reducible refine post_lt ?_ | (with_reducible refine post_chk ?_ ?_; focus ((try simp (disch := omega) only [Bool.false_eq_true, not_true_eq_false, not_false_eq_true, Nat.reduceAdd, Nat.reduceMul, w32_eq, w64_eq, lc_eq, lc_lt, lc_le, lc_gt, lc_ge, up_k, up_i, up_e, Int.toNat_natCast, tn7, tn8, tn12, tn3, tn120, tn1600, w32_and, w32_or, w32_xor, w32_shl, w32_shr, has2_eq, tb, m0]) <;> omega)) | (with_reducible refine post_ite (fun hcp => ?_) (fun hcp => ?_) <;> (try simp (disch := omega) only [Bool.false_eq_true, not_true_eq_false, not_false_eq_true, Nat.reduceAdd, Nat.reduceMul, w32_eq, w64_eq, lc_eq, lc_lt, lc_le, lc_gt, lc_ge, up_k, up_i, up_e, Int.toNat_natCast, tn7, tn8, tn12, tn3, tn120, tn1600, w32_and, w32_or, w32_xor, w32_shl, w32_shr, has2_eq, tb, m0] at hcp) <;> (try (exfalso; first | omega | exact hcp rfl | exact hcp trivial | contradiction))))
    · exact post_some ⟨hfb, hm2, h40⟩
    · exact post_some ⟨hfb, hm2, h40⟩
theorem ls_match : LS_match RR := by
  rintro k X M a1 hk h1 ⟨nv, np, ns, bk, hR⟩
  apply ls_of
  unfold i32 at h1
  have hns := hR.1.1.2.2.2.2
  have hnv := hR.1.1.2.2.1
  obtain ⟨e1, f1⟩ := xm_isSaying hR.1 h1
  unfold x_X_match m_match
  by_cases c1 : a1 = -1
  · subst c1
    rw [if_neg (by simp), if_pos rfl, bnd2_id]
    unfold x_Matching_bestSum
    refine best_all hR (-1) (fun _ => none) ?_
    intro X1 M1 hx hm hB hs
    rw [if_neg (by simp)]
    obtain ⟨q1, q2, q3⟩ := hB 0 0 (by omega) (by omega) (by omega)
    refine two_some ⟨?_, nv, np, ns, bk, RAll_up (RAll_q hR hx hm)⟩
    show w32 (X1 (328 + 0) 0) = w32 (M1 40 0)
    rw [q1]
  · rw [if_pos (by rw [w32_eq (by omega) (by omega), w32_eq (by omega) (by omega)]; exact c1), if_neg (by rw [w32_eq (by omega) (by omega), w32_eq (by omega) (by omega)]; exact c1)]
    refine two_bnd_l e1 ?_
    refine two_bnd_r f1 ?_
    by_cases c2 : 0 ≤ a1 ∧ a1 < (ns : Int)
    · simp only [decide_eq_true c2, ↓reduceIte]
      rw [bnd2_id]
      obtain ⟨y, rfl⟩ := Int.eq_ofNat_of_zero_le c2.1
      unfold x_Matching_voiceFor
      refine best_all hR (y : Int) (fun _ => none) ?_
      intro X1 M1 hx hm hB hs
      rw [if_pos (by rw [w32_eq (by omega) (by omega), w32_eq (by omega) (by omega)]; exact c1)]
      refine two_bnd (two_itr34 (fun n (a b c : Int) (d e f : Int) M2 => ∃ t s : Nat, a = (t : Int) ∧ d = (t : Int) ∧ t < 128 ∧ b = e ∧ c = (s : Int) ∧ f = (s : Int) ∧ s ≤ y + 1 ∧ n = y + 1 - s ∧ QM M M2 ∧ M2 40 = M1 40) (fun p q => p.2.1 = q.2.1 ∧ QM M q.2.2.2) ?_ FUEL (y + 1) 0 (-1) 0 0 (-1) 0 M1 (fuel_lt (by omega)) ⟨0, 0, rfl, rfl, by omega, rfl, rfl, rfl, by omega, rfl, hm, rfl⟩) ?_
      · rintro n a b c d e f M2 ⟨t, s, rfl, rfl, ht, rfl, rfl, rfl, hsy, rfl, hm2, h40⟩ F G ih
        unfold x_Matching_voiceFor_L11 m_match_L216 m_from
        by_cases h : s < y + 1
        · have hsn : s < ns := by omega
          have hB2 : BE ns 0 X1 M2 := by unfold BE; rw [h40]; exact hB
          obtain ⟨q1, q2, q3⟩ := hB2 s t (by omega) (by omega) ht
          have n2 : (128 * (s : Int) + (t : Int)).toNat = 128 * s + t := by omega
          obtain ⟨r, x_1, r2⟩ := x_first hR hx hB2 hs hsn ht
          obtain ⟨⟨r', u, M3⟩, y1, y2, y3, y4⟩ := m_first (a1 := (y : Int)) hR hm2 hB2 hsn ht
          simp only at y2 y3 y4
          have hrr := FirstB_uniq y2 r2
          subst hrr
          have hrb : r' = -1 ∨ ∃ v : Nat, v < 7 ∧ r' = (v : Int) := by
            rcases y2 with ⟨-, h⟩ | ⟨-, v, h1, h2, -⟩ | ⟨-, h, -⟩
            · exact Or.inl h
            · exact Or.inr ⟨v, by omega, h2⟩
            · exact Or.inl h
          repeat' (first | with_reducible refine two_lt_l ?_ | (with_reducible refine two_chk_l ?_ ?_; focus ((try simp (disch := omega) only [Bool.false_eq_true, not_true_eq_false, not_false_eq_true, Nat.reduceAdd, Nat.reduceMul, w32_eq, w64_eq, lc_eq, lc_lt, lc_le, lc_gt, lc_ge, up_k, up_i, up_e, Int.toNat_natCast, tn7, tn8, tn12, tn3, tn120, tn1600, w32_and, w32_or, w32_xor, w32_shl, w32_shr, has2_eq]) <;> omega)) | (with_reducible refine two_ite_l (fun hcl => ?_) (fun hcl => ?_) <;> (try simp (disch := omega) only [Bool.false_eq_true, not_true_eq_false, not_false_eq_true, Nat.reduceAdd, Nat.reduceMul, w32_eq, w64_eq, lc_eq, lc_lt, lc_le, lc_gt, lc_ge, up_k, up_i, up_e, Int.toNat_natCast, tn7, tn8, tn12, tn3, tn120, tn1600, w32_and, w32_or, w32_xor, w32_shl, w32_shr, has2_eq] at hcl) <;> (try (exfalso; first | omega | exact hcl rfl | exact hcl trivial | contradiction))))
          refine two_bnd_l x_1 ?_
          repeat' (first | with_reducible refine two_lt_r ?_ | (with_reducible refine two_chk_r ?_ ?_; focus ((try simp (disch := omega) only [Bool.false_eq_true, not_true_eq_false, not_false_eq_true, Nat.reduceAdd, Nat.reduceMul, w32_eq, w64_eq, lc_eq, lc_lt, lc_le, lc_gt, lc_ge, up_k, up_i, up_e, Int.toNat_natCast, tn7, tn8, tn12, tn3, tn120, tn1600, w32_and, w32_or, w32_xor, w32_shl, w32_shr, has2_eq]) <;> omega)) | (with_reducible refine two_ite_r (fun hcr => ?_) (fun hcr => ?_) <;> (try simp (disch := omega) only [Bool.false_eq_true, not_true_eq_false, not_false_eq_true, Nat.reduceAdd, Nat.reduceMul, w32_eq, w64_eq, lc_eq, lc_lt, lc_le, lc_gt, lc_ge, up_k, up_i, up_e, Int.toNat_natCast, tn7, tn8, tn12, tn3, tn120, tn1600, w32_and, w32_or, w32_xor, w32_shl, w32_shr, has2_eq] at hcr) <;> (try (exfalso; first | omega | exact hcr rfl | exact hcr trivial | contradiction))))
          simp only [bnd_some]
          rw [chk_p (by omega)] 
          simp only [lt_eq, n2, ← q1]
          refine two_bnd_r y1 ?_
          simp only
          rcases hrb with rfl | ⟨v, hv, rfl⟩
          · rw [if_pos rfl, if_neg (by simp)]
            have ho : or32 (t : Int) 0 = (t : Int) := by
              have := or32_nat (n := t) (m := 0) (by omega) (by omega)
              simpa using this
            rw [ho]
            exact ih (y + 1 - (s + 1)) _ _ _ _ _ _ _ (by omega) ⟨t, s + 1, rfl, rfl, ht, rfl, rfl, rfl, by omega, rfl, y3, by rw [y4]; exact h40⟩
          · obtain ⟨b1, b2, b3⟩ := tk_bits t ht v hv
            rw [if_neg (by rw [w32_eq (by omega) (by omega), w32_eq (by omega) (by omega)]; omega), if_pos (by rw [w32_eq (by omega) (by omega), w32_eq (by omega) (by omega)]; omega), b2]
            exact ih (y + 1 - (s + 1)) _ _ _ _ _ _ _ (by omega) ⟨t ||| 2 ^ v, s + 1, rfl, rfl, b3, rfl, rfl, rfl, by omega, rfl, y3, by rw [y4]; exact h40⟩
        · repeat' (first | with_reducible refine two_lt_l ?_ | (with_reducible refine two_chk_l ?_ ?_; focus ((try simp (disch := omega) only [Bool.false_eq_true, not_true_eq_false, not_false_eq_true, Nat.reduceAdd, Nat.reduceMul, w32_eq, w64_eq, lc_eq, lc_lt, lc_le, lc_gt, lc_ge, up_k, up_i, up_e, Int.toNat_natCast, tn7, tn8, tn12, tn3, tn120, tn1600, w32_and, w32_or, w32_xor, w32_shl, w32_shr, has2_eq]) <;> omega)) | (with_reducible refine two_ite_l (fun hcl => ?_) (fun hcl => ?_) <;> (try simp (disch := omega) only [Bool.false_eq_true, not_true_eq_false, not_false_eq_true, Nat.reduceAdd, Nat.reduceMul, w32_eq, w64_eq, lc_eq, lc_lt, lc_le, lc_gt, lc_ge, up_k, up_i, up_e, Int.toNat_natCast, tn7, tn8, tn12, tn3, tn120, tn1600, w32_and, w32_or, w32_xor, w32_shl, w32_shr, has2_eq] at hcl) <;> (try (exfalso; first | omega | exact hcl rfl | exact hcl trivial | contradiction))))
          repeat' (first | with_reducible refine two_lt_r ?_ | (with_reducible refine two_chk_r ?_ ?_; focus ((try simp (disch := omega) only [Bool.false_eq_true, not_true_eq_false, not_false_eq_true, Nat.reduceAdd, Nat.reduceMul, w32_eq, w64_eq, lc_eq, lc_lt, lc_le, lc_gt, lc_ge, up_k, up_i, up_e, Int.toNat_natCast, tn7, tn8, tn12, tn3, tn120, tn1600, w32_and, w32_or, w32_xor, w32_shl, w32_shr, has2_eq]) <;> omega)) | (with_reducible refine two_ite_r (fun hcr => ?_) (fun hcr => ?_) <;> (try simp (disch := omega) only [Bool.false_eq_true, not_true_eq_false, not_false_eq_true, Nat.reduceAdd, Nat.reduceMul, w32_eq, w64_eq, lc_eq, lc_lt, lc_le, lc_gt, lc_ge, up_k, up_i, up_e, Int.toNat_natCast, tn7, tn8, tn12, tn3, tn120, tn1600, w32_and, w32_or, w32_xor, w32_shl, w32_shr, has2_eq] at hcr) <;> (try (exfalso; first | omega | exact hcr rfl | exact hcr trivial | contradiction))))
          exact two_some ⟨rfl, hm2⟩
      · rintro ⟨a, b, c⟩ ⟨d, e, f, M4⟩ ⟨z1, z2⟩
        exact two_some ⟨by rw [show b = e from z1], nv, np, ns, bk, RAll_up (RAll_q hR hx z2)⟩
    · simp only [decide_eq_false c2, Bool.false_eq_true, ↓reduceIte]
      exact two_some ⟨rfl, nv, np, ns, bk, RAll_up hR⟩
