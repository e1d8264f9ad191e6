/-! THE PURE PART: on: a saying, the reference takes it -/
theorem m_says2 {c p nv np ns bk : Nat} {X X1 W : Mem} (hT : RT nv np ns bk X W) (hc : c < ns) (hp : p + 7 ≤ 1600) (hb : ∀ j, j < 1600 → X 2 j = W 1 j ∧ 0 ≤ X 2 j ∧ X 2 j ≤ 255)
    (hrng : ∀ s, s < c → 0 ≤ W 29 (12 + s) ∧ W 29 (12 + s) ≤ 5 ∧ -1 ≤ W 32 (12 + s) ∧ W 32 (12 + s) ≤ 255) (hfr : ∀ v, v < nv → ((¬ and32 (shr32 (W 28 1) (v : Int)) 1 = 1 ∧ Alone c v W) ↔ Fre ns X1 v)) (h33 : W 33 (12 + c) = X 2 (p + 5)) (hr1 : X 2 p ≤ 5) (hr6 : X 2 (p + 6) ≤ 1) :
    post (m_sayingOn_B192 (c : Int) (p : Int) (12 + (c : Int)) (X 2 p) (X 2 (p + 4)) W) (fun r => r.2 = W ∧ (r.1 = true ↔ ((((X 2 p = 2 ∨ X 2 p = 3 ∨ X 2 p = 5) ∧ X 2 (p + 4) < (nv : Int)) ∨ (¬ (X 2 p = 2 ∨ X 2 p = 3 ∨ X 2 p = 5) ∧ X 2 (p + 4) = 255 ∧ X 2 (p + 6) = 0)) ∧
      ((X 2 p = 2 ∧ Fre ns X1 (X 2 (p + 4)).toNat ∧ 1 ≤ X 2 (p + 5) ∧ X 2 (p + 5) ≤ X 31 c) ∨ (¬ X 2 p = 2 ∧ X 2 (p + 5) = 0))))) := by
  have hns := hT.1.2.2.2.2
  have hnv := hT.1.2.2.1
  have tb := hT.1.1
  have tb2 := hT.1.2.1
  obtain ⟨-, -, -, -, -, -, y10, y11, y12⟩ := hT.2.2.2.2.2.2.1 c hc
  have z0 := hb p (by omega)
  have z4 := hb (p + 4) (by omega)
  have z5 := hb (p + 5) (by omega)
  have z6 := hb (p + 6) (by omega)
  have t12 : (12 + (c : Int)).toNat = 12 + c := by omega
  have t6 : ((p : Int) + 6).toNat = p + 6 := by omega
  have tm : (12 * (bk : Int) + (c : Int)).toNat = 12 * bk + c := tn12
  have e6 : W 1 (p + 6) = X 2 (p + 6) := z6.1.symm
  obtain ⟨u, hu⟩ := Int.eq_ofNat_of_zero_le z4.2.1
  have ht : (X 2 (p + 4)).toNat = u := by omega
  have hvo := (xm_isVoice (a := X 2 (p + 4)) hT (by omega)).2
  unfold m_sayingOn_B192 m_sayingOn_B287
  rw [t12, t6, h33, e6]
  by_cases q : X 2 p = 2
  · rw [if_neg (by rw [q]; exact fun z => z rfl)]
    refine post_bnde hvo ?_
    by_cases c1 : 0 ≤ X 2 (p + 4) ∧ X 2 (p + 4) < (nv : Int)
    · rw [decide_eq_true c1, if_pos rfl]
      have hu7 : u < nv := by omega
      refine post_bnde has2_eq ?_
      have hfu := hfr u hu7
      rw [hu]
      by_cases hb1 : and32 (shr32 (W 28 1) ((u : Nat) : Int)) 1 = 1
      · rw [decide_eq_true hb1, if_pos rfl]
        refine post_some ⟨rfl, fun z => (by cases z), fun z => ?_⟩
        obtain ⟨-, k7⟩ := z
        rcases k7 with k7 | k7
        · exact absurd hb1 (hfu.mpr (by rw [← Int.toNat_natCast u]; exact k7.2.1)).1
        · exact absurd q k7.1
      · rw [decide_eq_false hb1, if_neg Bool.false_ne_true]
        obtain ⟨b, eb, hbA⟩ := m_alone (c := c) (v := u) (M := W) (by omega) (by omega) hrng
        refine post_bnde eb ?_
        cases b with
        | false =>
          rw [if_neg Bool.false_ne_true]
          refine post_some ⟨rfl, fun z => (by cases z), fun z => ?_⟩
          obtain ⟨-, k7⟩ := z
          rcases k7 with k7 | k7
          · have := hbA.mpr (hfu.mpr (by rw [← Int.toNat_natCast u]; exact k7.2.1)).2
            cases this
          · exact absurd q k7.1
        | true =>
          rw [if_pos rfl]
          have hF : Fre ns X1 ((u : Nat) : Int).toNat := by rw [Int.toNat_natCast]; exact hfu.mp ⟨hb1, hbA.mp rfl⟩
          rw [tb, tm, y10]
          refine post_chk (by omega) ?_
          refine post_chk (by omega) ?_
          refine post_bnde (m_is_eq (by omega) (by omega) (by omega)) ?_
          by_cases c2 : 1 ≤ X 2 (p + 5) ∧ X 2 (p + 5) ≤ X 31 c
          · rw [decide_eq_true c2, if_pos rfl]
            exact post_some ⟨rfl, fun _ => ⟨Or.inl ⟨Or.inl q, by omega⟩, Or.inl ⟨q, hF, c2⟩⟩, fun _ => rfl⟩
          · rw [decide_eq_false c2, if_neg Bool.false_ne_true]
            refine post_some ⟨rfl, fun z => (by cases z), fun z => ?_⟩
            obtain ⟨-, k7⟩ := z
            rcases k7 with k7 | k7
            · exact absurd k7.2.2 c2
            · exact absurd q k7.1
    · rw [decide_eq_false c1, if_neg Bool.false_ne_true]
      refine post_some ⟨rfl, fun z => (by cases z), fun z => ?_⟩
      obtain ⟨k6, -⟩ := z
      omega
  · rw [if_pos (by rw [w32_eq (by omega) (by omega), w32_eq (by omega) (by omega)]; exact q)]
    have no : ∀ P : Prop, ¬ P → post (some (false, W)) (fun r : Bool × Mem => r.2 = W ∧ (r.1 = true ↔ P)) := fun P hP => post_some ⟨rfl, fun z => (by cases z), fun z => absurd z hP⟩
    repeat' (first | with_reducible refine post_lt ?_ | (with_reducible refine post_chk ?_ ?_; focus ((try simp (disch := omega) only [Bool.false_eq_true, not_true_eq_false, not_false_eq_true, Nat.reduceAdd, Nat.reduceMul, w32_eq, w64_eq, lc_eq, lc_lt, lc_le, lc_gt, lc_ge, up_k, up_i, up_e, Int.toNat_natCast, tn7, tn8, tn12, tn3, tn120, tn1600, w32_and, w32_or, w32_xor, w32_shl, w32_shr, has2_eq]) <;> omega)) | (with_reducible refine post_ite (fun hcp => ?_) (fun hcp => ?_) <;> (try simp (disch := omega) only [Bool.false_eq_true, not_true_eq_false, not_false_eq_true, Nat.reduceAdd, Nat.reduceMul, w32_eq, w64_eq, lc_eq, lc_lt, lc_le, lc_gt, lc_ge, up_k, up_i, up_e, Int.toNat_natCast, tn7, tn8, tn12, tn3, tn120, tn1600, w32_and, w32_or, w32_xor, w32_shl, w32_shr, has2_eq] at hcp) <;> (try (exfalso; first | omega | exact hcp rfl | exact hcp trivial | contradiction))))
    · refine post_bnde hvo ?_
      refine post_some ⟨rfl, ?_⟩
      rw [decide_eq_true_eq]
      exact ⟨fun z => ⟨Or.inl ⟨by omega, z.2⟩, Or.inr ⟨q, by omega⟩⟩, fun z => by obtain ⟨k6, -⟩ := z; omega⟩
    · exact no _ (fun z => by obtain ⟨k6, -⟩ := z; omega)
    · exact no _ (fun z => by obtain ⟨k6, -⟩ := z; omega)
    · exact post_some ⟨rfl, fun _ => ⟨Or.inr ⟨by omega, by omega, by omega⟩, Or.inr ⟨q, by omega⟩⟩, fun _ => rfl⟩
    · refine post_bnde hvo ?_
      refine post_some ⟨rfl, ?_⟩
      rw [decide_eq_true_eq]
      exact ⟨fun z => ⟨Or.inl ⟨by omega, z.2⟩, Or.inr ⟨q, by omega⟩⟩, fun z => by obtain ⟨k6, -⟩ := z; omega⟩
    · exact no _ (fun z => by
        obtain ⟨-, k7⟩ := z
        rcases k7 with k7 | k7
        · exact q k7.1
        · omega)
