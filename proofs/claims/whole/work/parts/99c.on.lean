/-! THE PURE PART: on: a saying, the reference, whole -/
theorem m_saying_is {c p nv np ns bk : Nat} {X X1 M M1 : Mem} (hT : RT nv np ns bk X M1) (hf : FMt 1 M M1) (hc : c < ns) (hp : p + 7 ≤ 1600) (hb : ∀ j, j < 1600 → X 2 j = M 1 j ∧ 0 ≤ X 2 j ∧ X 2 j ≤ 255)
    (hrng : ∀ s, s < c → 0 ≤ M1 29 (12 + s) ∧ M1 29 (12 + s) ≤ 5 ∧ -1 ≤ M1 32 (12 + s) ∧ M1 32 (12 + s) ≤ 255) (hfr : ∀ v, v < nv → ((¬ and32 (shr32 (M1 28 1) (v : Int)) 1 = 1 ∧ Alone c v M1) ↔ Fre ns X1 v)) :
    post (m_sayingOn (c : Int) (p : Int) M1) (fun r => (r.1 = true ↔ SOk nv ns c X X1 p) ∧ FMt 1 M r.2 ∧ (∀ a, (a < 29 ∨ 34 < a) → r.2 a = M1 a) ∧ WroteM c p X M1 r.2) := by
  have hns := hT.1.2.2.2.2
  have hnv := hT.1.2.2.1
  have tape : M1 1 = M 1 := by funext i; exact hf 1 i (by omega)
  have z0 := hb p (by omega)
  have z1 := hb (p + 1) (by omega)
  have z2 := hb (p + 2) (by omega)
  have z3 := hb (p + 3) (by omega)
  have z4 := hb (p + 4) (by omega)
  have z5 := hb (p + 5) (by omega)
  have z6 := hb (p + 6) (by omega)
  have t12 : (12 + (c : Int)).toNat = 12 + c := by omega
  have t0 : (p : Int).toNat = p := Int.toNat_natCast p
  have t1 : ((p : Int) + 1).toNat = p + 1 := by omega
  have t2 : ((p : Int) + 2).toNat = p + 2 := by omega
  have t3 : ((p : Int) + 3).toNat = p + 3 := by omega
  have t4 : ((p : Int) + 4).toNat = p + 4 := by omega
  have t5 : ((p : Int) + 5).toNat = p + 5 := by omega
  have t6 : ((p : Int) + 6).toNat = p + 6 := by omega
  have ti : (1 : Int).toNat = 1 := rfl
  have y0 : M1 1 p = X 2 p := by rw [tape, z0.1]
  have y1 : M1 1 (p + 1) = X 2 (p + 1) := by rw [tape, z1.1]
  have y2 : M1 1 (p + 2) = X 2 (p + 2) := by rw [tape, z2.1]
  have y3 : M1 1 (p + 3) = X 2 (p + 3) := by rw [tape, z3.1]
  have y4 : M1 1 (p + 4) = X 2 (p + 4) := by rw [tape, z4.1]
  have y5 : M1 1 (p + 5) = X 2 (p + 5) := by rw [tape, z5.1]
  have y6 : M1 1 (p + 6) = X 2 (p + 6) := by rw [tape, z6.1]
  obtain ⟨q1, hq1⟩ := Int.eq_ofNat_of_zero_le z1.2.1
  obtain ⟨q2, hq2⟩ := Int.eq_ofNat_of_zero_le z2.2.1
  have pr : or32 (shl32 (X 2 (p + 1)) 8) (X 2 (p + 2)) = ((256 * q1 + q2 : Nat) : Int) := by rw [hq1, hq2]; exact pair_small q1 (by omega) q2 (by omega)
  obtain ⟨D, hD⟩ : ∃ D, D = or32 (shl32 (X 2 (p + 1)) 8) (X 2 (p + 2)) := ⟨_, rfl⟩
  have dr : 0 ≤ D ∧ D ≤ 70000 := by rw [hD, pr]; omega
  have l12 : ∀ a, 29 ≤ a → a ≤ 33 → lay a (12 + c) = 1 := fun a g1 g2 => lay12 (v := 1) (s := c) (a := a) (by omega) (by omega)
  have l34 : lay 34 1 = 1 := lay1 (by omega)
  have main : ∀ V B : Int, V = (if X 2 (p + 4) = 255 then -1 else X 2 (p + 4)) → B = or32 (M1 34 1) (if X 2 (p + 6) = 1 then shl32 1 (c : Int) else 0) → ∀ W : Mem, W = upM (upM (upM (upM (upM (upM M1 29 (12 + c) (X 2 p)) 30 (12 + c) D) 31 (12 + c) (X 2 (p + 3))) 32 (12 + c) V) 33 (12 + c) (X 2 (p + 5))) 34 1 B →
      FMt 1 M W ∧ (∀ a, (a < 29 ∨ 34 < a) → W a = M1 a) ∧ WroteM c p X M1 W ∧ RT nv np ns bk X W ∧ (∀ s, s < c → W 29 (12 + s) = M1 29 (12 + s) ∧ W 32 (12 + s) = M1 32 (12 + s)) := fun V B hV hB W hW => by
    subst hW
    have rows : ∀ a, (a < 29 ∨ 34 < a) → (upM (upM (upM (upM (upM (upM M1 29 (12 + c) (X 2 p)) 30 (12 + c) D) 31 (12 + c) (X 2 (p + 3))) 32 (12 + c) V) 33 (12 + c) (X 2 (p + 5))) 34 1 B) a = M1 a := fun a ha => by
      rw [upM_row (by omega), upM_row (by omega), upM_row (by omega), upM_row (by omega), upM_row (by omega), upM_row (by omega)]
    refine ⟨?_, rows, ⟨fun j hj => ?_, ?_, ?_, ?_, ?_, ?_, ?_⟩, ?_, fun s hs => ⟨?_, ?_⟩⟩
    · exact FMt_trans hf (FMt_trans (FMt_trans (FMt_trans (FMt_trans (FMt_trans (FMt_up ⟨by omega, by omega, fun _ => l12 29 (by omega) (by omega)⟩) (FMt_up ⟨by omega, by omega, fun _ => l12 30 (by omega) (by omega)⟩)) (FMt_up ⟨by omega, by omega, fun _ => l12 31 (by omega) (by omega)⟩)) (FMt_up ⟨by omega, by omega, fun _ => l12 32 (by omega) (by omega)⟩)) (FMt_up ⟨by omega, by omega, fun _ => l12 33 (by omega) (by omega)⟩)) (FMt_up ⟨by omega, by omega, fun _ => l34⟩))
    · simp (disch := omega) only [up_k, up_i]
      exact ⟨trivial, trivial, trivial, trivial, trivial⟩
    · simp (disch := omega) only [up_k, up_e]
    · simp (disch := omega) only [up_k, up_e]; exact hD
    · simp (disch := omega) only [up_k, up_e]
    · simp (disch := omega) only [up_k, up_e]; exact hV
    · simp (disch := omega) only [up_k, up_e]
    · simp (disch := omega) only [up_k, up_e]; exact hB
    · exact RT_of hT (fun _ _ _ _ => rfl) (congrFun (rows 0 (by omega)) 13) (fun a g1 g2 => rows a (by omega))
    · simp (disch := omega) only [up_k, up_i]
    · simp (disch := omega) only [up_k, up_i]
  have last : ∀ V B : Int, V = (if X 2 (p + 4) = 255 then -1 else X 2 (p + 4)) → B = or32 (M1 34 1) (if X 2 (p + 6) = 1 then shl32 1 (c : Int) else 0) → ∀ W : Mem, W = upM (upM (upM (upM (upM (upM M1 29 (12 + c) (X 2 p)) 30 (12 + c) D) 31 (12 + c) (X 2 (p + 3))) 32 (12 + c) V) 33 (12 + c) (X 2 (p + 5))) 34 1 B →
      post (if w32 5 < w32 (X 2 p) then some (false, W) else chk (0 ≤ (12 + (c : Int)) ∧ (12 + (c : Int)) < 264) ((if w32 999 < w32 (W 30 (12 + c)) then some (false, W) else chk (0 ≤ (12 + (c : Int)) ∧ (12 + (c : Int)) < 264) ((if w32 99 < w32 (W 31 (12 + c)) then some (false, W) else chk (0 ≤ ((p : Int) + 6) ∧ ((p : Int) + 6) < 1800) ((if w32 1 < w32 (W 1 (p + 6)) then some (false, W) else (if ¬ w32 (X 2 p) = 0 then m_sayingOn_B192 (c : Int) (p : Int) (12 + (c : Int)) (X 2 p) (X 2 (p + 4)) W else chk (0 ≤ (12 + (c : Int)) ∧ (12 + (c : Int)) < 264) ((if w32 (W 31 (12 + c)) ≤ 0 then m_sayingOn_B192 (c : Int) (p : Int) (12 + (c : Int)) (X 2 p) (X 2 (p + 4)) W else some (false, W)))))))))))
        (fun r => (r.1 = true ↔ SOk nv ns c X X1 p) ∧ FMt 1 M r.2 ∧ (∀ a, (a < 29 ∨ 34 < a) → r.2 a = M1 a) ∧ WroteM c p X M1 r.2) := fun V B hV hB W hW => by
    obtain ⟨w1, w2, w3, w4, w5⟩ := main V B hV hB W hW
    have v30 : W 30 (12 + c) = D := by rw [w3.2.2.1, hD]
    have v31 : W 31 (12 + c) = X 2 (p + 3) := w3.2.2.2.1
    have v1 : W 1 (p + 6) = X 2 (p + 6) := by rw [w2 1 (by omega)]; exact y6
    have wb : ∀ j, j < 1600 → X 2 j = W 1 j ∧ 0 ≤ X 2 j ∧ X 2 j ≤ 255 := fun j hj => by rw [w2 1 (by omega), tape]; exact hb j hj
    have wfr : ∀ v, v < nv → ((¬ and32 (shr32 (W 28 1) (v : Int)) 1 = 1 ∧ Alone c v W) ↔ Fre ns X1 v) := fun v hv => by
      rw [← hfr v hv, w2 28 (by omega)]
      have : Alone c v W ↔ Alone c v M1 := by
        unfold Alone
        constructor
        · intro g s hs; rw [← (w5 s hs).1, ← (w5 s hs).2]; exact g s hs
        · intro g s hs; rw [(w5 s hs).1, (w5 s hs).2]; exact g s hs
      rw [this]
    have bad : ¬ SOk nv ns c X X1 p → post (some (false, W)) (fun r : Bool × Mem => (r.1 = true ↔ SOk nv ns c X X1 p) ∧ FMt 1 M r.2 ∧ (∀ a, (a < 29 ∨ 34 < a) → r.2 a = M1 a) ∧ WroteM c p X M1 r.2) := fun hn =>
      post_some ⟨⟨fun z => (by cases z), fun z => absurd z hn⟩, w1, w2, w3⟩
    have go : X 2 p ≤ 5 → D ≤ 999 → X 2 (p + 3) ≤ 99 → X 2 (p + 6) ≤ 1 → (X 2 p = 0 → X 2 (p + 3) = 0) → post (m_sayingOn_B192 (c : Int) (p : Int) (12 + (c : Int)) (X 2 p) (X 2 (p + 4)) W) (fun r : Bool × Mem => (r.1 = true ↔ SOk nv ns c X X1 p) ∧ FMt 1 M r.2 ∧ (∀ a, (a < 29 ∨ 34 < a) → r.2 a = M1 a) ∧ WroteM c p X M1 r.2) := fun k1 k2 k3 k4 k5 => by
      refine post_mono (m_says2 (X1 := X1) w4 hc hp wb (fun s hs => by rw [(w5 s hs).1, (w5 s hs).2]; exact hrng s hs) wfr w3.2.2.2.2.2.1 k1 k4) ?_
      rintro ⟨b, W'⟩ ⟨g1, g2⟩
      simp only at g1 g2
      subst g1
      rw [hD] at k2
      refine ⟨?_, w1, w2, w3⟩
      rw [g2]
      exact ⟨fun z => ⟨k1, k2, k3, k4, k5, z.1, z.2⟩, fun z => ⟨z.2.2.2.2.2.1, z.2.2.2.2.2.2⟩⟩
    have bad' : ¬ (X 2 p ≤ 5 ∧ D ≤ 999 ∧ X 2 (p + 3) ≤ 99 ∧ X 2 (p + 6) ≤ 1 ∧ (X 2 p = 0 → X 2 (p + 3) = 0)) → ¬ SOk nv ns c X X1 p := fun hn hk => by
      obtain ⟨k1, k2, k3, k4, k5, -⟩ := hk
      rw [← hD] at k2
      exact hn ⟨k1, k2, k3, k4, k5⟩
    repeat' (first | with_reducible refine post_lt ?_ | (with_reducible refine post_chk ?_ ?_; focus ((try simp (disch := omega) only [Bool.false_eq_true, not_true_eq_false, not_false_eq_true, Nat.reduceAdd, Nat.reduceMul, w32_eq, w64_eq, lc_eq, lc_lt, lc_le, lc_gt, lc_ge, up_k, up_i, up_e, Int.toNat_natCast, tn7, tn8, tn12, tn3, tn120, tn1600, w32_and, w32_or, w32_xor, w32_shl, w32_shr, has2_eq, v30, v31, v1]) <;> omega)) | (with_reducible refine post_ite (fun hcp => ?_) (fun hcp => ?_) <;> (try simp (disch := omega) only [Bool.false_eq_true, not_true_eq_false, not_false_eq_true, Nat.reduceAdd, Nat.reduceMul, w32_eq, w64_eq, lc_eq, lc_lt, lc_le, lc_gt, lc_ge, up_k, up_i, up_e, Int.toNat_natCast, tn7, tn8, tn12, tn3, tn120, tn1600, w32_and, w32_or, w32_xor, w32_shl, w32_shr, has2_eq, v30, v31, v1] at hcp) <;> (try (exfalso; first | omega | exact hcp rfl | exact hcp trivial | contradiction))))
    all_goals first
      | exact bad (bad' (by omega))
      | exact go (by omega) (by omega) (by omega) (by omega) (by omega)
  unfold m_sayingOn m_sayingOn_B90 m_sayingOn_B132
  dsimp only [lt]
  rw [t12, t0, t1, t2, t3, t4, t5, t6, ti]
  repeat' (with_reducible refine post_chk (by omega) ?_)
  rw [y0, y4]
  have a1 : ∀ (w : Int), (upM M1 29 (12 + c) w) 1 = M1 1 := fun w => upM_row (by omega)
  have a2 : ∀ (w w1 : Int), (upM (upM M1 29 (12 + c) w) 30 (12 + c) w1) 1 = M1 1 := fun w w1 => by rw [upM_row (by omega), upM_row (by omega)]
  have a3 : ∀ (w w1 w2 : Int), (upM (upM (upM M1 29 (12 + c) w) 30 (12 + c) w1) 31 (12 + c) w2) 1 = M1 1 := fun w w1 w2 => by rw [upM_row (by omega), upM_row (by omega), upM_row (by omega)]
  have a4 : ∀ (w w1 w2 w3 : Int), (upM (upM (upM (upM M1 29 (12 + c) w) 30 (12 + c) w1) 31 (12 + c) w2) 32 (12 + c) w3) 1 = M1 1 := fun w w1 w2 w3 => by rw [upM_row (by omega), upM_row (by omega), upM_row (by omega), upM_row (by omega)]
  have a5 : ∀ (w w1 w2 w3 w4 : Int), (upM (upM (upM (upM (upM M1 29 (12 + c) w) 30 (12 + c) w1) 31 (12 + c) w2) 32 (12 + c) w3) 33 (12 + c) w4) 1 = M1 1 := fun w w1 w2 w3 w4 => by rw [upM_row (by omega), upM_row (by omega), upM_row (by omega), upM_row (by omega), upM_row (by omega)]
  have a6 : ∀ (w w1 w2 w3 w4 : Int), (upM (upM (upM (upM (upM M1 29 (12 + c) w) 30 (12 + c) w1) 31 (12 + c) w2) 32 (12 + c) w3) 33 (12 + c) w4) 34 1 = M1 34 1 := fun w w1 w2 w3 w4 => by rw [up_k (by omega), up_k (by omega), up_k (by omega), up_k (by omega), up_k (by omega)]
  by_cases h4 : X 2 (p + 4) = 255
  · refine post_ite (fun z => absurd (by rw [h4]) z) (fun _ => ?_)
    repeat' (with_reducible refine post_chk (by omega) ?_)
    rw [a1, a2, a4, a5, a6, y1, y2, y3, y5, y6, ← hD]
    by_cases h6 : X 2 (p + 6) = 1
    · refine post_ite (fun z => absurd (by rw [h6]) z) (fun _ => ?_)
      repeat' (with_reducible refine post_chk (by omega) ?_)
      exact last (-1) _ (by rw [if_pos h4]) (by rw [if_pos h6]) _ rfl
    · refine post_ite (fun _ => ?_) (fun z => absurd (fun q => h6 (by rw [w32_eq (by omega) (by omega), w32_eq (by omega) (by omega)] at q; exact q)) z)
      repeat' (with_reducible refine post_chk (by omega) ?_)
      exact last (-1) _ (by rw [if_pos h4]) (by rw [if_neg h6]) _ rfl
  · refine post_ite (fun _ => ?_) (fun z => absurd (fun q => h4 (by rw [w32_eq (by omega) (by omega), w32_eq (by omega) (by omega)] at q; exact q)) z)
    repeat' (with_reducible refine post_chk (by omega) ?_)
    rw [a1, a2, a4, a5, a6, y1, y2, y3, y5, y6, ← hD]
    by_cases h6 : X 2 (p + 6) = 1
    · refine post_ite (fun z => absurd (by rw [h6]) z) (fun _ => ?_)
      repeat' (with_reducible refine post_chk (by omega) ?_)
      exact last (X 2 (p + 4)) _ (by rw [if_neg h4]) (by rw [if_pos h6]) _ rfl
    · refine post_ite (fun _ => ?_) (fun z => absurd (fun q => h6 (by rw [w32_eq (by omega) (by omega), w32_eq (by omega) (by omega)] at q; exact q)) z)
      repeat' (with_reducible refine post_chk (by omega) ?_)
      exact last (X 2 (p + 4)) _ (by rw [if_neg h4]) (by rw [if_neg h6]) _ rfl
