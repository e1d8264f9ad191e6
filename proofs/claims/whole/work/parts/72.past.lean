/-! THE PURE PART: refusals, acts kept and undone -/
theorem RPast_of {nv ns : Nat} {X M X1 M1 : Mem} (h : RPast nv ns X M) (hnv : nv ≤ 7) (hns : ns ≤ 12) (h64 : X1 64 = X 64) (hb : ∀ a, 66 ≤ a → a ≤ 325 → X1 a = X a) (h56 : M1 0 56 = M 0 56) (h57 : M1 0 57 = M 0 57) (hm : ∀ a i, 25 ≤ a → a ≤ 36 → 2 ≤ lay a i → M1 a i = M a i) : RPast nv ns X1 M1 := by
  obtain ⟨u, p, q, p1, p2, p3, p4, p5, p6, p7, p8⟩ := h
  refine ⟨u, p, q, by rw [h64]; exact p1, by rw [h57]; exact p2, p3, by rw [h64]; exact p4, p5, by rw [h56]; exact p6, p7, fun i hi => ?_⟩
  obtain ⟨g1, g2⟩ := p8 i hi
  have e : ∀ a, pX p u i ≤ a → a ≤ pX p u i + 12 → X1 a = X a := fun a q1 q2 => by unfold pX at q1 q2; exact hb a (by omega) (by omega)
  exact ⟨RS_g g1 hnv hns (SI_kept2 g2 hns).2 e (fun a i1 q1 q2 q3 => hm a i1 q1 q2 (by unfold pM at q3; omega)), SI_of g2 e⟩
theorem RTape_of {X M X1 M1 : Mem} (h : RTape X M) (h1 : X1 1 1 = X 1 1) (h2 : X1 2 = X 2) (h3 : M1 0 1 = M 0 1) (h4 : M1 1 = M 1) : RTape X1 M1 := by
  unfold RTape at h ⊢; rw [h1, h2, h3, h4]; exact h
theorem RFault_of {X M X1 M1 : Mem} (h : RFault X M) (h1 : X1 3 = X 3) (h3 : M1 0 10 = M 0 10) (h4 : M1 0 11 = M 0 11) : RFault X1 M1 := by
  unfold RFault at h ⊢; rw [h1, h3, h4]; exact h
theorem RRef_of {k : Nat} {X M X1 M1 : Mem} (h : RRef k X M) (h1 : X1 372 = X 372) (h3 : M1 24 = M 24) : RRef k X1 M1 := by
  unfold RRef at h ⊢; rw [h1, h3]; exact h
theorem RSeed_of {X M X1 M1 : Mem} (h : RSeed X M) (h1 : X1 0 10 = X 0 10) (h3 : M1 0 58 = M 0 58) : RSeed X1 M1 := by
  unfold RSeed at h ⊢; rw [h1, h3]; exact h
theorem RHeard_of {nv ns : Nat} {X M X1 M1 : Mem} (h : RHeard nv ns X M) (h1 : X1 354 0 = X 354 0) (h2 : X1 355 = X 355) (h3 : X1 356 = X 356) (h4 : X1 357 = X 357) (h5 : M1 0 63 = M 0 63) (h6 : M1 41 = M 41) (h7 : M1 42 = M 42) (h8 : M1 43 = M 43) : RHeard nv ns X1 M1 := by
  unfold RHeard at h ⊢; rw [h1, h2, h3, h4, h5, h6, h7, h8]; exact h
theorem RPic_of {X M X1 M1 : Mem} (h : RPic X M) (h1 : X1 370 1 = X 370 1) (h2 : X1 371 = X 371) (h5 : M1 0 69 = M 0 69) (h6 : M1 45 = M 45) : RPic X1 M1 := by
  unfold RPic at h ⊢; rw [h1, h2, h5, h6]; exact h
theorem RRef_in {k g : Nat} {X M : Mem} (h : RRef k X M) (hg : g < 6) : RRef (k + 1) (upM X 372 g (X 372 g + 1)) (upM M 24 g (M 24 g + 1)) := by
  intro j hj
  obtain ⟨h1, h2, h3⟩ := h j hj
  by_cases e : j = g
  · subst e; rw [up_e, up_e]; omega
  · rw [up_i e, up_i e]; exact ⟨h1, h2, by omega⟩
/-- a refusal is counted in both -/
theorem RAll_ref {nv np ns bk k g : Nat} {X M : Mem} (h : RAll nv np ns bk k X M) (hg : g < 6) : RAll nv np ns bk (k + 1) (upM X 372 g (X 372 g + 1)) (upM M 24 g (M 24 g + 1)) := by
  obtain ⟨h1, h2, h3, h4, h5, h6, h7, h8, h9, h10⟩ := h
  have hns := h1.1.2.2.2.2
  have hnv := h1.1.2.2.1
  have ex : ∀ a, a ≠ 372 → (upM X 372 g (X 372 g + 1)) a = X a := fun a ha => upM_row ha
  have em : ∀ a, a ≠ 24 → (upM M 24 g (M 24 g + 1)) a = M a := fun a ha => upM_row ha
  refine ⟨RT_of h1 (fun a q1 q2 q3 => ex a (by omega)) (by rw [em 0 (by omega)]) (fun a q1 q2 => em a (by omega)), RS_of h2 (fun a q1 q2 => ex a (by omega)) (fun a q1 q2 => em a (by omega)), SI_of h3 (fun a q1 q2 => ex a (by omega)),
    RPast_of h4 hnv hns (ex 64 (by omega)) (fun a q1 q2 => ex a (by omega)) (by rw [em 0 (by omega)]) (by rw [em 0 (by omega)]) (fun a i q1 q2 q3 => by rw [em a (by omega)]),
    RTape_of h5 (by rw [ex 1 (by omega)]) (ex 2 (by omega)) (by rw [em 0 (by omega)]) (em 1 (by omega)), RFault_of h6 (ex 3 (by omega)) (by rw [em 0 (by omega)]) (by rw [em 0 (by omega)]), RRef_in h7 hg,
    RSeed_of h8 (by rw [ex 0 (by omega)]) (by rw [em 0 (by omega)]), RHeard_of h9 (by rw [ex 354 (by omega)]) (ex 355 (by omega)) (ex 356 (by omega)) (ex 357 (by omega)) (by rw [em 0 (by omega)]) (em 41 (by omega)) (em 42 (by omega)) (em 43 (by omega)), RPic_of h10 (by rw [ex 370 (by omega)]) (ex 371 (by omega)) (by rw [em 0 (by omega)]) (em 45 (by omega))⟩
theorem x_no {g : Nat} {X : Mem} (hg : g < 6) : x_X_no (g : Int) X = some (false, upM X 372 g (X 372 g + 1)) := by
  unfold x_X_no chk lt
  simp (disch := omega) only [w32_eq, if_neg, if_pos, Int.toNat_natCast]
theorem x_none {g : Nat} {X : Mem} (hg : g < 6) : x_X_none (g : Int) X = some (-1, upM X 372 g (X 372 g + 1)) := by
  unfold x_X_none
  rw [x_no hg, bnd2_some]
theorem m_ref {g : Nat} {M : Mem} (hg : g < 6) : m_refuses (g : Int) M = some (-1, upM M 24 g (M 24 g + 1)) := by
  unfold m_refuses chk lt
  simp (disch := omega) only [if_pos, Int.toNat_natCast]
/-- refused with false, in both -/
theorem two_no {nv np ns bk k g : Nat} {X M : Mem} (hR : RAll nv np ns bk k X M) (hg : g < 6) : two (bnd2 (x_X_no (g : Int) X) (fun r1 M1 => some (r1, M1))) (bnd2 (m_refuses (g : Int) M) (fun r2 M2 => (if w32 r2 < 0 then some (false, M2) else some (true, M2)))) (fun p q => p.1 = q.1 ∧ RR (k + 1) p.2 q.2) := by
  rw [x_no hg, m_ref hg]
  simp only [bnd2_some]
  rw [if_pos (by rw [w32_eq (by omega) (by omega)]; omega)]
  exact two_some ⟨rfl, nv, np, ns, bk, RAll_ref hR hg⟩
theorem two_none {nv np ns bk k g : Nat} {X M : Mem} (hR : RAll nv np ns bk k X M) (hg : g < 6) : two (bnd2 (x_X_none (g : Int) X) (fun r1 M1 => some (r1, M1))) (bnd2 (m_refuses (g : Int) M) (fun r2 M2 => some (r2, M2))) (fun p q => w32 p.1 = w32 q.1 ∧ RR (k + 1) p.2 q.2) := by
  rw [x_none hg, m_ref hg]
  simp only [bnd2_some]
  exact two_some ⟨rfl, nv, np, ns, bk, RAll_ref hR hg⟩
theorem lb_of {k : Nat} {x y : Option (Bool × Mem)} (h : two x y (fun p q => p.1 = q.1 ∧ RR (k + 1) p.2 q.2)) : ∃ (r r' : Bool) (X1 M1 : Mem), x = some (r, X1) ∧ y = some (r', M1) ∧ r = r' ∧ RR (k + 1) X1 M1 := by
  obtain ⟨⟨r, X1⟩, ⟨r', M1⟩, h1, h2, h3, h4⟩ := h
  exact ⟨r, r', X1, M1, h1, h2, h3, h4⟩
/-- the state ahead of an act is kept, in both -/
theorem sim_keep {nv np ns bk k : Nat} {X M : Mem} (hR : RAll nv np ns bk k X M) : two (x_Past_keep 38 X) (m_keeps M) (fun X1 M1 => RAll nv np ns bk k X1 M1 ∧ (∀ a, 38 ≤ a → a ≤ 50 → X1 a = X a) ∧ X1 0 = X 0 ∧ M1 0 58 = M 0 58) := by
  obtain ⟨h1, h2, h3, h4, h5, h6, h7, h8, h9, h10⟩ := hR
  have hns := h1.1.2.2.2.2
  have hnv := h1.1.2.2.1
  have hb := h1.1.1
  obtain ⟨u, p, q, p1, p2, p3, p4, p5, p6, p7, p8⟩ := h4
  -- where the copy goes
  obtain ⟨q', u', hq', hu'⟩ : ∃ q' u' : Nat, q' = (if u = 20 then (q + 1) % 20 else q) ∧ u' = (if u = 20 then 19 else u) := ⟨_, _, rfl, rfl⟩
  have hqq : q' < 20 := by rw [hq']; split <;> omega
  have huu : u' < 20 := by rw [hu']; split <;> omega
  -- the reference's counters first
  obtain ⟨Ma, hMa⟩ : ∃ Ma, Ma = upM (upM M 0 56 (q' : Int)) 0 57 (u' : Int) := ⟨_, rfl⟩
  have ea : ∀ a, a ≠ 0 → Ma a = M a := fun a ha => by rw [hMa, upM_row ha, upM_row ha]
  have ea0 : ∀ j, j ≠ 56 → j ≠ 57 → Ma 0 j = M 0 j := fun j h1 h2 => by rw [hMa, up_i h2, up_i h1]
  have hmk : m_keeps M = m_keeps_B32 Ma := by
    unfold m_keeps
    rw [p2, p6]
    by_cases e : u = 20
    · rw [if_neg (by rw [e]; simp)]
      unfold chk
      rw [if_pos (by rw [w32_eq (by omega) (by omega)]; omega)]
      show m_keeps_B32 (upM (upM M 0 56 ((w32 ((q : Int) + 1)).tmod (w32 20))) 0 57 ((upM M 0 56 ((w32 ((q : Int) + 1)).tmod (w32 20))) 0 57 - 1)) = m_keeps_B32 Ma
      have e1 : (w32 ((q : Int) + 1)).tmod (w32 20) = (((q + 1) % 20 : Nat) : Int) := by
        rw [w32_eq (by omega) (by omega), w32_eq (by omega) (by omega), show (q : Int) + 1 = ((q + 1 : Nat) : Int) by omega]
        rfl
      rw [e1, up_i (by omega), p2, hMa, hq', hu', if_pos e, if_pos e, e]
      rfl
    · rw [if_pos (by rw [w32_eq (by omega) (by omega), w32_eq (by omega) (by omega)]; omega)]
      rw [hMa, hq', hu', if_neg e, if_neg e, up_same p6, up_same p2]
  have hS0 : RS nv ns 38 0 X Ma := RS_of h2 (fun _ _ _ => rfl) (fun a q1 q2 => ea a (by omega))
  obtain ⟨X1, M1, e1, e2, g1, g2, g3, g4, g5⟩ := sim_copy (th := 66 + 13 * p) (o := 38) (to := 2 + (q' + u') % 20) (fr := 0) hnv hns hS0 h3 (by omega) (by omega) (by omega) (by omega)
  have hxk : x_Past_keep 38 X = some (upM (upM X1 64 2 (((p + 1) % 20 : Nat) : Int)) 64 0 (if u = 20 then 20 else (u : Int) + 1)) := by
    have c64 : X1 64 = X 64 := g3 64 (by omega)
    unfold x_Past_keep
    rw [p4, Int.toNat_natCast, e1]
    unfold chk
    simp (disch := omega) only [w32_eq, if_neg, if_pos, bnd_some, c64, p4]
    have hf : ∀ s1 : Int, x_Past_keep_B64 38 s1 X1 = some (upM (upM X1 64 2 s1) 64 0 (if u = 20 then 20 else (u : Int) + 1)) := fun s1 => by
      unfold x_Past_keep_B64
      simp (disch := omega) only [lt_eq, up_i, c64, p1]
      have e1 : (if (u : Int) + 1 < 20 then (u : Int) + 1 else 20) = (if u = 20 then 20 else (u : Int) + 1) := by split <;> split <;> omega
      rw [xmin (by omega) (by omega), bnd_some, e1]
    by_cases e : p + 1 = 20
    · rw [if_pos (by omega), hf, show (p + 1) % 20 = 0 by omega]; rfl
    · rw [if_neg (by omega), hf, show (p + 1) % 20 = p + 1 by omega]; rfl
  have hmk2 : m_keeps_B32 Ma = some (upM M1 0 57 (if u = 20 then 20 else (u : Int) + 1)) := by
    have s0 : Ma 0 56 = (q' : Int) := by rw [hMa, up_i (by omega), up_e]
    have s1 : Ma 0 57 = (u' : Int) := by rw [hMa, up_e]
    have c0 : M1 0 57 = (u' : Int) := by rw [g4 0 57 (by omega), s1]
    unfold m_keeps_B32 m_slot chk
    rw [s0, s1]
    simp (disch := omega) only [w32_eq, if_pos, bnd_some]
    have e : (2 + ((q' : Int) + (u' : Int)).tmod 20) = ((2 + (q' + u') % 20 : Nat) : Int) := by
      rw [show (q' : Int) + (u' : Int) = ((q' + u' : Nat) : Int) by omega]
      show 2 + (((q' + u') % 20 : Nat) : Int) = _
      omega
    rw [e, show m_copies ((2 + (q' + u') % 20 : Nat) : Int) 0 Ma = some M1 from e2, bnd_some]
    simp only [lt_eq]
    have e1 : (u' : Int) + 1 = (if u = 20 then 20 else (u : Int) + 1) := by rw [hu']; split <;> omega
    rw [c0, e1]
  rw [hxk, hmk, hmk2]
  obtain ⟨X2, hX2⟩ : ∃ X2, X2 = upM (upM X1 64 2 (((p + 1) % 20 : Nat) : Int)) 64 0 (if u = 20 then 20 else (u : Int) + 1) := ⟨_, rfl⟩
  obtain ⟨M2, hM2⟩ : ∃ M2, M2 = upM M1 0 57 (if u = 20 then 20 else (u : Int) + 1) := ⟨_, rfl⟩
  rw [← hX2, ← hM2]
  have x2 : ∀ a, a ≠ 64 → (a < 66 + 13 * p ∨ 66 + 13 * p + 12 < a) → X2 a = X a := fun a q1 q2 => by rw [hX2, upM_row q1, upM_row q1]; exact g3 a q2
  have x21 : ∀ a, a ≠ 64 → X2 a = X1 a := fun a q1 => by rw [hX2, upM_row q1, upM_row q1]
  have m2 : ∀ a i, a ≠ 0 → (a < 25 ∨ 39 < a ∨ (25 ≤ a ∧ a ≤ 36 ∧ lay a i ≠ 2 + (q' + u') % 20)) → M2 a i = M a i := fun a i q1 q2 => by rw [hM2, upM_row q1, g4 a i q2, ea a q1]
  have m21 : ∀ a, a ≠ 0 → M2 a = M1 a := fun a q1 => by rw [hM2, upM_row q1]
  have m20 : ∀ j, j ≠ 56 → j ≠ 57 → M2 0 j = M 0 j := fun j q1 q2 => by rw [hM2, up_i q2, g4 0 j (by omega), ea0 j q1 q2]
  refine two_some ⟨⟨?_, ?_, ?_, ?_, ?_, ?_, ?_, ?_, ?_, ?_⟩, fun a q1 q2 => x2 a (by omega) (by omega), x2 0 (by omega) (by omega), m20 58 (by omega) (by omega)⟩
  · exact RT_of h1 (fun a q1 q2 q3 => x2 a (by omega) (by omega)) (m20 13 (by omega) (by omega)) (fun a q1 q2 => by funext i; exact m2 a i (by omega) (by omega))
  · exact RS_g h2 hnv hns (SI_kept2 h3 hns).2 (fun a q1 q2 => x2 a (by omega) (by omega)) (fun a i q1 q2 q3 => m2 a i (by omega) (by omega))
  · exact SI_of h3 (fun a q1 q2 => x2 a (by omega) (by omega))
  · obtain ⟨u2, hu2⟩ : ∃ u2 : Nat, u2 = u' + 1 := ⟨_, rfl⟩
    have hu2i : (if u = 20 then (20 : Int) else (u : Int) + 1) = (u2 : Int) := by rw [hu2, hu']; split <;> omega
    refine ⟨u2, (p + 1) % 20, q', ?_, ?_, by omega, ?_, by omega, ?_, hqq, fun i hi => ?_⟩
    · rw [hX2, up_e]; exact hu2i
    · rw [hM2, up_e]; exact hu2i
    · rw [hX2, up_i (by omega), up_e]
    · rw [hM2, up_i (by omega), g4 0 56 (by omega), hMa, up_i (by omega), up_e]
    · by_cases e : i = u'
      · have ex : pX ((p + 1) % 20) u2 i = 66 + 13 * p := by unfold pX; rw [hu2, e]; omega
        have em : pM q' i = 2 + (q' + u') % 20 := by unfold pM; rw [e]
        rw [ex, em]
        exact ⟨RS_of g1 (fun a q1 q2 => x21 a (by omega)) (fun a q1 q2 => m21 a (by omega)), SI_of g2 (fun a q1 q2 => x21 a (by omega))⟩
      · -- an older one
        obtain ⟨i0, hi0, ex, em, hx0, hm0⟩ : ∃ i0, i0 < u ∧ pX ((p + 1) % 20) u2 i = pX p u i0 ∧ pM q' i = pM q i0 ∧ (p + 20 - u + i0) % 20 ≠ p ∧ (q + i0) % 20 ≠ (q' + u') % 20 := by
          by_cases e20 : u = 20
          · rw [if_pos e20] at hq' hu'
            refine ⟨i + 1, by omega, ?_, ?_, by omega, by omega⟩
            · unfold pX; rw [hu2, hu', e20]; omega
            · unfold pM; rw [hq']; omega
          · rw [if_neg e20] at hq' hu'
            refine ⟨i, by omega, ?_, ?_, by omega, by omega⟩
            · unfold pX; rw [hu2, hu']; omega
            · unfold pM; rw [hq']
        rw [ex, em]
        obtain ⟨k1, k2⟩ := p8 i0 hi0
        have e : ∀ a, pX p u i0 ≤ a → a ≤ pX p u i0 + 12 → X2 a = X a := fun a q1 q2 => by unfold pX at q1 q2; exact x2 a (by omega) (by omega)
        exact ⟨RS_g k1 hnv hns (SI_kept2 k2 hns).2 e (fun a i1 q1 q2 q3 => m2 a i1 (by omega) (by unfold pM at q3; omega)), SI_of k2 e⟩
  · exact RTape_of h5 (by rw [x2 1 (by omega) (by omega)]) (x2 2 (by omega) (by omega)) (m20 1 (by omega) (by omega)) (by funext i; exact m2 1 i (by omega) (by omega))
  · exact RFault_of h6 (x2 3 (by omega) (by omega)) (m20 10 (by omega) (by omega)) (m20 11 (by omega) (by omega))
  · exact RRef_of h7 (x2 372 (by omega) (by omega)) (by funext i; exact m2 24 i (by omega) (by omega))
  · exact RSeed_of h8 (by rw [x2 0 (by omega) (by omega)]) (m20 58 (by omega) (by omega))
  · exact RHeard_of h9 (by rw [x2 354 (by omega) (by omega)]) (x2 355 (by omega) (by omega)) (x2 356 (by omega) (by omega)) (x2 357 (by omega) (by omega)) (m20 63 (by omega) (by omega)) (by funext i; exact m2 41 i (by omega) (by omega)) (by funext i; exact m2 42 i (by omega) (by omega)) (by funext i; exact m2 43 i (by omega) (by omega))
  · exact RPic_of h10 (by rw [x2 370 (by omega) (by omega)]) (x2 371 (by omega) (by omega)) (m20 69 (by omega) (by omega)) (by funext i; exact m2 45 i (by omega) (by omega))
