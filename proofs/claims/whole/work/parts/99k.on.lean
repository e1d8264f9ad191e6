/-! THE PURE PART: on, the law -/
theorem ls_on : LS_on RR := by
  intro k X M hk hR
  obtain ⟨nv, np, ns, bk, hR⟩ := hR
  refine lb_of ?_
  have hT := hR.1
  have hns := hT.1.2.2.2.2
  have hnv := hT.1.2.2.1
  have hR0 := RAll_len0 hR
  obtain ⟨t1, t2, t3, t4⟩ := hR.2.2.2.2.1
  have m0 : ∀ a, a ≠ 0 → (upM M 0 1 0) a = M a := fun a ha => upM_row ha
  have hT' : RT nv np ns bk X (upM M 0 1 0) := RT_of hT (fun _ _ _ _ => rfl) (up_i (by omega)) (fun a q1 q2 => m0 a (by omega))
  have hS' : RS nv ns 38 0 X (upM M 0 1 0) := RS_of hR.2.1 (fun _ _ _ => rfl) (fun a q1 q2 => m0 a (by omega))
  obtain ⟨⟨r, X1⟩, ⟨r', M1⟩, e1, e2, e3, e4, e5, e6⟩ := sim_read' hT' hS' hR.2.2.1 (fun j hj => by rw [m0 1 (by omega)]; exact t4 j hj) t2 t3
  simp only at e3 e4 e5 e6
  subst e3
  obtain ⟨X2, hX2⟩ : ∃ X2, X2 = upM X1 1 1 0 := ⟨_, rfl⟩
  have f2 : FrX (upM X 1 1 0) X2 := by
    refine ⟨fun a q1 q2 => ?_, fun j q1 q2 => ?_⟩
    · rw [hX2]
      by_cases e : a = 1
      · subst e
        funext j
        by_cases ej : j = 1
        · subst ej; rw [up_e, up_e]
        · rw [up_i ej, up_i ej, e4.1 1 (by omega) (by omega)]
      · rw [upM_row e, upM_row e]; exact e4.1 a q1 q2
    · rw [hX2, up_k (by omega), up_k (by omega)]; exact e4.2 j q1 q2
  have hR2 : RAll nv np ns bk k X2 M1 := RAll_trial hR0 f2 e5
  have hno := two_no (g := 5) hR2 (by omega)
  unfold x_X_on m_on
  dsimp only [lt]
  rw [t1] at e2
  rw [e2]
  rw [e1, bnd2_some, bnd2_some, ← hX2]
  cases r with
  | false =>
    rw [if_neg (by decide)]
    exact hno
  | true =>
    obtain ⟨g1, g2⟩ := e6 rfl
    have g1' : RS nv ns 51 1 X2 M1 := RS_of g1 (fun a q1 q2 => by rw [hX2, upM_row (by omega)]) (fun _ _ _ => rfl)
    have g2' : SI nv ns 51 X2 := SI_of g2 (fun a q1 q2 => by rw [hX2, upM_row (by omega)])
    obtain ⟨X3, M2, a1, a2, a3, a4, a5, a6, -⟩ := sim_copy (th := 38) (o := 51) (to := 0) (fr := 1) hnv hns g1' g2' (by omega) (by omega) (by omega) (by omega)
    have a2 : m_copies 0 1 M1 = some M2 := a2
    rw [if_pos (by decide), a1, bnd_some, if_pos rfl, a2, bnd_some]
    unfold x_Past_clear
    dsimp only [lt]
    rw [bnd_some]
    obtain ⟨h1, h2, h3, ⟨u, p, q, p1, p2, p3, p4, p5, p6, p7, p8⟩, h5, h6, h7, h8, h9, h10⟩ := hR2
    have ex : ∀ a, a ≠ 64 → (a < 38 ∨ 50 < a) → (upM X3 64 0 0) a = X2 a := fun a q1 q2 => by rw [upM_row q1]; exact a5 a (by omega)
    have em : ∀ a, a ≠ 0 → (a < 25 ∨ 39 < a) → (upM M2 0 57 0) a = M1 a := fun a q1 q2 => by rw [upM_row q1]; funext i; exact a6 a i (by omega)
    have em0 : ∀ j, j ≠ 57 → (upM M2 0 57 0) 0 j = M1 0 j := fun j q1 => by rw [up_i q1]; exact a6 0 j (by omega)
    suffices hfin : RAll nv np ns bk k (upM X3 64 0 0) (upM M2 0 57 0) from two_some ⟨rfl, nv, np, ns, bk, RAll_up hfin⟩
    refine ⟨?_, ?_, ?_, ?_, ?_, ?_, ?_, ?_, ?_, ?_⟩
    · exact RT_of h1 (fun a q1 q2 q3 => ex a (by omega) (by omega)) (em0 13 (by omega)) (fun a q1 q2 => em a (by omega) (by omega))
    · exact RS_of a3 (fun a q1 q2 => upM_row (by omega)) (fun a q1 q2 => upM_row (by omega))
    · exact SI_of a4 (fun a q1 q2 => upM_row (by omega))
    · refine ⟨0, p, q, ?_, ?_, by omega, ?_, p5, ?_, p7, fun i hi => by omega⟩
      · rw [up_e]; rfl
      · rw [up_e]; rfl
      · rw [up_i (by omega), a5 64 (by omega)]; exact p4
      · rw [em0 56 (by omega)]; exact p6
    · exact RTape_of h5 (by rw [ex 1 (by omega) (by omega)]) (ex 2 (by omega) (by omega)) (em0 1 (by omega)) (em 1 (by omega) (by omega))
    · exact RFault_of h6 (ex 3 (by omega) (by omega)) (em0 10 (by omega)) (em0 11 (by omega))
    · exact RRef_of h7 (ex 372 (by omega) (by omega)) (em 24 (by omega) (by omega))
    · exact RSeed_of h8 (by rw [ex 0 (by omega) (by omega)]) (em0 58 (by omega))
    · exact RHeard_of h9 (by rw [ex 354 (by omega) (by omega)]) (ex 355 (by omega) (by omega)) (ex 356 (by omega) (by omega)) (ex 357 (by omega) (by omega)) (em0 63 (by omega)) (em 41 (by omega) (by omega)) (em 42 (by omega) (by omega)) (em 43 (by omega) (by omega))
    · exact RPic_of h10 (by rw [ex 370 (by omega) (by omega)]) (ex 371 (by omega) (by omega)) (em0 69 (by omega)) (em 45 (by omega) (by omega))
