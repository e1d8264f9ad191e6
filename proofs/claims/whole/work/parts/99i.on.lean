/-! THE PURE PART: on: frames -/
/-- after a trial: the class's frame and the reference's -/
theorem RAll_trial {nv np ns bk k : Nat} {X M X1 M1 : Mem} (h : RAll nv np ns bk k X M) (hx : FrX X X1) (hm : FMt 1 M M1) : RAll nv np ns bk k X1 M1 := by
  obtain ⟨h1, h2, h3, ⟨u, p, q, p1, p2, p3, p4, p5, p6, p7, p8⟩, h5, h6, h7, h8, h9, h10⟩ := h
  have hns := h1.1.2.2.2.2
  have hnv := h1.1.2.2.1
  obtain ⟨ex, ej⟩ := hx
  have em : ∀ a, (a < 25 ∨ 39 < a) → M1 a = M a := fun a ha => by funext i; exact hm a i (by omega)
  have e1 : ∀ a, a < 51 → X1 a = X a := fun a ha => ex a (by omega) (by omega)
  refine ⟨RT_of h1 (fun a q1 q2 q3 => e1 a (by omega)) (by rw [em 0 (by omega)]) (fun a q1 q2 => em a (by omega)), RS_g h2 hnv hns (SI_kept2 h3 hns).2 (fun a q1 q2 => e1 a (by omega)) (fun a i q1 q2 q3 => hm a i (by omega)), SI_of h3 (fun a q1 q2 => e1 a (by omega)),
    ⟨u, p, q, by rw [ex 64 (by omega) (by omega)]; exact p1, by rw [em 0 (by omega)]; exact p2, p3, by rw [ex 64 (by omega) (by omega)]; exact p4, p5, by rw [em 0 (by omega)]; exact p6, p7, fun i hi => ?_⟩,
    RTape_of h5 (by rw [e1 1 (by omega)]) (e1 2 (by omega)) (by rw [em 0 (by omega)]) (em 1 (by omega)), RFault_of h6 (e1 3 (by omega)) (by rw [em 0 (by omega)]) (by rw [em 0 (by omega)]), RRef_of h7 (ex 372 (by omega) (by omega)) (em 24 (by omega)),
    RSeed_of h8 (by rw [e1 0 (by omega)]) (by rw [em 0 (by omega)]), RHeard_of h9 (by rw [ex 354 (by omega) (by omega)]) (ex 355 (by omega) (by omega)) (ex 356 (by omega) (by omega)) (ex 357 (by omega) (by omega)) (by rw [em 0 (by omega)]) (em 41 (by omega)) (em 42 (by omega)) (em 43 (by omega)), RPic_of h10 (ej 1 (by omega) (by omega)) (ex 371 (by omega) (by omega)) (by rw [em 0 (by omega)]) (em 45 (by omega))⟩
  obtain ⟨g1, g2⟩ := p8 i hi
  have e : ∀ a, pX p u i ≤ a → a ≤ pX p u i + 12 → X1 a = X a := fun a q1 q2 => by unfold pX at q1 q2; exact ex a (by omega) (by omega)
  exact ⟨RS_g g1 hnv hns (SI_kept2 g2 hns).2 e (fun a i1 q1 q2 q3 => hm a i1 (by unfold pM at q3; omega)), SI_of g2 e⟩
