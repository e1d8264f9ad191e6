/-! THE PURE PART: town, the law -/
theorem x_copyT {X : Mem} : ∃ X1, x_Town_copyFrom 23 4 X = some X1 ∧ (X1 23 0 = X 4 0 ∧ X1 23 1 = X 4 1 ∧ X1 23 2 = X 4 2 ∧ X1 23 3 = X 4 3) ∧ (∀ k, k < 7 → X1 24 k = X 5 k ∧ X1 25 k = X 6 k) ∧ (∀ k, k < 8 → X1 26 k = X 7 k ∧ X1 27 k = X 8 k ∧ X1 28 k = X 9 k) ∧ (∀ k, k < 12 → X1 29 k = X 10 k ∧ X1 30 k = X 11 k ∧ X1 31 k = X 12 k) ∧
    (∀ c, c < 1600 → X1 34 c = X 15 c) ∧ (∀ w, w < 3 → X1 35 w = X 16 w ∧ X1 36 w = X 17 w) ∧ (∀ q, (q < 23 ∨ 36 < q) → X1 q = X q) := by
  unfold x_Town_copyFrom x_Rules_copyFrom
  simp only [lt_eq, bnd_some, Nat.reduceAdd]
  refine ⟨_, rfl, ⟨?_, ?_, ?_, ?_⟩, fun k hk => ⟨?_, ?_⟩, fun k hk => ⟨?_, ?_, ?_⟩, fun k hk => ⟨?_, ?_, ?_⟩, fun c hc => ?_, fun w hw => ⟨?_, ?_⟩, fun q hq => ?_⟩
  all_goals simp (disch := omega) only [up_k, up_i, up_e, cpy_k, cpy_e, upM_row]
theorem m_begin_ok {b : Nat} {M : Mem} (hb : M 0 13 = (b : Int)) (hb2 : b < 2) : ∃ M1, m_begin M = some M1 ∧ M1 25 0 = 0 ∧ M1 28 0 = 0 ∧ M1 34 0 = 0 ∧ M1 35 0 = 0 ∧ (∀ k, k < 7 → M1 26 k = M 3 (7 * b + k) ∧ M1 27 k = 0) ∧ (∀ s, s < 12 → M1 29 s = 0 ∧ M1 30 s = M 9 (12 * b + s) ∧ M1 31 s = 0 ∧ M1 32 s = -1 ∧ M1 33 s = 0) ∧ M1 0 57 = 0 ∧ M1 0 63 = 0 ∧ (∀ i, i ≠ 57 → i ≠ 63 → M1 0 i = M 0 i) ∧ (∀ a, a ≠ 0 → (a < 25 ∨ 35 < a) → M1 a = M a) := by
  obtain ⟨M0, hM0⟩ : ∃ M0, M0 = upM (upM (upM M 25 0 0) 28 0 0) 34 0 0 := ⟨_, rfl⟩
  have m0 : ∀ a, a ≠ 25 → a ≠ 28 → a ≠ 34 → M0 a = M a := fun a h1 h2 h3 => by rw [hM0, upM_row h3, upM_row h2, upM_row h1]
  have e0 : M0 25 0 = 0 ∧ M0 28 0 = 0 ∧ M0 34 0 = 0 := by rw [hM0]; exact ⟨by simp (disch := omega) only [up_k, up_e], by simp (disch := omega) only [up_k, up_e], up_e⟩
  have loop1 : post (itr2 m_begin_L23 FUEL 0 M0) (fun p => (∀ k, k < 7 → p.2 26 k = M 3 (7 * b + k) ∧ p.2 27 k = 0) ∧ (∀ a, a ≠ 26 → a ≠ 27 → p.2 a = M0 a)) := by
    refine post_itr2 (fun m (v : Int) Y => ∃ c : Nat, v = (c : Int) ∧ c ≤ 7 ∧ m = 7 - c ∧ (∀ k, k < c → Y 26 k = M 3 (7 * b + k) ∧ Y 27 k = 0) ∧ (∀ a, a ≠ 26 → a ≠ 27 → Y a = M0 a)) _ ?_ FUEL 7 0 M0 (fuel_lt (by omega)) ⟨0, rfl, by omega, rfl, fun k hk => by omega, fun _ _ _ => rfl⟩
    rintro m v Y ⟨c, rfl, hc, rfl, g1, g2⟩ F ih
    have y13 : Y 0 13 = (b : Int) := by rw [g2 0 (by omega) (by omega), m0 0 (by omega) (by omega) (by omega)]; exact hb
    have y3 : Y 3 = M 3 := by rw [g2 3 (by omega) (by omega), m0 3 (by omega) (by omega) (by omega)]
    unfold m_begin_L23
    rw [w32_eq (x := (7 : Int)) (by omega) (by omega), w32_eq (x := (c : Int)) (by omega) (by omega)]
    refine post_ite (fun z => post_some ⟨fun k hk => g1 k (by omega), g2⟩) (fun z => ?_)
    rw [y13, tn7, Int.toNat_natCast, y3]
    refine post_chk (by omega) (post_chk (by omega) (post_lt (post_chk (by omega) (post_lt (post_lt ?_)))))
    refine ih (7 - (c + 1)) _ _ (by omega) ⟨c + 1, by omega, by omega, rfl, fun k hk => ?_, fun a h1 h2 => by rw [upM_row h2, upM_row h1]; exact g2 a h1 h2⟩
    by_cases e : k = c
    · subst e; exact ⟨by rw [up_k (by omega), up_e], up_e⟩
    · rw [up_k (by omega), up_i e, up_i e, up_k (by omega)]; exact g1 k (by omega)
  obtain ⟨⟨v1, Ma⟩, a1, a2, a3⟩ := loop1
  simp only at a2 a3
  have loop2 : post (itr2 m_begin_L64 FUEL 0 Ma) (fun p => (∀ s, s < 12 → p.2 29 s = 0 ∧ p.2 30 s = M 9 (12 * b + s) ∧ p.2 31 s = 0 ∧ p.2 32 s = -1 ∧ p.2 33 s = 0) ∧ (∀ a, (a < 29 ∨ 33 < a) → p.2 a = Ma a)) := by
    refine post_itr2 (fun m (v : Int) Y => ∃ c : Nat, v = (c : Int) ∧ c ≤ 12 ∧ m = 12 - c ∧ (∀ s, s < c → Y 29 s = 0 ∧ Y 30 s = M 9 (12 * b + s) ∧ Y 31 s = 0 ∧ Y 32 s = -1 ∧ Y 33 s = 0) ∧ (∀ a, (a < 29 ∨ 33 < a) → Y a = Ma a)) _ ?_ FUEL 12 0 Ma (fuel_lt (by omega)) ⟨0, rfl, by omega, rfl, fun k hk => by omega, fun _ _ => rfl⟩
    rintro m v Y ⟨c, rfl, hc, rfl, g1, g2⟩ F ih
    have y13 : Y 0 13 = (b : Int) := by rw [g2 0 (by omega), a3 0 (by omega) (by omega), m0 0 (by omega) (by omega) (by omega)]; exact hb
    have y9 : Y 9 = M 9 := by rw [g2 9 (by omega), a3 9 (by omega) (by omega), m0 9 (by omega) (by omega) (by omega)]
    unfold m_begin_L64
    rw [w32_eq (x := (12 : Int)) (by omega) (by omega), w32_eq (x := (c : Int)) (by omega) (by omega)]
    refine post_ite (fun z => post_some ⟨fun k hk => g1 k (by omega), g2⟩) (fun z => ?_)
    rw [Int.toNat_natCast]
    refine post_chk (by omega) (post_lt ?_)
    rw [up_k (by omega), y13, tn12, up_k (by omega), y9]
    refine post_chk (by omega) (post_chk (by omega) (post_lt (post_chk (by omega) (post_lt (post_chk (by omega) (post_lt (post_chk (by omega) (post_lt (post_lt ?_)))))))))
    refine ih (12 - (c + 1)) _ _ (by omega) ⟨c + 1, by omega, by omega, rfl, fun k hk => ?_, fun a h1 => by rw [upM_row (by omega), upM_row (by omega), upM_row (by omega), upM_row (by omega), upM_row (by omega)]; exact g2 a h1⟩
    by_cases e : k = c
    · subst e
      refine ⟨?_, ?_, ?_, ?_, ?_⟩ <;> simp (disch := omega) only [up_k, up_e]
    · obtain ⟨q1, q2, q3, q4, q5⟩ := g1 k (by omega)
      refine ⟨?_, ?_, ?_, ?_, ?_⟩ <;> simp (disch := omega) only [up_k, up_i] <;> assumption
  obtain ⟨⟨v2, Mb⟩, b1, b2, b3⟩ := loop2
  simp only at b2 b3
  refine ⟨upM (upM (upM Mb 35 0 0) 0 57 0) 0 63 0, ?_, ?_, ?_, ?_, ?_, fun k hk => ?_, fun s hs => ?_, ?_, ?_, fun i h1 h2 => ?_, fun a h0 h1 => ?_⟩
  · unfold m_begin
    dsimp only [lt]
    rw [← hM0, a1, bnd_some, b1, bnd_some]
  · rw [up_k (by omega), up_k (by omega), up_k (by omega), b3 25 (by omega), a3 25 (by omega) (by omega)]; exact e0.1
  · rw [up_k (by omega), up_k (by omega), up_k (by omega), b3 28 (by omega), a3 28 (by omega) (by omega)]; exact e0.2.1
  · rw [up_k (by omega), up_k (by omega), up_k (by omega), b3 34 (by omega), a3 34 (by omega) (by omega)]; exact e0.2.2
  · rw [up_k (by omega), up_k (by omega), up_e]
  · rw [up_k (by omega), up_k (by omega), up_k (by omega), up_k (by omega), up_k (by omega), up_k (by omega), b3 26 (by omega), b3 27 (by omega)]; exact a2 k hk
  · simp (disch := omega) only [up_k]
    exact b2 s hs
  · rw [up_i (by omega), up_e]
  · rw [up_e]
  · rw [up_i h2, up_i h1, up_k (by omega), b3 0 (by omega), a3 0 (by omega) (by omega), m0 0 (by omega) (by omega) (by omega)]
  · rw [upM_row h0, upM_row h0, upM_row (by omega), b3 a (by omega), a3 a (by omega) (by omega), m0 a (by omega) (by omega) (by omega)]
theorem ls_town : LS_town RR := by
  intro k X M hk hR
  obtain ⟨nv, np, ns, bk, hR⟩ := hR
  refine ls_of ?_
  have hT := hR.1
  have hb := hT.1.1
  have hb2 := hT.1.2.1
  obtain ⟨q1, q2, q3, ⟨u0, p0, q0, p1, p2, p3, p4, p5, p6, p7, p8⟩, ⟨t1, t2, t3, t4⟩, q6, q7, q8, q9, q10⟩ := hR
  obtain ⟨S, hS⟩ := Int.eq_ofNat_of_zero_le t2
  have hTp : Tp (M 1) S := ⟨by omega, fun j hj => by have := t4 j (by omega); omega⟩
  obtain ⟨inb, hinb⟩ : ∃ inb, inb = 1 - bk := ⟨_, rfl⟩
  have hin : inb < 2 := by omega
  -- the class splits and clears
  obtain ⟨Xs, s1, s2, s3⟩ := x_split (X := X) hTp hS (fun j hj => (t4 j (by omega)).1)
  obtain ⟨C, cnt, hC, hA, hSk, c19, c0, c1, c2, c3, c5, hfirst⟩ := toks_all hTp s3
  obtain ⟨Xc, d1, d2, d3, d4, d5, d6, d7, d8⟩ := x_clear (X := Xs)
  obtain ⟨Xr, hXr⟩ : ∃ Xr, Xr = upM (upM (upM (upM Xc 3 1 0) 3 2 (-1)) 3 4 0) 3 5 0 := ⟨_, rfl⟩
  have xr : ∀ q, q ≠ 3 → Xr q = Xc q := fun q hq => by rw [hXr, upM_row hq, upM_row hq, upM_row hq, upM_row hq]
  have fxr : ∀ q, (q < 3 ∨ 22 < q) → Xr q = X q := fun q hq => by rw [xr q (by omega), d8 q (by omega) (by omega) (by omega) (by omega), s2 q (by omega)]
  -- the reference is ready
  obtain ⟨Mp, m1, m2, m3, m4, m5, m6, m7, m8, m9, m10, m11, m12, m13, m14, m15, m16, m17⟩ := m_ready hb hb2
  rw [← hinb] at m8 m10 m11 m12 m13 m14
  obtain ⟨Ma, a1, a2, a3, a4⟩ := hfirst Mp m2 (by rw [m3, ← t1, hS]) m5
  have ma : ∀ a, a ≠ 0 → Ma a = Mp a := a4.1
  have ma0 : ∀ i, 13 ≤ i → Ma 0 i = Mp 0 i := fun i hi => a4.2 i (by omega) (by omega) (by omega) (by omega) (by omega) (by omega)
  have cn1 := hC.1
  have td : TD C cnt inb 0 0 0 0 [] Xr Ma := by
    refine ⟨⟨⟨?_, ?_, ?_, ?_, ?_, ?_, ?_, ?_⟩, ⟨?_, ⟨?_, ?_⟩, ?_, a3, a2⟩, by omega, ?_⟩, ⟨⟨?_, ?_, ?_, by omega, by omega, by omega⟩, ⟨?_, hin, ?_, ?_, ?_⟩, ?_, fun k hk => by omega, fun k hk => by omega, fun k hk => by omega⟩, ⟨?_, ?_, fun i hi => absurd hi (by simp), fun w hw => Or.inl ?_⟩, by simp⟩
    · rw [hXr]; simp (disch := omega) only [up_i, up_e]
    · rw [hXr]; simp (disch := omega) only [up_i, up_e]; rfl
    · rw [hXr, up_e]; rfl
    · rw [xr 19 (by omega), d8 19 (by omega) (by omega) (by omega) (by omega)]; exact c19
    · rw [xr 20 (by omega), d8 20 (by omega) (by omega) (by omega) (by omega)]; exact c0.symm
    · rw [xr 21 (by omega), d8 21 (by omega) (by omega) (by omega) (by omega)]; exact c1.symm
    · rw [xr 22 (by omega), d8 22 (by omega) (by omega) (by omega) (by omega)]; exact c2.symm
    · rw [hXr]; simp (disch := omega) only [up_i, up_e]
    · rw [a4.2 8 (by omega) (by omega) (by omega) (by omega) (by omega) (by omega)]; exact m6
    · rw [ma 1 (by omega), m2]; exact c3.symm
    · rw [a4.2 9 (by omega) (by omega) (by omega) (by omega) (by omega) (by omega)]; exact m7
    · rw [a4.2 2 (by omega) (by omega) (by omega) (by omega) (by omega) (by omega), m3, ← t1, hS]; exact c5.symm
    · rw [xr 13 (by omega), d6]; omega
    · rw [xr 4 (by omega)]; exact d2
    · rw [xr 4 (by omega)]; exact d3
    · rw [xr 4 (by omega)]; exact d4
    · rw [ma0 31 (by omega)]; exact m8
    · rw [ma 2 (by omega)]; exact m10
    · rw [ma 4 (by omega)]; exact m11
    · rw [ma 7 (by omega)]; exact m12
    · rw [ma 11 (by omega), xr 4 (by omega), d5]; exact ⟨m13, by omega, by omega⟩
    · rw [xr 13 (by omega), d6]; rfl
    · rw [ma0 30 (by omega)]; exact m9
    · obtain ⟨w1, w2⟩ := d7 w hw
      rw [xr 17 (by omega), xr 16 (by omega), ma 12 (by omega), w1, w2]
      exact ⟨by omega, by omega, by omega, m14 w hw⟩
  obtain ⟨n', v3, X1, M1, e1, n'', e2, e3, e4, e5⟩ := sim_loop hC hA hSk 80 0 0 0 0 0 [] Xr Ma FUEL FUEL (by omega) (by omega) (by unfold FUEL; omega) (by unfold FUEL; omega) (fun z => by omega) td
  have e1 : itr3 x_Reader_read_L39 FUEL 0 0 Xr = some (n', v3, X1) := e1
  have e2 : itr2 m_town_L121 FUEL 0 Ma = some (n'', M1) := e2
  have hread : x_Reader_read X = (if ¬ w32 (X1 3 1) = 0 then some (-1, X1) else some (n', X1)) := by
    unfold x_Reader_read
    dsimp only [lt]
    rw [s1, bnd_some, d1, bnd_some, ← hXr, e1, bnd_some]
  have fx1 : ∀ q, (q < 3 ∨ 22 < q) → X1 q = X q := fun q hq => by rw [e3 q (by omega)]; exact fxr q hq
  have fm1 : ∀ a, (a = 1 ∨ 24 ≤ a) → M1 a = M a := fun a ha => by
    rw [e4.1 a ha, ma a (by omega)]
    rcases ha with z | z
    · rw [z]; exact m2
    · exact m15 a (by omega)
  have fmb : ∀ a i, 2 ≤ a → a ≤ 17 → bkOf a i = bk → M1 a i = M a i := fun a i h1 h2 h3 => by rw [e4.2.1 a i h1 h2 (by omega), ma a (by omega)]; exact m16 a i h1 h2 h3
  have fm0 : ∀ i, (i = 13 ∨ 42 < i) → M1 0 i = M 0 i := fun i hi => by rw [e4.2.2 i (by unfold own1; omega), ma0 i (by omega)]; exact m17 i hi
  have fm01 : M1 0 1 = 0 := by rw [e4.2.2 1 (by unfold own1; omega), a4.2 1 (by omega) (by omega) (by omega) (by omega) (by omega) (by omega)]; exact m4
  obtain ⟨Mf, hMf⟩ : ∃ Mf, Mf = upM (upM M1 0 10 (M1 0 8)) 0 11 ((upM M1 0 10 (M1 0 8)) 0 9) := ⟨_, rfl⟩
  have mf : ∀ a, a ≠ 0 → Mf a = M1 a := fun a ha => by rw [hMf, upM_row ha, upM_row ha]
  have mf0 : ∀ i, i ≠ 10 → i ≠ 11 → Mf 0 i = M1 0 i := fun i h1 h2 => by rw [hMf, up_i h2, up_i h1]
  have mf10 : Mf 0 10 = M1 0 8 := by rw [hMf, up_i (by omega), up_e]
  have mf11 : Mf 0 11 = M1 0 9 := by rw [hMf, up_e, up_i (by omega)]
  have hm : m_town M = (if w32 (Mf 0 8) ≤ 0 then bnd (m_begin (upM Mf 0 13 (Mf 0 31))) (fun M6 => some (n'', M6)) else bnd2 (m_refuses 1 Mf) (fun r7 M7 => some (r7, M7))) := by
    rw [m1, a1, bnd_some, e2, bnd_some, hMf]
  rw [hm]
  unfold x_X_town
  rw [hread]
  rcases e5 with ⟨rfl, n1, n2, j1, nv1, np1, ns1, L1, hTD⟩ | hfl
  · -- a town
    obtain ⟨g1, g2, ⟨g3, g4, g5, g6⟩, g7⟩ := hTD
    obtain ⟨⟨n1', n2', n3', n4, n5, n6⟩, ⟨k1, -, k3, k4, k5⟩, hstr, hv, hp, hs⟩ := g2
    have x31 : X1 3 1 = 0 := g1.1.1
    have x32 : X1 3 2 = -1 := g1.1.2.2.2.2.2.2.2
    have m8' : M1 0 8 = 0 := g1.2.1.1
    have m9' : M1 0 9 = -1 := g1.2.1.2.1.2
    have hj1 := g1.2.2.1
    have hcn := hC.2.1
    obtain ⟨X2, f1, ⟨f20, f21, f22, f23⟩, f3, f4, f5, f6, f7, f8⟩ := x_copyT (X := upM X1 1 1 0)
    obtain ⟨X3, r1, r2, r3, r4, r5, r6⟩ := x_reset (X := X2) (th := 38) (by omega)
    obtain ⟨M3, b1, b2, b3, b4, b5, b6, b7, b8, b9, b10, b11⟩ := m_begin_ok (b := inb) (M := upM Mf 0 13 (Mf 0 31)) (by rw [up_e, mf0 31 (by omega) (by omega)]; exact k1) hin
    obtain ⟨X4, hX4⟩ : ∃ X4, X4 = upM (upM X3 64 0 0) 354 0 0 := ⟨_, rfl⟩
    have wn : ¬ w32 n' = w32 (-1) := by rw [w32_eq (by omega) (by omega), w32_eq (by omega) (by omega)]; omega
    have hx : bnd2 (if ¬ w32 (X1 3 1) = 0 then some (-1, X1) else some (n', X1)) (fun r1 M1 => lt (upM M1 1 1 0) (fun M_17 => (if ¬ w32 r1 = w32 (-1) then bnd (x_Town_copyFrom 23 4 M_17) (fun M2 => bnd (x_State_reset 38 M2) (fun M3 => bnd (x_Past_clear M3) (fun M4 => bnd (x_Heard_clear M4) (fun M5 => some (r1, M5))))) else bnd2 (x_X_none 1 M_17) (fun r6 M6 => some (r6, M6))))) = some (n', X4) := by
      unfold x_Past_clear x_Heard_clear
      dsimp only [lt]
      rw [x31, w32_0, if_neg (by omega), bnd2_some, if_pos wn, f1, bnd_some, r1, bnd_some, bnd_some, bnd_some, hX4]
    rw [hx, mf0 8 (by omega) (by omega), m8', w32_0, if_pos (by omega), b1, bnd_some]
    have y : ∀ q, q ≠ 64 → q ≠ 354 → X4 q = X3 q := fun q h1 h2 => by rw [hX4, upM_row h2, upM_row h1]
    have y1 : ∀ q, q ≠ 64 → q ≠ 354 → (q < 38 ∨ 47 < q) → X4 q = X2 q := fun q h1 h2 h3 => by rw [y q h1 h2]; exact r2 q (by omega)
    have y2 : ∀ q, q ≠ 1 → q ≠ 64 → q ≠ 354 → (q < 23 ∨ 47 < q) → X4 q = X1 q := fun q h0 h1 h2 h3 => by rw [y1 q h1 h2 (by omega), f8 q (by omega), upM_row h0]
    have y3 : ∀ q, (q < 3 ∨ 22 < q) → q ≠ 1 → q ≠ 64 → q ≠ 354 → (q < 23 ∨ 47 < q) → X4 q = X q := fun q h0 h1 h2 h3 h4 => by rw [y2 q h1 h2 h3 h4]; exact fx1 q h0
    have z : ∀ a, a ≠ 0 → (a < 25 ∨ 35 < a) → M3 a = M1 a := fun a h1 h2 => by rw [b11 a h1 h2, upM_row h1, mf a h1]
    have z0 : ∀ i, i ≠ 10 → i ≠ 11 → i ≠ 13 → i ≠ 57 → i ≠ 63 → M3 0 i = M1 0 i := fun i h1 h2 h3 h4 h5 => by rw [b10 i h4 h5, up_i h3, mf0 i h1 h2]
    suffices hfin : RAll nv1 np1 ns1 inb k X4 M3 from two_some ⟨rfl, nv1, np1, ns1, inb, RAll_up hfin⟩
    have upr : ∀ q i, 3 ≤ q → (upM X1 1 1 0) q i = X1 q i := fun q i hq => up_k (by omega)
    refine ⟨⟨⟨?_, hin, n4, n5, n6⟩, ⟨?_, ?_, ?_⟩, ⟨?_, ?_, ?_⟩, ?_, fun i hi => ?_, fun i hi => ?_, fun i hi => ?_, fun w hw => ?_⟩, ⟨?_, ?_, ?_, ?_, ?_, ?_, ?_, ?_, ?_, ?_, ?_, ?_, ?_, ?_, ?_, ?_⟩, ⟨?_, ?_, ?_, ?_, ?_, ?_, ?_, ?_, ?_, ?_, ?_, ?_, ?_, ?_⟩, ⟨0, p0, q0, ?_, ?_, by omega, ?_, p5, ?_, p7, fun i hi => by omega⟩, ⟨?_, ?_, ?_, fun j hj => ?_⟩, ⟨?_, ?_, ?_, ?_, ?_, ?_⟩, fun j hj => ?_, ⟨?_, ?_, ?_⟩, ⟨?_, ?_, ?_, fun i hi => ?_⟩, ⟨?_, ?_, ?_, fun j hj => ?_⟩⟩
    · rw [b10 13 (by omega) (by omega), up_e, mf0 31 (by omega) (by omega)]; exact k1
    · rw [y1 23 (by omega) (by omega) (by omega), f20, upr 4 0 (by omega)]; exact n1'
    · rw [y1 23 (by omega) (by omega) (by omega), f21, upr 4 1 (by omega)]; exact n2'
    · rw [y1 23 (by omega) (by omega) (by omega), f22, upr 4 2 (by omega)]; exact n3'
    · rw [z 2 (by omega) (by omega)]; exact k3
    · rw [z 4 (by omega) (by omega)]; exact k4
    · rw [z 7 (by omega) (by omega)]; exact k5
    · rw [z 11 (by omega) (by omega), y1 23 (by omega) (by omega) (by omega), f23, upr 4 3 (by omega)]; exact hstr
    · rw [y1 24 (by omega) (by omega) (by omega), y1 25 (by omega) (by omega) (by omega), (f3 i (by omega)).1, (f3 i (by omega)).2, upr 5 i (by omega), upr 6 i (by omega), z 16 (by omega) (by omega), z 3 (by omega) (by omega)]
      exact hv i hi
    · rw [y1 26 (by omega) (by omega) (by omega), y1 27 (by omega) (by omega) (by omega), y1 28 (by omega) (by omega) (by omega), (f4 i (by omega)).1, (f4 i (by omega)).2.1, (f4 i (by omega)).2.2, upr 7 i (by omega), upr 8 i (by omega), upr 9 i (by omega), z 17 (by omega) (by omega), z 5 (by omega) (by omega), z 6 (by omega) (by omega)]
      exact hp i hi
    · rw [y1 29 (by omega) (by omega) (by omega), y1 30 (by omega) (by omega) (by omega), y1 31 (by omega) (by omega) (by omega), (f5 i (by omega)).1, (f5 i (by omega)).2.1, (f5 i (by omega)).2.2, upr 10 i (by omega), upr 11 i (by omega), upr 12 i (by omega), z 8 (by omega) (by omega), z 9 (by omega) (by omega), z 10 (by omega) (by omega)]
      exact hs i hi
    · have hrd := g6 w hw
      unfold RuleD at hrd
      unfold RuleEq
      rw [y1 36 (by omega) (by omega) (by omega), y1 35 (by omega) (by omega) (by omega), (f7 w hw).1, (f7 w hw).2, upr 16 w (by omega), upr 17 w (by omega), z 12 (by omega) (by omega), z 13 (by omega) (by omega)]
      rcases hrd with hh | ⟨f, n, h1, h2, h3, h4, h5, h6, h7⟩
      · exact Or.inl hh
      · refine Or.inr ⟨f, n, h1, h2, h3, by omega, h5, h6, fun c i1 i2 => ?_, TRun_ext h7 (fun c i1 i2 => ?_)⟩
        · obtain ⟨w1, w2, w3⟩ := g5 c (by omega)
          rw [y1 34 (by omega) (by omega) (by omega), f6 c (by omega), upr 15 c (by omega), z 14 (by omega) (by omega), z 15 (by omega) (by omega), w1, w2]
          exact w3
        · obtain ⟨w1, w2, w3⟩ := g5 c (by omega)
          rw [z 14 (by omega) (by omega)]; exact w1
    · intro i hi
      rw [show 7 * 0 + i = i by omega, (b6 i (by omega)).1, upM_row (by omega), mf 3 (by omega), y 39 (by omega) (by omega), (r3 i (by omega)).1, (f3 i (by omega)).2, upr 6 i (by omega)]
      exact (hv i hi).2.1
    · intro i hi
      rw [b3, y 40 (by omega) (by omega), (r3 i (by omega)).2.1]
      exact bit_zero (by omega)
    · intro i hi
      rw [show 7 * 0 + i = i by omega, (b6 i (by omega)).2, y 41 (by omega) (by omega), (r3 i (by omega)).2.2]
    · intro s hs'
      rw [show 12 * 0 + s = s by omega, (b7 s (by omega)).1, y 42 (by omega) (by omega), (r4 s (by omega)).1]
    · intro s hs'
      rw [show 12 * 0 + s = s by omega, (b7 s (by omega)).2.1, upM_row (by omega), mf 9 (by omega), y 43 (by omega) (by omega), (r4 s (by omega)).2.1, (f5 s (by omega)).2.1, upr 11 s (by omega)]
      exact (hs s hs').2.2.2.1
    · intro s hs'
      rw [show 12 * 0 + s = s by omega, (b7 s (by omega)).2.2.1, y 44 (by omega) (by omega), (r4 s (by omega)).2.2.1]
    · intro s hs'
      rw [show 12 * 0 + s = s by omega, (b7 s (by omega)).2.2.2.1, y 45 (by omega) (by omega), (r4 s (by omega)).2.2.2.1]
    · intro s hs'
      rw [show 12 * 0 + s = s by omega, (b7 s (by omega)).2.2.2.2, y 46 (by omega) (by omega), (r4 s (by omega)).2.2.2.2.1]
    · intro s hs'
      rw [b4, y 47 (by omega) (by omega), (r4 s (by omega)).2.2.2.2.2]
      exact bit_zero (by omega)
    · rw [b5, y 38 (by omega) (by omega), r5]
    · rw [b2, y 38 (by omega) (by omega), r6]
    · intro i hi; rw [y 38 (by omega) (by omega), r5] at hi; omega
    · intro i hi; rw [y 38 (by omega) (by omega), r5] at hi; omega
    · intro i hi; rw [y 38 (by omega) (by omega), r5] at hi; omega
    · rw [b3]
      have : 0 < 2 ^ nv1 := Nat.pow_pos (by omega)
      omega
    · rw [b4]; omega
    · intro i hi
      rw [y (38 + 1) (by omega) (by omega), (r3 i (by omega)).1, (f3 i (by omega)).2, upr 6 i (by omega)]
      exact (hv i hi).2.2
    · intro i hi; rw [y (38 + 2) (by omega) (by omega), (r3 i (by omega)).2.1]; omega
    · intro i hi; rw [y (38 + 3) (by omega) (by omega), (r3 i (by omega)).2.2]; omega
    · intro s hs'; rw [y (38 + 4) (by omega) (by omega), (r4 s (by omega)).1]; omega
    · intro s hs'
      rw [y (38 + 5) (by omega) (by omega), (r4 s (by omega)).2.1, (f5 s (by omega)).2.1, upr 11 s (by omega)]
      have := hs s hs'; omega
    · intro s hs'; rw [y (38 + 6) (by omega) (by omega), (r4 s (by omega)).2.2.1]; omega
    · intro s hs'; rw [y (38 + 7) (by omega) (by omega), (r4 s (by omega)).2.2.2.1]; omega
    · intro s hs'; rw [y (38 + 8) (by omega) (by omega), (r4 s (by omega)).2.2.2.2.1]; omega
    · intro s hs'; rw [y (38 + 9) (by omega) (by omega), (r4 s (by omega)).2.2.2.2.2]; omega
    · intro s hs' hw; rw [y (38 + 4) (by omega) (by omega), (r4 s (by omega)).1] at hw; omega
    · intro s hs' hw; rw [y (38 + 9) (by omega) (by omega), (r4 s (by omega)).2.2.2.2.2]
    · intro s t hs' ht hw; rw [y (38 + 4) (by omega) (by omega), (r4 s (by omega)).1] at hw; omega
    · rw [y 38 (by omega) (by omega), r6]; omega
    · rw [y 38 (by omega) (by omega), r5]; exact ⟨by omega, by omega⟩
    · rw [hX4, up_k (by omega), up_e]; rfl
    · exact b8
    · rw [hX4, up_k (by omega), up_i (by omega), r2 64 (by omega), f8 64 (by omega), upM_row (by omega), fx1 64 (by omega)]; exact p4
    · rw [z0 56 (by omega) (by omega) (by omega) (by omega) (by omega), fm0 56 (by omega)]; exact p6
    · rw [y1 1 (by omega) (by omega) (by omega), f8 1 (by omega), up_e, z0 1 (by omega) (by omega) (by omega) (by omega) (by omega), fm01]
    · rw [y1 1 (by omega) (by omega) (by omega), f8 1 (by omega), up_e]; omega
    · rw [y1 1 (by omega) (by omega) (by omega), f8 1 (by omega), up_e]; omega
    · rw [y3 2 (by omega) (by omega) (by omega) (by omega) (by omega), z 1 (by omega) (by omega), fm1 1 (by omega)]; exact t4 j hj
    · rw [y2 3 (by omega) (by omega) (by omega) (by omega), x31, b10 10 (by omega) (by omega), up_i (by omega), mf10, m8']
    · rw [y2 3 (by omega) (by omega) (by omega) (by omega), x32, b10 11 (by omega) (by omega), up_i (by omega), mf11, m9']
    · rw [y2 3 (by omega) (by omega) (by omega) (by omega), x31]; omega
    · rw [y2 3 (by omega) (by omega) (by omega) (by omega), x31]; omega
    · rw [y2 3 (by omega) (by omega) (by omega) (by omega), x32]; omega
    · rw [y2 3 (by omega) (by omega) (by omega) (by omega), x32]; omega
    · rw [y3 372 (by omega) (by omega) (by omega) (by omega) (by omega), z 24 (by omega) (by omega), fm1 24 (by omega)]; exact q7 j hj
    · rw [y3 0 (by omega) (by omega) (by omega) (by omega) (by omega), z0 58 (by omega) (by omega) (by omega) (by omega) (by omega), fm0 58 (by omega)]; exact q8.1
    · rw [y3 0 (by omega) (by omega) (by omega) (by omega) (by omega)]; exact q8.2.1
    · rw [y3 0 (by omega) (by omega) (by omega) (by omega) (by omega)]; exact q8.2.2
    · rw [hX4, up_e, b9]
    · rw [hX4, up_e]; omega
    · rw [hX4, up_e]; omega
    · rw [hX4, up_e] at hi; omega
    · rw [y3 370 (by omega) (by omega) (by omega) (by omega) (by omega), z0 69 (by omega) (by omega) (by omega) (by omega) (by omega), fm0 69 (by omega)]; exact q10.1
    · rw [y3 370 (by omega) (by omega) (by omega) (by omega) (by omega)]; exact q10.2.1
    · rw [y3 370 (by omega) (by omega) (by omega) (by omega) (by omega)]; exact q10.2.2.1
    · rw [y3 370 (by omega) (by omega) (by omega) (by omega) (by omega)] at hj
      rw [y3 371 (by omega) (by omega) (by omega) (by omega) (by omega), z 45 (by omega) (by omega), fm1 45 (by omega)]; exact q10.2.2.2 j hj
  · -- a fault
    obtain ⟨g1, g2, g3, g4, g5, g6⟩ := hfl
    have fm : FMs8 M1 := by unfold FMs8; rw [← g2]; exact ⟨g1.1, g1.2.1⟩
    have nle : ¬ w32 (Mf 0 8) ≤ 0 := by rw [mf0 8 (by omega) (by omega), w32_eq (by have := fm.1; have := fm.2; omega) (by have := fm.1; have := fm.2; omega)]; have := fm.1; omega
    rw [if_pos (f_e0 g1), if_neg nle, bnd2_some]
    dsimp only [lt]
    rw [if_neg (fun q => q rfl)]
    suffices hfin : RAll nv np ns bk k (upM X1 1 1 0) Mf from two_none (g := 1) hfin (by omega)
    have y : ∀ q, q ≠ 1 → (q < 3 ∨ 22 < q) → (upM X1 1 1 0) q = X q := fun q h1 h2 => by rw [upM_row h1]; exact fx1 q h2
    have hns := hT.1.2.2.2.2
    have hnv := hT.1.2.2.1
    refine ⟨RT_bank hT (fun a h1 h2 h3 => y a (by omega) (by omega)) (by rw [mf0 13 (by omega) (by omega)]; exact fm0 13 (by omega)) (fun a i h1 h2 h3 => by rw [mf a (by omega)]; exact fmb a i h1 h2 h3),
      RS_of q2 (fun a h1 h2 => y a (by omega) (by omega)) (fun a h1 h2 => by rw [mf a (by omega)]; exact fm1 a (by omega)), SI_of q3 (fun a h1 h2 => y a (by omega) (by omega)),
      RPast_of ⟨u0, p0, q0, p1, p2, p3, p4, p5, p6, p7, p8⟩ hnv hns (y 64 (by omega) (by omega)) (fun a h1 h2 => y a (by omega) (by omega)) (by rw [mf0 56 (by omega) (by omega)]; exact fm0 56 (by omega)) (by rw [mf0 57 (by omega) (by omega)]; exact fm0 57 (by omega)) (fun a i h1 h2 h3 => by rw [mf a (by omega), fm1 a (by omega)]),
      ⟨?_, ?_, ?_, fun j hj => ?_⟩, ⟨?_, ?_, ?_, ?_, ?_, ?_⟩, RRef_of q7 (y 372 (by omega) (by omega)) (by rw [mf 24 (by omega)]; exact fm1 24 (by omega)), RSeed_of q8 (by rw [y 0 (by omega) (by omega)]) (by rw [mf0 58 (by omega) (by omega)]; exact fm0 58 (by omega)),
      RHeard_of q9 (by rw [y 354 (by omega) (by omega)]) (y 355 (by omega) (by omega)) (y 356 (by omega) (by omega)) (y 357 (by omega) (by omega)) (by rw [mf0 63 (by omega) (by omega)]; exact fm0 63 (by omega)) (by rw [mf 41 (by omega)]; exact fm1 41 (by omega)) (by rw [mf 42 (by omega)]; exact fm1 42 (by omega)) (by rw [mf 43 (by omega)]; exact fm1 43 (by omega)),
      RPic_of q10 (by rw [y 370 (by omega) (by omega)]) (y 371 (by omega) (by omega)) (by rw [mf0 69 (by omega) (by omega)]; exact fm0 69 (by omega)) (by rw [mf 45 (by omega)]; exact fm1 45 (by omega))⟩
    · rw [up_e, mf0 1 (by omega) (by omega), fm01]
    · rw [up_e]; omega
    · rw [up_e]; omega
    · rw [y 2 (by omega) (by omega), mf 1 (by omega), fm1 1 (by omega)]; exact t4 j hj
    · rw [up_k (by omega), mf10]; exact g2
    · rw [up_k (by omega), mf11]; exact g3
    · rw [up_k (by omega)]; have := g1.1; omega
    · rw [up_k (by omega)]; exact g1.2.1
    · rw [up_k (by omega)]; omega
    · rw [up_k (by omega)]; exact g5
