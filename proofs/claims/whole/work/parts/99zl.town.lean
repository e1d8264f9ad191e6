/-! THE PURE PART: town: both begin to read; the banks -/
/-- the reference's town of one bank stays, whatever the other's rows hold -/
theorem RT_bank {nv np ns bk : Nat} {X M X1 M1 : Mem} (h : RT nv np ns bk X M) (hx : ∀ a, 23 ≤ a → a ≤ 36 → a ≠ 33 → X1 a = X a) (h0 : M1 0 13 = M 0 13) (hm : ∀ a i, 2 ≤ a → a ≤ 17 → bkOf a i = bk → M1 a i = M a i) : RT nv np ns bk X1 M1 := by
  obtain ⟨⟨tb, tb2, tnv, tnp, tns⟩, ⟨x0, x1, x2⟩, ⟨m0, m1, m2⟩, ⟨t3, t3a, t3b⟩, tpit, tper, tsay, trul⟩ := h
  have b0 : ∀ a, (a = 2 ∨ a = 4 ∨ a = 7 ∨ a = 11) → M1 a bk = M a bk := fun a ha => hm a bk (by omega) (by omega) (by unfold bkOf; rw [if_neg (by omega), if_neg (by omega), if_neg (by omega), if_neg (by omega), if_neg (by omega)])
  have b7 : ∀ a k, (a = 3 ∨ a = 16) → k < 7 → M1 a (7 * bk + k) = M a (7 * bk + k) := fun a k ha hk => hm a _ (by omega) (by omega) (by unfold bkOf; rw [if_pos (by omega)]; omega)
  have b8 : ∀ a k, (a = 5 ∨ a = 6 ∨ a = 17) → k < 8 → M1 a (8 * bk + k) = M a (8 * bk + k) := fun a k ha hk => hm a _ (by omega) (by omega) (by unfold bkOf; rw [if_neg (by omega), if_pos (by omega)]; omega)
  have b12 : ∀ a k, (a = 8 ∨ a = 9 ∨ a = 10) → k < 12 → M1 a (12 * bk + k) = M a (12 * bk + k) := fun a k ha hk => hm a _ (by omega) (by omega) (by unfold bkOf; rw [if_neg (by omega), if_neg (by omega), if_pos (by omega)]; omega)
  have b3 : ∀ a k, (a = 12 ∨ a = 13) → k < 3 → M1 a (3 * bk + k) = M a (3 * bk + k) := fun a k ha hk => hm a _ (by omega) (by omega) (by unfold bkOf; rw [if_neg (by omega), if_neg (by omega), if_neg (by omega), if_pos (by omega)]; omega)
  have b16 : ∀ a k, (a = 14 ∨ a = 15) → k < 1600 → M1 a (1600 * bk + k) = M a (1600 * bk + k) := fun a k ha hk => hm a _ (by omega) (by omega) (by unfold bkOf; rw [if_neg (by omega), if_neg (by omega), if_neg (by omega), if_neg (by omega), if_pos (by omega)]; omega)
  have ex : ∀ a, 23 ≤ a → a ≤ 36 → a ≠ 33 → ∀ i, X1 a i = X a i := fun a g1 g2 g3 i => by rw [hx a g1 g2 g3]
  refine ⟨⟨by rw [h0]; exact tb, tb2, tnv, tnp, tns⟩, ⟨by rw [ex 23 (by omega) (by omega) (by omega)]; exact x0, by rw [ex 23 (by omega) (by omega) (by omega)]; exact x1, by rw [ex 23 (by omega) (by omega) (by omega)]; exact x2⟩, ⟨by rw [b0 2 (by omega)]; exact m0, by rw [b0 4 (by omega)]; exact m1, by rw [b0 7 (by omega)]; exact m2⟩, ⟨by rw [b0 11 (by omega), ex 23 (by omega) (by omega) (by omega)]; exact t3, by rw [ex 23 (by omega) (by omega) (by omega)]; exact t3a, by rw [ex 23 (by omega) (by omega) (by omega)]; exact t3b⟩, fun k hk => ?_, fun k hk => ?_, fun s hs => ?_, fun w hw => ?_⟩
  · rw [ex 24 (by omega) (by omega) (by omega), ex 25 (by omega) (by omega) (by omega), b7 16 k (by omega) (by omega), b7 3 k (by omega) (by omega)]; exact tpit k hk
  · rw [ex 26 (by omega) (by omega) (by omega), ex 27 (by omega) (by omega) (by omega), ex 28 (by omega) (by omega) (by omega), b8 17 k (by omega) (by omega), b8 5 k (by omega) (by omega), b8 6 k (by omega) (by omega)]; exact tper k hk
  · rw [ex 29 (by omega) (by omega) (by omega), ex 30 (by omega) (by omega) (by omega), ex 31 (by omega) (by omega) (by omega), b12 8 s (by omega) (by omega), b12 9 s (by omega) (by omega), b12 10 s (by omega) (by omega)]; exact tsay s hs
  · have := trul w hw
    unfold RuleEq at this ⊢
    rw [ex 36 (by omega) (by omega) (by omega), ex 35 (by omega) (by omega) (by omega), b3 12 w (by omega) hw, b3 13 w (by omega) hw]
    rcases this with z | ⟨f, n, z1, z2, z3, z4, z5, z6, z7, z8⟩
    · exact Or.inl z
    · refine Or.inr ⟨f, n, z1, z2, z3, z4, z5, z6, fun c g1 g2 => ?_, TRun_ext z8 (fun c g1 g2 => b16 14 c (by omega) (by omega))⟩
      rw [ex 34 (by omega) (by omega) (by omega), b16 14 c (by omega) (by omega), b16 15 c (by omega) (by omega)]
      exact z7 c g1 g2
theorem x_clear {X : Mem} : ∃ X1, x_Town_clear 4 X = some X1 ∧ X1 4 0 = 0 ∧ X1 4 1 = 0 ∧ X1 4 2 = 0 ∧ X1 4 3 = 0 ∧ X1 13 5 = 0 ∧ (∀ w, w < 3 → X1 16 w = 0 ∧ X1 17 w = 0) ∧ (∀ q, q ≠ 4 → q ≠ 13 → q ≠ 16 → q ≠ 17 → X1 q = X q) := by
  obtain ⟨X0, hX0⟩ : ∃ X0, X0 = upM (upM (upM (upM (upM X 4 0 0) 4 1 0) 4 2 0) 4 3 0) 13 5 0 := ⟨_, rfl⟩
  obtain ⟨Xa, a1, a2, a3, a4⟩ := x_fill0 (a := 16) (n := 3) (w := 0) (X := X0) (by omega)
  obtain ⟨Xb, b1, b2, b3, b4⟩ := x_fill0 (a := 17) (n := 3) (w := 0) (X := Xa) (by omega)
  refine ⟨Xb, ?_, ?_, ?_, ?_, ?_, ?_, fun w hw => ⟨?_, b3 w hw⟩, fun q h1 h2 h3 h4 => ?_⟩
  · unfold x_Town_clear x_Rules_clear
    dsimp only [lt]
    rw [← hX0]
    show bnd (bnd (j_Arrays_fill_53178 16 3 0 X0) (fun M1 => bnd (j_Arrays_fill_53178 17 3 0 M1) (fun M2 => some M2))) (fun M1 => some M1) = _
    rw [a1, bnd_some, b1, bnd_some, bnd_some]
  · rw [b2 4 (by omega), a2 4 (by omega), hX0]; simp (disch := omega) only [up_k, up_i, up_e]
  · rw [b2 4 (by omega), a2 4 (by omega), hX0]; simp (disch := omega) only [up_k, up_i, up_e]
  · rw [b2 4 (by omega), a2 4 (by omega), hX0]; simp (disch := omega) only [up_k, up_i, up_e]
  · rw [b2 4 (by omega), a2 4 (by omega), hX0]; simp (disch := omega) only [up_k, up_i, up_e]
  · rw [b2 13 (by omega), a2 13 (by omega), hX0, up_e]
  · rw [b2 16 (by omega)]; exact a3 w hw
  · rw [b2 q h4, a2 q h3, hX0, upM_row h2, upM_row h1, upM_row h1, upM_row h1, upM_row h1]
/-- the reference is ready to read -/
theorem m_ready {bk : Nat} {M : Mem} (hb : M 0 13 = (bk : Int)) (hb2 : bk < 2) : ∃ Mp, m_town M = bnd (m_ahead Mp) (fun M2 => bnd (itr2 (m_town_L121) FUEL 0 M2) (fun q5 => match q5 with | (v1_5, M_5) => (if w32 ((upM (upM M_5 0 10 (M_5 0 8)) 0 11 ((upM M_5 0 10 (M_5 0 8)) 0 9)) 0 8) ≤ 0 then bnd (m_begin (upM (upM (upM M_5 0 10 (M_5 0 8)) 0 11 ((upM M_5 0 10 (M_5 0 8)) 0 9)) 0 13 ((upM (upM M_5 0 10 (M_5 0 8)) 0 11 ((upM M_5 0 10 (M_5 0 8)) 0 9)) 0 31))) (fun M6 => some (v1_5, M6)) else bnd2 (m_refuses 1 (upM (upM M_5 0 10 (M_5 0 8)) 0 11 ((upM M_5 0 10 (M_5 0 8)) 0 9))) (fun r7 M7 => some (r7, M7))))) ∧
    Mp 1 = M 1 ∧ Mp 0 2 = M 0 1 ∧ Mp 0 1 = 0 ∧ Mp 0 5 = 0 ∧ Mp 0 8 = 0 ∧ Mp 0 9 = -1 ∧ Mp 0 31 = ((1 - bk : Nat) : Int) ∧ Mp 0 30 = 0 ∧ Mp 2 (1 - bk) = 0 ∧ Mp 4 (1 - bk) = 0 ∧ Mp 7 (1 - bk) = 0 ∧ Mp 11 (1 - bk) = 0 ∧ (∀ w, w < 3 → Mp 12 (3 * (1 - bk) + w) = -1) ∧ (∀ a, 18 ≤ a → Mp a = M a) ∧ (∀ a i, 2 ≤ a → a ≤ 17 → bkOf a i = bk → Mp a i = M a i) ∧ (∀ i, i = 13 ∨ 42 < i → Mp 0 i = M 0 i) := by
  obtain ⟨inb, hinb⟩ : ∃ inb, inb = 1 - bk := ⟨_, rfl⟩
  rw [← hinb]
  have hin : inb < 2 := by omega
  have hne : inb ≠ bk := by omega
  obtain ⟨Ma, hMa⟩ : ∃ Ma, Ma = upM (upM (upM (upM (upM (upM M 0 2 (M 0 1)) 0 1 0) 0 5 0) 0 8 0) 0 9 (-1)) 0 31 (inb : Int) := ⟨_, rfl⟩
  have ma : ∀ a, a ≠ 0 → Ma a = M a := fun a h1 => by rw [hMa, upM_row h1, upM_row h1, upM_row h1, upM_row h1, upM_row h1, upM_row h1]
  obtain ⟨Mb, hMb⟩ : ∃ Mb, Mb = upM (upM (upM (upM Ma 2 inb 0) 4 inb 0) 7 inb 0) 11 inb 0 := ⟨_, rfl⟩
  have mb0 : ∀ i, Mb 0 i = Ma 0 i := fun i => by rw [hMb, up_k (by omega), up_k (by omega), up_k (by omega), up_k (by omega)]
  have mb : ∀ a, a ≠ 0 → a ≠ 2 → a ≠ 4 → a ≠ 7 → a ≠ 11 → Mb a = M a := fun a h0 h1 h2 h3 h4 => by rw [hMb, upM_row h4, upM_row h3, upM_row h2, upM_row h1]; exact ma a h0
  have e31 : Mb 0 31 = (inb : Int) := by rw [mb0, hMa, up_e]
  have e13 : 1 - (upM (upM (upM (upM (upM M 0 2 (M 0 1)) 0 1 0) 0 5 0) 0 8 0) 0 9 (-1)) 0 13 = (inb : Int) := by simp (disch := omega) only [up_i]; rw [hb]; omega
  -- the rules' rows
  have loop : post (itr2 m_town_L85 FUEL (3 * (inb : Int)) Mb) (fun p => (∀ w, w < 3 → p.2 12 (3 * inb + w) = -1) ∧ (∀ a, a ≠ 12 → p.2 a = Mb a) ∧ (∀ i, (i < 3 * inb ∨ 3 * inb + 3 ≤ i) → p.2 12 i = Mb 12 i)) := by
    refine post_itr2 (fun m (v : Int) Y => ∃ c : Nat, v = 3 * (inb : Int) + c ∧ c ≤ 3 ∧ m = 3 - c ∧ (∀ w, w < c → Y 12 (3 * inb + w) = -1) ∧ (∀ a, a ≠ 12 → Y a = Mb a) ∧ (∀ i, (i < 3 * inb ∨ 3 * inb + 3 ≤ i) → Y 12 i = Mb 12 i)) _ ?_ FUEL 3 _ _ (fuel_lt (by omega)) ⟨0, by omega, by omega, rfl, fun w hw => by omega, fun _ _ => rfl, fun _ _ => rfl⟩
    rintro m v Y ⟨c, rfl, hc, rfl, g1, g2, g3⟩ F ih
    have y31 : Y 0 31 = (inb : Int) := by rw [g2 0 (by omega)]; exact e31
    unfold m_town_L85
    rw [y31, w32_eq (x := 3 * (inb : Int) + 3) (by omega) (by omega), w32_eq (x := 3 * (inb : Int) + (c : Int)) (by omega) (by omega)]
    refine post_ite (fun z => post_some ⟨fun w hw => g1 w (by omega), g2, g3⟩) (fun z => ?_)
    refine post_chk (by omega) (post_lt (post_lt ?_))
    rw [tn3]
    refine ih (3 - (c + 1)) _ _ (by omega) ⟨c + 1, by omega, by omega, rfl, fun w hw => ?_, fun a ha => by rw [upM_row ha]; exact g2 a ha, fun i hi => by rw [up_i (by omega)]; exact g3 i hi⟩
    by_cases e : w = c
    · rw [e, up_e]
    · rw [up_i (by omega)]; exact g1 w (by omega)
  obtain ⟨⟨v, Mc⟩, l1, l2, l3, l4⟩ := loop
  simp only at l2 l3 l4
  refine ⟨upM Mc 0 30 0, ?_, ?_, ?_, ?_, ?_, ?_, ?_, ?_, up_e, ?_, ?_, ?_, ?_, fun w hw => ?_, fun a ha => ?_, fun a i h1 h2 h3 => ?_, fun i hi => ?_⟩
  · have hcc : 0 ≤ (inb : Int) ∧ (inb : Int) < 2 := by omega
    have r1 : (upM Ma 2 inb 0) 0 31 = (inb : Int) := by rw [up_k (by omega), hMa, up_e]
    have r2 : (upM (upM Ma 2 inb 0) 4 inb 0) 0 31 = (inb : Int) := by rw [up_k (by omega)]; exact r1
    have r3 : (upM (upM (upM Ma 2 inb 0) 4 inb 0) 7 inb 0) 0 31 = (inb : Int) := by rw [up_k (by omega)]; exact r2
    have r0 : Ma 0 31 = (inb : Int) := by rw [hMa, up_e]
    have ea : upM (upM (upM (upM (upM M 0 2 (M 0 1)) 0 1 0) 0 5 0) 0 8 0) 0 9 (-1) = upM (upM (upM (upM (upM M 0 2 (M 0 1)) 0 1 0) 0 5 0) 0 8 0) 0 9 (-1) := rfl
    unfold m_town chk
    dsimp only [lt]
    rw [e13, ← hMa, r0, if_pos hcc, Int.toNat_natCast, r1, if_pos hcc, Int.toNat_natCast, r2, if_pos hcc, Int.toNat_natCast, r3, if_pos hcc, Int.toNat_natCast, ← hMb, e31, l1, bnd_some]
  · rw [upM_row (by omega), l3 1 (by omega), mb 1 (by omega) (by omega) (by omega) (by omega) (by omega)]
  · rw [up_i (by omega), l3 0 (by omega), mb0, hMa]; simp (disch := omega) only [up_i, up_e]
  · rw [up_i (by omega), l3 0 (by omega), mb0, hMa]; simp (disch := omega) only [up_i, up_e]
  · rw [up_i (by omega), l3 0 (by omega), mb0, hMa]; simp (disch := omega) only [up_i, up_e]
  · rw [up_i (by omega), l3 0 (by omega), mb0, hMa]; simp (disch := omega) only [up_i, up_e]
  · rw [up_i (by omega), l3 0 (by omega), mb0, hMa]; simp (disch := omega) only [up_i, up_e]
  · rw [up_i (by omega), l3 0 (by omega)]; exact e31
  · rw [up_k (by omega), l3 2 (by omega), hMb]; simp (disch := omega) only [up_k, up_e]
  · rw [up_k (by omega), l3 4 (by omega), hMb]; simp (disch := omega) only [up_k, up_e]
  · rw [up_k (by omega), l3 7 (by omega), hMb]; simp (disch := omega) only [up_k, up_e]
  · rw [up_k (by omega), l3 11 (by omega), hMb]; simp (disch := omega) only [up_k, up_e]
  · rw [up_k (by omega)]; exact l2 w hw
  · rw [upM_row (by omega), l3 a (by omega), mb a (by omega) (by omega) (by omega) (by omega) (by omega)]
  · rw [up_k (by omega)]
    by_cases z : a = 12
    · subst z
      have : bkOf 12 i = i / 3 := by unfold bkOf; rw [if_neg (by omega), if_neg (by omega), if_neg (by omega), if_pos (by omega)]
      rw [this] at h3
      rw [l4 i (by omega), mb 12 (by omega) (by omega) (by omega) (by omega) (by omega)]
    · rw [l3 a z]
      by_cases y : a = 2 ∨ a = 4 ∨ a = 7 ∨ a = 11
      · have : bkOf a i = i := by unfold bkOf; rw [if_neg (by omega), if_neg (by omega), if_neg (by omega), if_neg (by omega), if_neg (by omega)]
        rw [this] at h3
        have hi : i ≠ inb := by omega
        have one : ∀ (Z : Mem) (kk : Nat), (upM Z kk inb 0) a i = Z a i := fun Z kk => by
          by_cases x : a = kk
          · rw [x]; exact up_i hi
          · exact up_k x
        rw [hMb, one, one, one, one, ma a (by omega)]
      · rw [mb a (by omega) (by omega) (by omega) (by omega) (by omega)]
  · rw [up_i (by omega), l3 0 (by omega), mb0, hMa, up_i (by omega), up_i (by omega), up_i (by omega), up_i (by omega), up_i (by omega), up_i (by omega)]
