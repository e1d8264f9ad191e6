/-! THE PURE PART: town: a statement, what ends it, all of them -/
def plT (C : Mem) (j : Nat) : Int := if C 0 j = 26 then C 2 j else C 1 j
def SkipOK (C : Mem) (cnt : Nat) : Prop := (∀ j, j < cnt → 0 ≤ C 4 j ∧ C 4 j ≤ C 5 0 ∧ C 5 0 ≤ 1600) ∧
  (∀ j, j + 1 < cnt → 0 ≤ plT C (j + 1) ∧ plT C (j + 1) ≤ 1600 ∧ (C 5 0 ≤ plT C (j + 1) ↔ C 0 (j + 1) = 25) ∧ ∀ (M : Mem) (x1 : Int), M 1 = C 3 → M 0 2 = C 5 0 → itr1 (m_finishes_L17 x1 M) FUEL (C 4 j) = some (plT C (j + 1)))
section LOOP
variable {C : Mem} {cnt inb j nv np ns : Nat} {L : List (Int × Int)} {X M : Mem}
theorem fin_any {x1 e S : Int} (h2 : M 0 2 = S) (he : 0 ≤ e ∧ e ≤ S ∧ S ≤ 1600) : ∃ v, itr1 (m_finishes_L17 x1 M) FUEL e = some v := by
  have : post (itr1 (m_finishes_L17 x1 M) FUEL e) (fun _ => True) := by
    refine post_itr1 (fun m (a : Int) => 0 ≤ a ∧ a ≤ S ∧ m = (S - a).toNat) _ ?_ FUEL (S - e).toNat e (fuel_lt (by omega)) ⟨he.1, he.2.1, rfl⟩
    rintro m a ⟨h0, h1, rfl⟩ F ih
    unfold m_finishes_L17
    rw [h2]
    refine post_ite (fun _ => post_some trivial) (fun hn => ?_)
    rw [w32_eq (by omega) (by omega), w32_eq (by omega) (by omega)] at hn
    refine post_chk (by omega) (post_ite (fun _ => ?_) (fun _ => post_chk (by omega) (post_ite (fun _ => post_some trivial) (fun _ => ?_))))
    · exact post_lt (ih (S - (a + 1)).toNat _ (by omega) ⟨by omega, by omega, rfl⟩)
    · exact post_lt (ih (S - (a + 1)).toNat _ (by omega) ⟨by omega, by omega, rfl⟩)
  obtain ⟨v, e, -⟩ := this
  exact ⟨v, e⟩
/-- a statement -/
theorem sim_stmt (hC : TokC C cnt) (hA : AheadOK C cnt) (h : TD C cnt inb j nv np ns L X M) : two (bnd (x_Reader_kind X) (fun r4 => x_Reader_readStatement r4 X)) (m_statement M) (fun X1 M1 => FrXS X X1 ∧ FrS inb M M1 ∧ Stm C cnt inb j X1 M1) := by
  have hP := h.1
  have hj := hP.2.2.1
  have h8 := hP.2.1.1
  have hK := hC.2.2.1 j hj
  have q : ∀ z : Int, -1 ≤ z → z ≤ 2000 → w32 z = z := fun z h1 h2 => w32_eq (by omega) (by omega)
  rw [x_kind hC hP.1 hj, bnd_some]
  unfold x_Reader_readStatement
  simp only [bnd_id]
  rw [q (C 0 j) (by omega) (by omega)]
  rcases lex_cases hP.2.1 with ⟨e26, e0, el⟩ | ⟨el, e4, e0, hg⟩
  · have el : m_lex M = some (fM C j 1 M) := el
    have e8 : (fM C j 1 M) 0 8 = 1 := fM_8.1
    refine ⟨fX C j 1 X, fM C j 1 M, ?_, ?_, FrXS_P (fX_fr C j 1 X), FrS_fM (FrS_refl inb M), Or.inr (Or.inl (FltS_mk hC hP (by omega) rfl rfl))⟩
    · rw [if_neg (by omega), if_neg (by omega), if_neg (by omega), if_neg (by omega), if_neg (by omega), if_neg (by omega), if_neg (by omega), x_refuse hC hP.1 hj]
      rfl
    · unfold m_statement
      rw [el, bnd_some, e8, q 1 (by omega) (by omega), if_neg (by omega)]
  · have w0 : m_isWord 508675318629 M = some (decide (C 0 j = 0)) := tok_word hg 0 (by omega)
    have w1 : m_isWord 123581014175598 M = some (decide (C 0 j = 1)) := tok_word hg 1 (by omega)
    have w2 : m_isWord 512735736947 M = some (decide (C 0 j = 2)) := tok_word hg 2 (by omega)
    have w3 : m_isWord 482804460403 M = some (decide (C 0 j = 3)) := tok_word hg 3 (by omega)
    have w4 : m_isWord 469920933235 M = some (decide (C 0 j = 4)) := tok_word hg 4 (by omega)
    have w5 : m_isWord 1752527720 M = some (decide (C 0 j = 5)) := tok_word hg 5 (by omega)
    have w6 : m_isWord 126943973305189 M = some (decide (C 0 j = 6)) := tok_word hg 6 (by omega)
    unfold m_statement
    rw [el, bnd_some, h8, w32_0, if_pos (show (0 : Int) ≤ 0 by omega), w0, bnd_some, ifd, w1, bnd_some, ifd, w2, bnd_some, ifd, w3, bnd_some, ifd, w4, bnd_some, ifd, w5, bnd_some, ifd, w6, bnd_some, ifd]
    simp only [bnd_id]
    by_cases k0 : C 0 j = 0
    · rw [if_pos k0, if_pos k0]; exact sim_voicing hC hA h k0
    rw [if_neg k0, if_neg k0]
    by_cases k1 : C 0 j = 1
    · rw [if_pos k1, if_pos k1]; exact sim_personing hC hA h k1
    rw [if_neg k1, if_neg k1]
    by_cases k2 : C 0 j = 2
    · rw [if_pos k2, if_pos k2]; exact sim_wanting hC hA h k2
    rw [if_neg k2, if_neg k2]
    by_cases k3 : C 0 j = 3
    · rw [if_pos k3, if_pos k3]; exact sim_rule (w := 0) hC hA (by omega) h (by omega) (by omega)
    rw [if_neg k3, if_neg k3]
    by_cases k4 : C 0 j = 4
    · rw [if_pos k4, if_pos k4]; exact sim_rule (w := 1) hC hA (by omega) h (by omega) (by omega)
    rw [if_neg k4, if_neg k4]
    by_cases k5 : C 0 j = 5
    · rw [if_pos k5, if_pos k5]; exact sim_rule (w := 2) hC hA (by omega) h (by omega) (by omega)
    rw [if_neg k5, if_neg k5]
    by_cases k6 : C 0 j = 6
    · rw [if_pos k6, if_pos k6]; exact sim_stroking hC hA h k6
    rw [if_neg k6, if_neg k6]
    have hbl : m_blame 1 (C 1 j) M = some (fM C j 1 M) := m_blame_eq h8
    exact ⟨fX C j 1 X, fM C j 1 M, by rw [x_refuse hC hP.1 hj]; rfl, by rw [e4, hbl], FrXS_P (fX_fr C j 1 X), FrS_fM (FrS_refl inb M), Or.inr (Or.inl (FltS_mk hC hP (by omega) rfl rfl))⟩
/-- a statement and its ; -/
theorem sim_full (hC : TokC C cnt) (hA : AheadOK C cnt) (hSk : SkipOK C cnt) (h : TD C cnt inb j nv np ns L X M) (n : Nat) (hn : n ≤ 80) :
    two (bnd (x_Reader_kind X) (fun r4 => bnd (x_Reader_readStatement r4 X) (fun M5 => x_Reader_require 59 M5))) (bnd (m_statement M) (fun M3 => m_finishes (n : Int) M3)) (fun X1 M1 => FrXS X X1 ∧ FrS inb M M1 ∧
      ((∃ j1 nv np ns L1, j < j1 ∧ TD C cnt inb j1 nv np ns L1 X1 M1 ∧ (n = 80 → C 0 j1 = 25)) ∨ FltS cnt X1 M1 ∨
        (n = 80 ∧ ∃ j1 nv np ns, j < j1 ∧ Prs C cnt j1 0 X1 ∧ j1 < cnt ∧ (0 ≤ X1 13 5 ∧ X1 13 5 ≤ 1600) ∧ X1 4 0 = ((nv : Nat) : Int) ∧ nv ≤ 7 ∧ X1 4 1 = ((np : Nat) : Int) ∧ np ≤ 8 ∧ X1 4 2 = ((ns : Nat) : Int) ∧ ns ≤ 12 ∧ C 0 j1 ≠ 25 ∧ M1 0 8 = 6 ∧ M1 0 9 = plT C j1 ∧ 0 ≤ plT C j1 ∧ plT C j1 ≤ 1600))) := by
  have hP := h.1
  have hj := hP.2.2.1
  obtain ⟨Xs, Ms, s1, s2, s3, s4, s5⟩ := sim_stmt hC hA h
  rw [x_kind hC hP.1 hj, bnd_some] at s1 ⊢
  rw [s1, s2, bnd_some, bnd_some]
  have q : ∀ z : Int, -1 ≤ z → z ≤ 2000 → w32 z = z := fun z h1 h2 => w32_eq (by omega) (by omega)
  -- behind a fault
  have ffin : ∀ Y : Mem, FMs8 Y → m_finishes (n : Int) Y = some Y := fun Y hy => by
    have e0 : ¬ w32 (Y 0 8) ≤ 0 := by rw [w32_eq (by have := hy.1; have := hy.2; omega) (by have := hy.1; have := hy.2; omega)]; have := hy.1; omega
    unfold m_finishes
    rw [m_lex_f hy, bnd_some, if_neg e0]
  rcases s5 with ⟨j1, nv1, np1, ns1, L1, g1, g2⟩ | hfl | ⟨j1, g1, g2, g3, g4, g5, g6, g7, g8⟩
  · -- both stand at j1
    have hP1 := g2.1
    have h81 := hP1.2.1.1
    have hj1 := hP1.2.2.1
    obtain ⟨c1, c2⟩ := sim_semi hC hA hP1
    have h5 : Ms 0 5 = C 4 j1 := hP1.2.1.2.2.2.1
    have h2 : Ms 0 2 = C 5 0 := hP1.2.1.2.2.1
    have h1m : Ms 1 = C 3 := hP1.2.1.2.1.1
    obtain ⟨v, hv⟩ := fin_any (x1 := (n : Int)) h2 (hSk.1 j1 hj1)
    by_cases h59 : C 0 j1 = 59
    · obtain ⟨hg, h4, hl⟩ := good_of_cur hP1.2.1 (by omega)
      obtain ⟨Me, d1, d2, d3, d4⟩ := c1 h59
      have s59 := tok_sign hg (c := 59) (by unfold signK; omega)
      have hj2 : j1 + 1 < cnt := d3.2.2.1
      obtain ⟨k1, k2, k3, k4⟩ := hSk.2 j1 hj2
      have hloop := k4 Ms (n : Int) h1m h2
      obtain ⟨Xe, hXe⟩ : ∃ Xe, Xe = upM Xs 3 4 ((j1 : Int) + 1) := ⟨_, rfl⟩
      rw [← hXe] at d1 d3
      rw [d1]
      have xe : ∀ z, z ≠ 3 → Xe z = Xs z := fun z hz => by rw [hXe, upM_row hz]
      have fxe : FrXS X Xe := FrXS_trans s3 (by rw [hXe]; exact FrXS_up (by omega))
      have tde : TD C cnt inb (j1 + 1) nv1 np1 ns1 L1 Xe Me := ⟨d3, TDn_of g2.2.1 (fun a h1 h2 => xe a (by omega)) (d4.2 31 (by omega) (by omega) (by omega) (by omega) (by omega) (by omega)) (fun a h1 h2 => d4.1 a (by omega)) (d4.1 16 (by omega)) (d4.1 17 (by omega)), TDr_of g2.2.2.1 (fun z h1 h2 => xe z (by omega)) (d4.2 30 (by omega) (by omega) (by omega) (by omega) (by omega) (by omega)) (fun z h1 h2 => d4.1 z (by omega)), by have := g2.2.2.2; omega⟩
      have s5b := hSk.1 j1 hj1
      by_cases h80 : n = 80
      · by_cases h25 : C 0 (j1 + 1) = 25
        · have hm : m_finishes (n : Int) Ms = some Me := by
            unfold m_finishes
            dsimp only [lt]
            rw [hl, bnd_some, h81, w32_0, if_pos (by omega), h5, hloop, bnd_some]
            rw [s59, bnd_some, ifd, if_pos h59, h2, q (plT C (j1 + 1)) (by omega) (by omega), q (C 5 0) (by omega) (by omega), if_pos (k3.mpr h25), d2, bnd_some]
            split <;> rfl
          rw [hm]
          exact ⟨Xe, Me, rfl, rfl, fxe, FrS_trans s4 (FrS_A d4), Or.inl ⟨j1 + 1, nv1, np1, ns1, L1, by omega, tde, fun _ => h25⟩⟩
        · -- one too many
          obtain ⟨M6, hM6⟩ : ∃ M6, M6 = upM (upM Ms 0 8 6) 0 9 (plT C (j1 + 1)) := ⟨_, rfl⟩
          have e8 : M6 0 8 = 6 := by rw [hM6, up_i (by omega), up_e]
          have e9 : M6 0 9 = plT C (j1 + 1) := by rw [hM6, up_e]
          have hm : m_finishes (n : Int) Ms = some M6 := by
            have hn25 : ¬ C 5 0 ≤ plT C (j1 + 1) := fun z => h25 (k3.mp z)
            have hb : m_blame 6 (plT C (j1 + 1)) Ms = some M6 := by rw [hM6]; exact m_blame_eq h81
            unfold m_finishes
            dsimp only [lt]
            rw [hl, bnd_some, h81, w32_0, if_pos (by omega), h5, hloop, bnd_some]
            rw [s59, bnd_some, ifd, if_pos h59, h2, q (plT C (j1 + 1)) (by omega) (by omega), q (C 5 0) (by omega) (by omega), q (n : Int) (by omega) (by omega), q 80 (by omega) (by omega), if_neg (by omega), if_neg hn25, hb, bnd_some, m_musts_f (by unfold FMs8; omega), bnd_some]
          rw [hm]
          obtain ⟨t1, t2, t3⟩ := tde.2.1
          refine ⟨Xe, M6, rfl, rfl, fxe, FrS_trans s4 ?_, Or.inr (Or.inr ⟨h80, j1 + 1, nv1, np1, ns1, by omega, d3.1, hj2, d3.2.2.2, t1.1, t1.2.2.2.1, t1.2.1, t1.2.2.2.2.1, t1.2.2.1, t1.2.2.2.2.2, h25, e8, e9, k1, k2⟩)⟩
          rw [hM6]
          exact FrS_trans (FrS_up (Or.inl ⟨rfl, by unfold own1; omega⟩)) (FrS_up (Or.inl ⟨rfl, by unfold own1; omega⟩))
      · have hm : m_finishes (n : Int) Ms = some Me := by
          unfold m_finishes
          dsimp only [lt]
          rw [hl, bnd_some, h81, w32_0, if_pos (by omega), h5, hloop, bnd_some]
          rw [s59, bnd_some, ifd, if_pos h59, q (n : Int) (by omega) (by omega), q 80 (by omega) (by omega), if_pos (by omega), d2, bnd_some]
        rw [hm]
        exact ⟨Xe, Me, rfl, rfl, fxe, FrS_trans s4 (FrS_A d4), Or.inl ⟨j1 + 1, nv1, np1, ns1, L1, by omega, tde, fun z => absurd z h80⟩⟩
    · -- no ;
      obtain ⟨d1, d2⟩ := c2 h59
      have hm : m_finishes (n : Int) Ms = some (fM C j1 1 Ms) := by
        rcases lex_cases hP1.2.1 with ⟨e26, e0, el⟩ | ⟨el, e4, e0, hg⟩
        · have el : m_lex Ms = some (fM C j1 1 Ms) := el
          have e8 : (fM C j1 1 Ms) 0 8 = 1 := fM_8.1
          unfold m_finishes
          rw [el, bnd_some, e8, q 1 (by omega) (by omega), if_neg (by omega)]
        · have s59 := tok_sign hg (c := 59) (by unfold signK; omega)
          unfold m_finishes
          dsimp only [lt]
          rw [el, bnd_some, h81, w32_0, if_pos (by omega), h5, hv, bnd_some]
          rw [s59, bnd_some, ifd, if_neg h59, d2, bnd_some]
      rw [d1, hm]
      exact ⟨_, _, rfl, rfl, FrXS_trans s3 (FrXS_P (fX_fr C j1 1 Xs)), FrS_fM s4, Or.inr (Or.inl (FltS_mk hC hP1 (by omega) rfl rfl))⟩
  · -- a fault in the statement
    have fm : FMs8 Ms := by unfold FMs8; rw [← hfl.2.1]; exact ⟨hfl.1.1, hfl.1.2.1⟩
    rw [f_require hfl.1, ffin Ms fm]
    exact ⟨Xs, Ms, rfl, rfl, s3, s4, Or.inr (Or.inl hfl)⟩
  · -- the reference has told it
    have fm : FMs8 Ms := by unfold FMs8; omega
    have hb := hC.2.2.1 j1 g2
    have hcn := hC.2.1
    have req := (x_req hC g3 g2 (c := 59) (by omega)).2 (by omega)
    obtain ⟨f1, f2, f3, f4, f5⟩ := fX_st hC g3 g2 (a := 1) (by omega) ⟨g5, g6⟩
    rw [req, ffin Ms fm]
    exact ⟨_, _, rfl, rfl, FrXS_trans s3 (FrXS_P (fX_fr C j1 1 Xs)), s4, Or.inr (Or.inl ⟨f1, by rw [f2, g7], by rw [f3, g8], by omega, by omega, by omega⟩)⟩
/-- behind a fault a statement changes nothing of it -/
theorem f_stmt (h : FSt cnt X) (h0 : X 4 0 = (nv : Int)) (hn : nv ≤ 7) (h1 : X 4 1 = (np : Int)) (hp : np ≤ 8) (h2 : X 4 2 = (ns : Int)) (hs : ns ≤ 12) (v : Int) : ∃ X1, x_Reader_readStatement v X = some X1 ∧ (∀ z, z ≠ 4 → X1 z = X z) := by
  have q : ∀ z : Int, -1 ≤ z → z ≤ 2000 → w32 z = z := fun z h1 h2 => w32_eq (by omega) (by omega)
  have e0 := f_e0 h
  obtain ⟨a, ha⟩ := f_newName h h0 hn h1 hp
  obtain ⟨b, hb⟩ := f_perName h h1 hp
  obtain ⟨u1, hu1⟩ := f_number h 0 9
  obtain ⟨u2, hu2⟩ := f_number h 0 99
  obtain ⟨u3, hu3⟩ := f_number h 0 999
  obtain ⟨u4, hu4⟩ := f_number h 1 20
  obtain ⟨u5, hu5⟩ := f_number h 0 100
  have v1 : x_Reader_readVoice X = some X := by
    unfold x_Reader_readVoice x_Reader_readVoice_B20
    dsimp only [lt]
    rw [f_refuse h, bnd_some, f_require h, bnd_some, ha, bnd2_some, f_require h, bnd_some, hu1, bnd2_some, if_pos e0]
    split <;> rfl
  have v2 : x_Reader_readPerson X = some X := by
    unfold x_Reader_readPerson x_Reader_readPerson_B20
    dsimp only [lt]
    rw [f_refuse h, bnd_some, f_require h, bnd_some, ha, bnd2_some, f_require h, bnd_some, hu1, bnd2_some, f_require h, bnd_some, hu2, bnd2_some, if_pos e0]
    split <;> rfl
  have v3 : x_Reader_readWants X = some X := by
    unfold x_Reader_readWants x_Reader_readWants_B20
    dsimp only [lt]
    rw [f_refuse h, bnd_some, f_require h, bnd_some, hb, bnd2_some, f_require h, bnd_some, hu3, bnd2_some, f_require h, bnd_some, hu4, bnd2_some, if_pos e0]
    split <;> rfl
  have v4 : ∀ w : Nat, w < 3 → x_Reader_readRule (w : Int) X = some X := fun w hw => by
    obtain ⟨r, hr⟩ : ∃ r, x_Rules_isTold 13 (w : Int) X = some r := by
      unfold x_Rules_isTold chk
      rw [q w (by omega) (by omega), q 3 (by omega) (by omega), if_neg (by omega), if_neg (by omega), if_pos (by omega), if_pos (by omega)]
      split <;> exact ⟨_, rfl⟩
    unfold x_Reader_readRule x_Reader_readRule_B20
    rw [hr, bnd_some, f_refuse h, bnd_some, if_neg e0]
    split <;> rfl
  have r0 : x_Reader_readRule 0 X = some X := v4 0 (by omega)
  have r1 : x_Reader_readRule 1 X = some X := v4 1 (by omega)
  have r2 : x_Reader_readRule 2 X = some X := v4 2 (by omega)
  unfold x_Reader_readStatement
  rw [v1, v2, v3, r0, r1, r2, f_refuse h, f_require h]
  simp only [bnd_some]
  rw [hu5, bnd2_some]
  repeat' split
  all_goals first
    | exact ⟨X, rfl, fun _ _ => rfl⟩
    | exact ⟨_, rfl, fun z hz => upM_row hz⟩
theorem x_value_f {j1 : Nat} (hC : TokC C cnt) (h : Prs C cnt j1 0 X) (hj : j1 < cnt) (z : Int) : x_Reader_value (fX C j1 z X) = some (C 2 j1) := by
  obtain ⟨a1, a2, a3, a4, a5⟩ := hC
  obtain ⟨h1, h2, h3, h4, h5, h6, h7⟩ := h
  have e4 : (fX C j1 z X) 3 4 = (j1 : Int) := by unfold fX; rw [up_i (by omega), up_i (by omega)]; exact h2
  have er : ∀ q, q ≠ 3 → (fX C j1 z X) q = X q := fun q hq => by unfold fX; rw [upM_row hq, upM_row hq]
  unfold x_Reader_value chk
  rw [e4, er 19 (by omega), h4, er 22 (by omega), h7.1, Int.toNat_natCast]
  rw [w32_eq (x := (j1 : Int)) (by omega) (by omega), w32_eq (x := (cnt : Int)) (by omega) (by omega)]
  rw [if_neg (by omega), if_neg (by omega), if_pos (by omega)]
/-- all statements -/
theorem sim_loop (hC : TokC C cnt) (hA : AheadOK C cnt) (hSk : SkipOK C cnt) : ∀ (d n j nv np ns : Nat) (L : List (Int × Int)) (X M : Mem) (N N' : Nat), 80 - n ≤ d → n ≤ 80 → d + 2 < N → d + 2 < N' → (n = 80 → C 0 j = 25) → TD C cnt inb j nv np ns L X M →
    ∃ n' v3 X1 M1, itr3 x_Reader_read_L39 N (n : Int) (n : Int) X = some (n', v3, X1) ∧ (∃ n'', itr2 m_town_L121 N' (n : Int) M = some (n'', M1) ∧ FrXS X X1 ∧ FrS inb M M1 ∧ ((n' = n'' ∧ 0 ≤ n' ∧ n' ≤ 80 ∧ ∃ j1 nv1 np1 ns1 L1, TD C cnt inb j1 nv1 np1 ns1 L1 X1 M1) ∨ FltS cnt X1 M1)) := by
  have q : ∀ z : Int, -1 ≤ z → z ≤ 2000 → w32 z = z := fun z h1 h2 => w32_eq (by omega) (by omega)
  have xflt : ∀ (X : Mem) (N : Nat) (a b : Int), FSt cnt X → itr3 x_Reader_read_L39 (N + 1) a b X = some (a, b, X) := fun X N a b hx => by
    show x_Reader_read_L39 (itr3 x_Reader_read_L39 N) a b X = _
    unfold x_Reader_read_L39
    rw [if_pos (f_e0 hx)]
    split <;> rfl
  have mflt : ∀ (M : Mem) (N : Nat) (a : Int), FMs8 M → itr2 m_town_L121 (N + 1) a M = some (a, M) := fun M N a hm => by
    show m_town_L121 (itr2 m_town_L121 N) a M = _
    unfold m_town_L121
    rw [if_pos (fm_e0 hm)]
  intro d
  induction d with
  | zero =>
    intro n j nv np ns L X M N N' h1 h2 hN hN' h80 h
    have e80 : n = 80 := by omega
    obtain ⟨G, rfl⟩ : ∃ G, N = G + 1 := ⟨N - 1, by omega⟩
    obtain ⟨G', rfl⟩ : ∃ G', N' = G' + 1 := ⟨N' - 1, by omega⟩
    have hP := h.1
    have hj := hP.2.2.1
    have k25 := h80 e80
    obtain ⟨hg, h4, hl⟩ := good_of_cur hP.2.1 (by omega)
    refine ⟨n, n, X, M, ?_, n, ?_, FrXS_refl X, FrS_refl inb M, Or.inl ⟨rfl, by omega, by omega, j, nv, np, ns, L, h⟩⟩
    · show x_Reader_read_L39 (itr3 x_Reader_read_L39 G) (n : Int) (n : Int) X = _
      unfold x_Reader_read_L39
      rw [q 1600 (by omega) (by omega), q (n : Int) (by omega) (by omega), if_neg (by omega), hP.1.1, w32_0, if_neg (by omega), x_at hC hP.1 hj (by omega), bnd_some, ifd, if_pos k25]
    · show m_town_L121 (itr2 m_town_L121 G') (n : Int) M = _
      unfold m_town_L121
      rw [hP.2.1.1, w32_0, if_neg (by omega), if_pos ((tok_end hg).symm ▸ k25)]
  | succ d ih =>
    intro n j nv np ns L X M N N' h1 h2 hN hN' h80 h
    obtain ⟨G, rfl⟩ : ∃ G, N = G + 1 := ⟨N - 1, by omega⟩
    obtain ⟨G', rfl⟩ : ∃ G', N' = G' + 1 := ⟨N' - 1, by omega⟩
    have hP := h.1
    have hj := hP.2.2.1
    by_cases k25 : C 0 j = 25
    · obtain ⟨hg, h4, hl⟩ := good_of_cur hP.2.1 (by omega)
      refine ⟨n, n, X, M, ?_, n, ?_, FrXS_refl X, FrS_refl inb M, Or.inl ⟨rfl, by omega, by omega, j, nv, np, ns, L, h⟩⟩
      · show x_Reader_read_L39 (itr3 x_Reader_read_L39 G) (n : Int) (n : Int) X = _
        unfold x_Reader_read_L39
        rw [q 1600 (by omega) (by omega), q (n : Int) (by omega) (by omega), if_neg (by omega), hP.1.1, w32_0, if_neg (by omega), x_at hC hP.1 hj (by omega), bnd_some, ifd, if_pos k25]
      · show m_town_L121 (itr2 m_town_L121 G') (n : Int) M = _
        unfold m_town_L121
        rw [hP.2.1.1, w32_0, if_neg (by omega), if_pos ((tok_end hg).symm ▸ k25)]
    · have hn80 : n < 80 := by
        by_cases e : n = 80
        · exact absurd (h80 e) k25
        · omega
      obtain ⟨Xs, Ms, s1, s2, s3, s4, s5⟩ := sim_full hC hA hSk h (n + 1) (by omega)
      obtain ⟨rec, hrec⟩ : ∃ r, r = itr3 x_Reader_read_L39 G := ⟨_, rfl⟩
      obtain ⟨rec', hrec'⟩ : ∃ r, r = itr2 m_town_L121 G' := ⟨_, rfl⟩
      have kd := x_kind hC hP.1 hj
      have hx : itr3 x_Reader_read_L39 (G + 1) (n : Int) (n : Int) X = rec (((n + 1 : Nat) : Int)) (((n + 1 : Nat) : Int)) Xs := by
        show x_Reader_read_L39 (itr3 x_Reader_read_L39 G) (n : Int) (n : Int) X = _
        rw [← hrec]
        rw [kd, bnd_some] at s1
        obtain ⟨Xt, t1, t2⟩ := bnd_inv s1
        unfold x_Reader_read_L39 x_Reader_read_L39_B72
        dsimp only [lt]
        rw [q 1600 (by omega) (by omega), q (n : Int) (by omega) (by omega), if_neg (by omega), hP.1.1, w32_0, if_neg (by omega), x_at hC hP.1 hj (by omega), bnd_some, ifd, if_neg k25, q 80 (by omega) (by omega), if_pos (by omega), kd, bnd_some, t1, bnd_some, t2, bnd_some]
        rfl
      have hne : ¬ w32 (M 0 3) = 0 := by
        rcases hP.2.1.2.2.2.2 with ⟨-, -, -, -, e⟩ | ⟨-, -, -, -, hg⟩
        · rcases e with e | e <;> rw [e] <;> decide +kernel
        · exact fun z => k25 ((tok_end hg) ▸ z)
      have hm : itr2 m_town_L121 (G' + 1) (n : Int) M = rec' (((n + 1 : Nat) : Int)) Ms := by
        show m_town_L121 (itr2 m_town_L121 G') (n : Int) M = _
        rw [← hrec']
        obtain ⟨Mt, t1, t2⟩ := bnd_inv s2
        have t2 : m_finishes ((n : Int) + 1) Mt = some Ms := t2
        unfold m_town_L121
        dsimp only [lt]
        rw [hP.2.1.1, w32_0, if_neg (by omega), if_neg hne, t1, bnd_some, t2, bnd_some]
        rfl
      rw [hx, hm, hrec, hrec']
      rcases s5 with ⟨j1, nv1, np1, ns1, L1, g1, g2, g3⟩ | hfl | ⟨e80, j1, nv1, np1, ns1, g1, g2, g3, g4, g5, g6, g7, g8, g9, g10, g11, g12, g13, g14, g15⟩
      · obtain ⟨n', v3, X1, M1, y1, n'', y2, y3, y4, y5⟩ := ih (n + 1) j1 nv1 np1 ns1 L1 Xs Ms G G' (by omega) (by omega) (by omega) (by omega) g3 g2
        exact ⟨n', v3, X1, M1, y1, n'', y2, FrXS_trans s3 y3, FrS_trans s4 y4, y5⟩
      · obtain ⟨H, rfl⟩ : ∃ H, G = H + 1 := ⟨G - 1, by omega⟩
        obtain ⟨H', rfl⟩ : ∃ H', G' = H' + 1 := ⟨G' - 1, by omega⟩
        have fm : FMs8 Ms := by unfold FMs8; rw [← hfl.2.1]; exact ⟨hfl.1.1, hfl.1.2.1⟩
        exact ⟨_, _, Xs, Ms, xflt Xs H _ _ hfl.1, _, mflt Ms H' _ fm, s3, s4, Or.inr hfl⟩
      · -- the 81st
        obtain ⟨H, rfl⟩ : ∃ H, G = (H + 1) + 1 := ⟨G - 2, by omega⟩
        obtain ⟨H', rfl⟩ : ∃ H', G' = H' + 1 := ⟨G' - 1, by omega⟩
        have fm : FMs8 Ms := by unfold FMs8; omega
        have hb := hC.2.2.1 j1 g3
        have hcn := hC.2.1
        obtain ⟨f1, f2, f3, f4, f5⟩ := fX_st hC g2 g3 (a := 6) (by omega) g4
        -- the place that is told
        obtain ⟨X6, hX6⟩ : ∃ X6, X6 = (if C 0 j1 = 26 then upM (fX C j1 6 Xs) 3 2 (C 2 j1) else fX C j1 6 Xs) := ⟨_, rfl⟩
        have hone : x_Reader_refuseOneMore Xs = some X6 := by
          unfold x_Reader_refuseOneMore
          dsimp only [lt]
          rw [x_at hC g2 g3 (by omega), bnd_some, x_refuse hC g2 g3, bnd_some]
          show (if w32 (b2i (decide (C 0 j1 = 26))) = 0 then some (fX C j1 6 Xs) else bnd (x_Reader_value (fX C j1 6 Xs)) (fun r3 => some (upM (fX C j1 6 Xs) 3 2 r3))) = some X6
          rw [b2i_d, hX6]
          by_cases e : C 0 j1 = 26
          · rw [if_pos e, q 1 (by omega) (by omega), if_neg (by omega), x_value_f hC g2 g3, bnd_some, if_pos e]
          · rw [if_neg e, w32_0, if_pos rfl, if_neg e]
        have x6 : ∀ z, z ≠ 3 → X6 z = Xs z := fun z hz => by
          rw [hX6]; split
          · rw [upM_row hz]; exact f5 z hz
          · exact f5 z hz
        have x61 : X6 3 1 = 6 ∧ X6 3 4 = (j1 : Int) ∧ X6 3 2 = plT C j1 := by
          unfold plT
          rw [hX6]; split
          · exact ⟨by rw [up_i (by omega)]; exact f2, by rw [up_i (by omega)]; exact f4, up_e⟩
          · exact ⟨f2, f4, f3⟩
        have fs6 : FSt cnt X6 := ⟨by omega, by omega, by omega, by omega, by rw [x6 19 (by omega)]; exact g2.2.2.2.1, hcn, by rw [x6 13 (by omega)]; exact g4.1, by rw [x6 13 (by omega)]; exact g4.2⟩
        obtain ⟨v, hv⟩ := f_kind fs6
        obtain ⟨X7, r1, r2⟩ := f_stmt (nv := nv1) (np := np1) (ns := ns1) fs6 (by rw [x6 4 (by omega)]; exact g5) g6 (by rw [x6 4 (by omega)]; exact g7) g8 (by rw [x6 4 (by omega)]; exact g9) g10 v
        have fs7 : FSt cnt X7 := by
          obtain ⟨w1, w2, w3, w4, w5, w6, w7, w8⟩ := fs6
          exact ⟨by rw [r2 3 (by omega)]; exact w1, by rw [r2 3 (by omega)]; exact w2, by rw [r2 3 (by omega)]; exact w3, by rw [r2 3 (by omega)]; exact w4, by rw [r2 19 (by omega)]; exact w5, w6, by rw [r2 13 (by omega)]; exact w7, by rw [r2 13 (by omega)]; exact w8⟩
        have hx2 : itr3 x_Reader_read_L39 ((H + 1) + 1) (((n + 1 : Nat) : Int)) (((n + 1 : Nat) : Int)) Xs = itr3 x_Reader_read_L39 (H + 1) (((n + 1 : Nat) : Int) + 1) (((n + 1 : Nat) : Int) + 1) X7 := by
          obtain ⟨rc, hrc⟩ : ∃ r, r = itr3 x_Reader_read_L39 (H + 1) := ⟨_, rfl⟩
          show x_Reader_read_L39 (itr3 x_Reader_read_L39 (H + 1)) _ _ Xs = _
          rw [← hrc]
          unfold x_Reader_read_L39 x_Reader_read_L39_B72
          dsimp only [lt]
          rw [q 1600 (by omega) (by omega), q (((n + 1 : Nat) : Int)) (by omega) (by omega), if_neg (by omega), g2.1, w32_0, if_neg (by omega), x_at hC g2 g3 (by omega), bnd_some, ifd, if_neg g11, q 80 (by omega) (by omega), if_neg (by omega), hone, bnd_some, hv, bnd_some, r1, bnd_some, f_require fs7, bnd_some]
        refine ⟨(((n + 1 : Nat) : Int) + 1), (((n + 1 : Nat) : Int) + 1), X7, Ms, ?_, (((n + 1 : Nat) : Int)), mflt Ms H' _ fm, FrXS_trans s3 ?_, s4, Or.inr ⟨fs7, ?_, ?_, ?_, ?_, ?_⟩⟩
        · rw [hx2]; exact xflt X7 H _ _ fs7
        · intro z hz; rw [r2 z (by omega), x6 z (by omega)]
        · rw [r2 3 (by omega), x61.1, g12]
        · rw [r2 3 (by omega), x61.2.2, g13]
        · rw [r2 3 (by omega), x61.2.2]; exact g14
        · rw [r2 3 (by omega), x61.2.2]; exact g15
        · rw [r2 3 (by omega), x61.2.1]; omega
end LOOP
