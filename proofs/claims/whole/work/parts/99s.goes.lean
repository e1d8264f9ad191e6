/-! THE PURE PART: town: comparisons, and, or, what closes -/
def cmpc (K : Int) : Int := if K = 60 then 38 else if K = 62 then 39 else 40
def ups (P : List Int) : List (Int × Int) := P.map (fun p => (p, 0))
theorem good_of_cur {C : Mem} {j : Nat} {M : Mem} (h : Cur C j M) (hk : C 0 j ≠ 26) : Good (C 0 j) (C 2 j) M ∧ M 0 4 = C 1 j ∧ m_lex M = some M := by
  rcases lex_cases h with ⟨a, -⟩ | ⟨a, b, c, d⟩
  · exact absurd a hk
  · exact ⟨d, b, a⟩
section GOES2
variable {C : Mem} {cnt inb w j o : Nat} {L : List (Int × Int)} {P : List Int} {stk : List Fr} {ops : List Int} {X M : Mem} {f : Fr}
theorem goes_cmp (hC : TokC C cnt) (hA : AheadOK C cnt) (hj : j < cnt) (h : St C cnt inb w j o 1 L P (f :: stk) (P ++ ops) X M) (hin : inb < 2) (ho : o ≤ 7) (hstk : stk.length ≤ 7) (hf : 0 ≤ f.1 ∧ f.1 ≤ 6) (hT : isT f) (hp : f.2.1 = 0)
    (hK : C 0 j = 60 ∨ C 0 j = 62 ∨ C 0 j = 61) (hs : TopLt 5 f.2.2.2.2 ops) (h400 : P.length + ops.length ≤ 200) (hP : ∀ p ∈ P, 5 ≤ rk p) :
    ∃ M1, RdTo 1 M M1 1 ∧ FrPM inb M M1 ∧ MS C inb w (j + 1) o 0 (L ++ ups P) [] ((f.1, 1, f.2.2.1, f.2.2.2.1, f.2.2.2.2) :: stk) (cmpc (C 0 j) :: ops) X M1 ∧ j + 1 < cnt := by
  have hj1 := tok_next hC hj (by omega) (by omega)
  have hcn := hC.2.1
  have q1 : stk.length < 19 := Nat.lt_of_le_of_lt hstk (by decide)
  have q2 : 0 ≤ f.2.1 ∧ f.2.1 ≤ 2 := by rw [hp]; decide
  have q3 : nonOp (C 0 j) := by unfold nonOp; omega
  have q4 : C 0 j ≠ 26 := by omega
  obtain ⟨hg, h4, hl⟩ := good_of_cur h.2.2.1 q4
  obtain ⟨M2, a1, a2, a3⟩ := joins_ok h (least := 5) (by omega) hin q1 (by omega) (by omega) hs (by omega) hP
  have g2 := a2.2
  obtain ⟨hg2, -, -⟩ := good_of_cur g2.2.1 q4
  obtain ⟨M3, b1, b2, b3, -⟩ := MS_op g2 (x := cmpc (C 0 j)) (by unfold cmpc; repeat' split <;> omega) (by omega)
  obtain ⟨b4, b5⟩ := MS_top b2 (k := 19) (v := 1) (by omega) (f.1, 1, f.2.2.1, f.2.2.2.1, f.2.2.2.2) rfl (by simp) (by simp) (by simp) (by simp)
  obtain ⟨M4, c1, c2, c3, -⟩ := MS_ahead hA b4 hj1
  obtain ⟨d1, d2⟩ := MS_flag c2 0
  have h8 := d1.2.1.1
  refine ⟨_, ?_, FrPM_trans a3 (FrPM_trans b3 (FrPM_trans b5 (FrPM_trans c3 d2))), d1, hj1⟩
  have key : m_goesOn M = some (true, upM M4 0 42 0) := by
    rw [goes_188 (P := P) h.2 hl hg q1 hf q2 (Or.inr q3)]
    obtain ⟨-, -, -, -, -, -, -, ⟨⟨-, f2, -⟩, -⟩, -⟩ := h
    have s60 := tok_sign hg (c := 60) (by unfold signK; omega)
    have s62 := tok_sign hg (c := 62) (by unfold signK; omega)
    have s61 := tok_sign hg (c := 61) (by unfold signK; omega)
    have u60 := tok_sign hg2 (c := 60) (by unfold signK; omega)
    have u62 := tok_sign hg2 (c := 62) (by unfold signK; omega)
    have hlt : 0 ≤ (stk.length : Int) ∧ (stk.length : Int) < 20 := by clear hs hP; omega
    have w1 : w32 1 = 1 := w32_eq (by omega) (by omega)
    have fin : m_goesOn_B264 (stk.length : Int) (cmpc (C 0 j)) M2 = some (true, upM M4 0 42 0) := by
      unfold m_goesOn_B264 chk
      dsimp only [lt]
      rw [b1, bnd_some, if_pos hlt, Int.toNat_natCast, c1, bnd_some]
    have e228 : m_goesOn_B228 (stk.length : Int) M = some (true, upM M4 0 42 0) := by
      unfold m_goesOn_B228
      rw [a1, bnd_some, u60, u62]
      simp only [bnd_some, ifd]
      unfold cmpc at fin
      by_cases k1 : C 0 j = 60
      · rw [if_pos k1] at fin ⊢; exact fin
      rw [if_neg k1] at fin ⊢
      by_cases k2 : C 0 j = 62
      · rw [if_pos k2] at fin ⊢; exact fin
      rw [if_neg k2] at fin ⊢
      exact fin
    unfold m_goesOn_B188 chk
    rw [if_pos hT, Int.toNat_natCast, f2, hp, w32_0, w1, s60, s62, s61, if_neg (by decide), if_pos hlt, if_neg (by decide)]
    simp only [bnd_some, ifd]
    by_cases k1 : C 0 j = 60
    · rw [if_pos k1]; exact e228
    rw [if_neg k1]
    by_cases k2 : C 0 j = 62
    · rw [if_pos k2]; exact e228
    rw [if_neg k2, if_pos (by omega)]
    exact e228
  have t := turn_goes h.2.2.2.2.2.2.2.2.2.2.2 key (Or.inl h8)
  rw [if_pos ⟨rfl, h8⟩] at t
  exact t
/-- and (18), or (17) -/
theorem goes_and (hC : TokC C cnt) (hA : AheadOK C cnt) (hj : j < cnt) (h : St C cnt inb w j o 1 L P (f :: stk) (P ++ ops) X M) (hin : inb < 2) (ho : o ≤ 7) (hstk : stk.length ≤ 7) (hf : 0 ≤ f.1 ∧ f.1 ≤ 6) (hT : isT f) (hp : f.2.1 = 1 ∨ f.2.1 = 2)
    (hK : C 0 j = 17 ∨ C 0 j = 18) (hs : TopLt (if C 0 j = 18 then 2 else 1) f.2.2.2.2 ops) (h400 : P.length + ops.length ≤ 200) (hP : ∀ p ∈ P, (if C 0 j = 18 then 2 else 1) ≤ rk p) :
    ∃ M1, RdTo 1 M M1 1 ∧ FrPM inb M M1 ∧ MS C inb w (j + 1) o 0 (L ++ ups P) [] ((f.1, 0, 1, f.2.2.2.1, f.2.2.2.2) :: stk) ((if C 0 j = 18 then 41 else 42) :: ops) X M1 ∧ j + 1 < cnt := by
  have hj1 := tok_next hC hj (by omega) (by omega)
  have hcn := hC.2.1
  have q1 : stk.length < 19 := Nat.lt_of_le_of_lt hstk (by decide)
  have q2 : 0 ≤ f.2.1 ∧ f.2.1 ≤ 2 := by rcases hp with e | e <;> rw [e] <;> decide
  have q3 : nonOp (C 0 j) := by unfold nonOp; omega
  have q4 : C 0 j ≠ 26 := by omega
  obtain ⟨hg, h4, hl⟩ := good_of_cur h.2.2.1 q4
  obtain ⟨M2, a1, a2, a3⟩ := joins_ok h (least := if C 0 j = 18 then 2 else 1) (by split <;> decide) hin q1 (by omega) (by omega) hs (by omega) hP
  have g2 := a2.2
  obtain ⟨M3, b1, b2, b3, -⟩ := MS_op g2 (x := if C 0 j = 18 then 41 else 42) (by split <;> decide) (by omega)
  obtain ⟨b4, b5⟩ := MS_top b2 (k := 19) (v := 0) (by omega) (f.1, 0, f.2.2.1, f.2.2.2.1, f.2.2.2.2) rfl (by simp) (by simp) (by simp) (by simp)
  obtain ⟨b6, b7⟩ := MS_top b4 (k := 20) (v := 1) (by omega) (f.1, 0, 1, f.2.2.2.1, f.2.2.2.2) rfl (by simp) (by simp) (by simp) (by simp)
  obtain ⟨M4, c1, c2, c3, -⟩ := MS_ahead hA b6 hj1
  obtain ⟨d1, d2⟩ := MS_flag c2 0
  have h8 := d1.2.1.1
  refine ⟨_, ?_, FrPM_trans a3 (FrPM_trans b3 (FrPM_trans b5 (FrPM_trans b7 (FrPM_trans c3 d2)))), d1, hj1⟩
  have key : m_goesOn M = some (true, upM M4 0 42 0) := by
    rw [goes_188 (P := P) h.2 hl hg q1 hf q2 (Or.inr q3)]
    have h8m := h.2.2.1.1
    obtain ⟨-, -, -, -, -, -, -, ⟨⟨-, f2, -⟩, -⟩, -⟩ := h
    have w18 : m_isWord 6385252 M = some (decide (C 0 j = 18)) := tok_word hg 18 (by omega)
    have w17 : m_isWord 28530 M = some (decide (C 0 j = 17)) := tok_word hg 17 (by omega)
    have hlt : 0 ≤ (stk.length : Int) ∧ (stk.length : Int) < 20 := by clear hs hP; omega
    have w1 : w32 1 = 1 := w32_eq (by omega) (by omega)
    have hp0 : ¬ w32 f.2.1 = 0 := by rcases hp with e | e <;> rw [e] <;> decide +kernel
    have fin : m_goesOn_B372 (stk.length : Int) (if C 0 j = 18 then 41 else 42) M2 = some (true, upM M4 0 42 0) := by
      unfold m_goesOn_B372 chk
      dsimp only [lt]
      rw [b1, bnd_some, if_pos hlt, if_pos hlt, Int.toNat_natCast, c1, bnd_some]
    have e327 : m_goesOn_B327 (stk.length : Int) M = some (true, upM M4 0 42 0) := by
      unfold m_goesOn_B327 m_goesOn_B356
      dsimp only [lt]
      rw [h8m, w32_0, if_pos (by decide), w18, bnd_some, b2i_d]
      by_cases k : C 0 j = 18
      · rw [if_pos k] at a1 fin ⊢
        rw [w1, if_neg (by decide), a1, bnd_some, if_neg (by decide)]
        exact fin
      · rw [if_neg k] at a1 fin ⊢
        rw [w32_0, if_pos rfl, a1, bnd_some, if_pos rfl]
        exact fin
    have e309 : m_goesOn_B309 (stk.length : Int) M = some (true, upM M4 0 42 0) := by
      unfold m_goesOn_B309 chk
      rw [if_pos hlt, Int.toNat_natCast, f2, if_pos hp0, e327]
    unfold m_goesOn_B188 m_goesOn_B285 chk
    rw [if_pos hT, Int.toNat_natCast, f2, w1, if_neg (by decide), if_pos hlt, if_pos hp0, if_neg (by decide), w18, w17]
    simp only [bnd_some, ifd]
    by_cases k : C 0 j = 18
    · rw [if_pos k]; exact e309
    · rw [if_neg k, if_pos (by omega)]; exact e309
  have t := turn_goes h.2.2.2.2.2.2.2.2.2.2.2 key (Or.inl h8)
  rw [if_pos ⟨rfl, h8⟩] at t
  exact t
/-- a comma: from kind 3 to 4, from 6 to 3 -/
theorem goes_comma (hC : TokC C cnt) (hA : AheadOK C cnt) (hj : j < cnt) (h : St C cnt inb w j o 1 L P (f :: stk) (P ++ ops) X M) (hin : inb < 2) (ho : o ≤ 7) (hstk : stk.length ≤ 7) (hf : f.1 = 3 ∨ f.1 = 6) (hp : 0 ≤ f.2.1 ∧ f.2.1 ≤ 2) (hn : f.2.1 = 2 ∨ nonOp (C 0 j)) (ht : ¬ isT f ∨ (f.2.1 ≠ 0 ∧ C 0 j ≠ 17 ∧ C 0 j ≠ 18))
    (hK : C 0 j = 44) (hs : ops.length = f.2.2.2.2) (h400 : P.length + ops.length ≤ 200) :
    ∃ M1, RdTo 1 M M1 1 ∧ FrPM inb M M1 ∧ MS C inb w (j + 1) o 0 (L ++ ups P) [] ((if f.1 = 3 then 4 else 3, 0, f.2.2.1, f.2.2.2.1, f.2.2.2.2) :: stk) ops X M1 ∧ j + 1 < cnt := by
  have hj1 := tok_next hC hj (by omega) (by omega)
  have hcn := hC.2.1
  have q1 : stk.length < 19 := by omega
  have q4 : C 0 j ≠ 26 := by omega
  obtain ⟨hg, h4, hl⟩ := good_of_cur h.2.2.1 q4
  obtain ⟨M2, a1, a2, a3⟩ := joins_ok h (least := 1) (by omega) hin q1 (by omega) (by omega) (Or.inl hs) (by omega) (fun p _ => (rk_rng p).1)
  have g2 := a2.2
  obtain ⟨b2, b3⟩ := MS_top g2 (k := 18) (v := if f.1 = 3 then 4 else 3) (by omega) (if f.1 = 3 then 4 else 3, f.2.1, f.2.2.1, f.2.2.2.1, f.2.2.2.2) rfl (by simp) (by simp) (by simp) (by simp)
  obtain ⟨b4, b5⟩ := MS_top b2 (k := 19) (v := 0) (by omega) (if f.1 = 3 then 4 else 3, 0, f.2.2.1, f.2.2.2.1, f.2.2.2.2) rfl (by simp) (by simp) (by simp) (by simp)
  obtain ⟨M4, c1, c2, c3, -⟩ := MS_ahead hA b4 hj1
  obtain ⟨d1, d2⟩ := MS_flag c2 0
  have h8 := d1.2.1.1
  refine ⟨_, ?_, FrPM_trans a3 (FrPM_trans b3 (FrPM_trans b5 (FrPM_trans c3 d2))), d1, hj1⟩
  have key : m_goesOn M = some (true, upM M4 0 42 0) := by
    rw [goes_422 (P := P) h.2 hl hg q1 (by omega) hp hn ht]
    have h8m := h.2.2.1.1
    have s44 := tok_sign hg (c := 44) (by unfold signK; omega)
    have hlt : 0 ≤ (stk.length : Int) ∧ (stk.length : Int) < 20 := by omega
    have w3 : w32 3 = 3 := w32_eq (by omega) (by omega)
    have w2 : w32 2 = 2 := w32_eq (by omega) (by omega)
    have wf : w32 f.1 = f.1 := w32_eq (by omega) (by omega)
    have e499 : ∀ s2, s2 = (if f.1 = 3 then 4 else 3) → m_goesOn_B499 (stk.length : Int) (stk.length : Int) s2 M2 = some (true, upM M4 0 42 0) := fun s2 e => by
      subst e
      unfold m_goesOn_B499 chk
      dsimp only [lt]
      rw [if_pos hlt, if_pos hlt, Int.toNat_natCast, c1, bnd_some]
    have e452 : m_goesOn_B452 (stk.length : Int) f.1 M = some (true, upM M4 0 42 0) := by
      unfold m_goesOn_B452 m_goesOn_B470
      rw [s44, bnd_some, ifd, if_pos hK, h8m, w32_0, if_pos (by decide), a1, bnd_some, wf, w3]
      by_cases k : f.1 = 3
      · rw [if_neg (by omega)]; exact e499 4 (by rw [if_pos k])
      · rw [if_pos k]; exact e499 3 (by rw [if_neg k])
    unfold m_goesOn_B422
    rw [wf, w2, w3, if_pos (by omega)]
    by_cases k : f.1 = 3
    · rw [if_pos k]; exact e452
    · rw [if_neg k, w32_eq (x := (6 : Int)) (by omega) (by omega), if_neg (by omega)]; exact e452
  have t := turn_goes h.2.2.2.2.2.2.2.2.2.2.2 key (Or.inl h8)
  rw [if_pos ⟨rfl, h8⟩] at t
  exact t
theorem goes_comma_bad (h : MS C inb w j o 1 L P (f :: stk) ops X M) (hl : m_lex M = some M) (hg : Good (C 0 j) (C 2 j) M) (h4 : M 0 4 = C 1 j) (hstk : stk.length < 19) (hf : f.1 = 3 ∨ f.1 = 6) (hp : 0 ≤ f.2.1 ∧ f.2.1 ≤ 2) (hn : f.2.1 = 2 ∨ nonOp (C 0 j)) (ht : ¬ isT f ∨ (f.2.1 ≠ 0 ∧ C 0 j ≠ 17 ∧ C 0 j ≠ 18)) (hK : C 0 j ≠ 44) :
    m_goesOn M = some (false, fM C j 1 M) := by
  rw [goes_422 h hl hg hstk (by omega) hp hn ht]
  have h8 := h.2.1.1
  have s44 := tok_sign hg (c := 44) (by unfold signK; omega)
  have w3 : w32 3 = 3 := w32_eq (by omega) (by omega)
  have w2 : w32 2 = 2 := w32_eq (by omega) (by omega)
  have wf : w32 f.1 = f.1 := w32_eq (by omega) (by omega)
  have hbl : m_blame 1 (C 1 j) M = some (fM C j 1 M) := m_blame_eq h8
  have e8 : (fM C j 1 M) 0 8 = 1 := fM_8.1
  have n1 : ¬ w32 ((fM C j 1 M) 0 8) ≤ 0 := by rw [e8, w32_eq (by omega) (by omega)]; omega
  have e452 : m_goesOn_B452 (stk.length : Int) f.1 M = some (false, fM C j 1 M) := by
    unfold m_goesOn_B452 m_goesOn_B470
    rw [s44, bnd_some, ifd, if_neg hK, h4, hbl, bnd_some, if_neg n1]
  unfold m_goesOn_B422
  rw [wf, w2, w3, if_pos (by omega)]
  by_cases k : f.1 = 3
  · rw [if_pos k]; exact e452
  · rw [if_neg k, w32_eq (x := (6 : Int)) (by omega) (by omega), if_neg (by omega)]; exact e452
/-- ) or ] that isn't there -/
theorem goes_close_bad (h : MS C inb w j o 1 L P (f :: stk) ops X M) (hl : m_lex M = some M) (hg : Good (C 0 j) (C 2 j) M) (h4 : M 0 4 = C 1 j) (hstk : stk.length < 19) (hf : f.1 = 2 ∨ f.1 = 4 ∨ f.1 = 5) (hp : 0 ≤ f.2.1 ∧ f.2.1 ≤ 2) (hn : f.2.1 = 2 ∨ nonOp (C 0 j)) (ht : ¬ isT f ∨ (f.2.1 ≠ 0 ∧ C 0 j ≠ 17 ∧ C 0 j ≠ 18)) (hK : C 0 j ≠ (if f.1 = 5 then 93 else 41)) :
    m_goesOn M = some (false, fM C j 1 M) := by
  rw [goes_422 h hl hg hstk (by omega) hp hn ht]
  have h8 := h.2.1.1
  have s41 := tok_sign hg (c := 41) (by unfold signK; omega)
  have s93 := tok_sign hg (c := 93) (by unfold signK; omega)
  have wf : w32 f.1 = f.1 := w32_eq (by omega) (by omega)
  have hbl : m_blame 1 (C 1 j) M = some (fM C j 1 M) := m_blame_eq h8
  have e8 : (fM C j 1 M) 0 8 = 1 := fM_8.1
  have n1 : ¬ w32 ((fM C j 1 M) 0 8) ≤ 0 := by rw [e8, w32_eq (by omega) (by omega)]; omega
  have e531 : ∀ s, s = (if f.1 = 5 then 93 else 41) → m_goesOn_B531 (stk.length : Int) f.1 s M = some (false, fM C j 1 M) := fun s e => by
    have hs : m_isSign s M = some (decide (C 0 j = s)) := by
      rw [e]
      split
      · exact s93
      · exact s41
    unfold m_goesOn_B531 m_goesOn_B546
    rw [hs, bnd_some, ifd, if_neg (by rw [e]; exact hK), h4, hbl, bnd_some, if_neg n1]
  unfold m_goesOn_B422
  rw [wf, w32_eq (x := (2 : Int)) (by omega) (by omega), w32_eq (x := (3 : Int)) (by omega) (by omega), w32_eq (x := (5 : Int)) (by omega) (by omega), w32_eq (x := (6 : Int)) (by omega) (by omega), if_pos (by omega), if_neg (by omega), if_pos (by omega)]
  by_cases k : f.1 = 5
  · rw [if_neg (by omega)]; exact e531 93 (by rw [if_pos k])
  · rw [if_pos k]; exact e531 41 (by rw [if_neg k])
end GOES2
