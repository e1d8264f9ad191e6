/-! THE PURE PART: town: what the reference does behind an operand -/
abbrev opK (K : Int) : Prop := K = 43 ∨ K = 45 ∨ K = 42 ∨ K = 47 ∨ K = 37
def opc (K : Int) : Int := if K = 43 then 31 else if K = 45 then 32 else if K = 42 then 33 else if K = 47 then 34 else 35
theorem nonOp_iff {K : Int} : nonOp K ↔ ¬ opK K := by unfold nonOp opK; omega
theorem b2i_d {p : Prop} [Decidable p] : b2i (decide p) = if p then 1 else 0 := by
  by_cases h : p <;> simp [h, b2i]
section GOES
variable {C : Mem} {cnt inb w j o : Nat} {L : List (Int × Int)} {P : List Int} {stk : List Fr} {ops : List Int} {X M : Mem} {f : Fr}
theorem goes_head (h : MS C inb w j o 1 L P (f :: stk) ops X M) (hl : m_lex M = some M) (hg : Good (C 0 j) (C 2 j) M) (hstk : stk.length < 19) (hf : 0 ≤ f.1 ∧ f.1 ≤ 6) (hp : 0 ≤ f.2.1 ∧ f.2.1 ≤ 2) :
    m_goesOn M = if f.2.1 < 2 ∧ opK (C 0 j) then m_goesOn_B87 M else m_goesOn_B188 (stk.length : Int) f.1 (if isT f then 1 else 0) M := by
  obtain ⟨-, ⟨h8, -⟩, s1, s2, s3, s4, ⟨⟨f1, f2, f3, f4, f5⟩, f6⟩, s6, s7, s8, s9⟩ := h
  have s43 := tok_sign hg (c := 43) (by unfold signK; omega)
  have s45 := tok_sign hg (c := 45) (by unfold signK; omega)
  have s42 := tok_sign hg (c := 42) (by unfold signK; omega)
  have s47 := tok_sign hg (c := 47) (by unfold signK; omega)
  have s37 := tok_sign hg (c := 37) (by unfold signK; omega)
  have t : (((f :: stk).length : Int) - 1) = (stk.length : Int) := by rw [List.length_cons]; omega
  have hlt : 0 ≤ (stk.length : Int) ∧ (stk.length : Int) < 20 := by omega
  unfold m_goesOn chk
  dsimp only [lt]
  rw [hl, bnd_some, h8, w32_0, if_pos (by omega), s4, t, if_pos hlt, Int.toNat_natCast, f1, m_isTest_eq hf, bnd_some, if_pos hlt, f2, b2i_d, s43, s45, s42, s47, s37]
  simp only [bnd_some, ifd]
  rw [w32_eq (x := (2 : Int)) (by omega) (by omega), w32_eq (x := f.2.1) (by omega) (by omega)]
  by_cases h2 : 2 ≤ f.2.1
  · rw [if_pos h2, if_neg (show ¬ (f.2.1 < 2 ∧ opK (C 0 j)) from fun q => by omega)]
  · rw [if_neg h2]
    by_cases k1 : C 0 j = 43
    · rw [if_pos k1, if_pos ⟨by omega, Or.inl k1⟩]
    rw [if_neg k1]
    by_cases k2 : C 0 j = 45
    · rw [if_pos k2, if_pos ⟨by omega, Or.inr (Or.inl k2)⟩]
    rw [if_neg k2]
    by_cases k3 : C 0 j = 42
    · rw [if_pos k3, if_pos ⟨by omega, Or.inr (Or.inr (Or.inl k3))⟩]
    rw [if_neg k3]
    by_cases k4 : C 0 j = 47
    · rw [if_pos k4, if_pos ⟨by omega, Or.inr (Or.inr (Or.inr (Or.inl k4)))⟩]
    rw [if_neg k4]
    by_cases k5 : C 0 j = 37
    · rw [if_pos k5, if_pos ⟨by omega, Or.inr (Or.inr (Or.inr (Or.inr k5)))⟩]
    rw [if_neg k5, if_neg (show ¬ (f.2.1 < 2 ∧ opK (C 0 j)) from fun q => by
      have q2 := q.2
      unfold opK at q2
      omega)]
/-- + - * / % -/
theorem goes_op (hC : TokC C cnt) (hA : AheadOK C cnt) (hj : j < cnt) (h : St C cnt inb w j o 1 L P (f :: stk) (P ++ ops) X M) (hl : m_lex M = some M) (hg : Good (C 0 j) (C 2 j) M) (hin : inb < 2) (ho : o ≤ 7) (hstk : stk.length ≤ 7) (hf : 0 ≤ f.1 ∧ f.1 ≤ 6) (hp : f.2.1 = 0 ∨ f.2.1 = 1)
    (hK : opK (C 0 j)) (hs : TopLt (if C 0 j = 43 ∨ C 0 j = 45 then 5 else 6) f.2.2.2.2 ops) (h400 : P.length + ops.length ≤ 200) (hP : ∀ p ∈ P, (if C 0 j = 43 ∨ C 0 j = 45 then 5 else 6) ≤ rk p) :
    ∃ M1, RdTo 1 M M1 1 ∧ FrPM inb M M1 ∧ MS C inb w (j + 1) o 0 (L ++ P.map (fun p => (p, 0))) [] (f :: stk) (opc (C 0 j) :: ops) X M1 ∧ j + 1 < cnt := by
  have hj1 := tok_next hC hj (by unfold opK at hK; omega) (by unfold opK at hK; omega)
  have hcn := hC.2.1
  have q1 : stk.length < 19 := Nat.lt_of_le_of_lt hstk (by decide)
  have q2 : 0 ≤ f.2.1 ∧ f.2.1 ≤ 2 := by rcases hp with e | e <;> rw [e] <;> decide
  have hcond : f.2.1 < 2 ∧ opK (C 0 j) := ⟨by rcases hp with e | e <;> rw [e] <;> decide, hK⟩
  obtain ⟨M2, a1, a2, a3⟩ := joins_ok h (least := if C 0 j = 43 ∨ C 0 j = 45 then 5 else 6) (by split <;> omega) hin (by omega) (by omega) (by omega) hs (by omega) hP
  have g2 := a2.2
  have hgood : Good (C 0 j) (C 2 j) M2 := by
    rcases g2.2.1.2.2.2.2 with ⟨q, -⟩ | ⟨-, -, -, -, q⟩
    · unfold opK at hK; omega
    · exact q
  obtain ⟨M3, b1, b2, b3, -⟩ := MS_op g2 (x := opc (C 0 j)) (by unfold opc; repeat' split <;> omega) (by omega)
  obtain ⟨M4, c1, c2, c3, -⟩ := MS_ahead hA b2 hj1
  obtain ⟨d1, d2⟩ := MS_flag c2 0
  have h8 := d1.2.1.1
  refine ⟨_, ?_, FrPM_trans a3 (FrPM_trans b3 (FrPM_trans c3 d2)), d1, hj1⟩
  have key : m_goesOn M = some (true, upM M4 0 42 0) := by
    rw [goes_head (P := P) h.2 hl hg q1 hf q2, if_pos hcond]
    have s43 := tok_sign hg (c := 43) (by unfold signK; omega)
    have s45 := tok_sign hg (c := 45) (by unfold signK; omega)
    have u43 := tok_sign hgood (c := 43) (by unfold signK; omega)
    have u45 := tok_sign hgood (c := 45) (by unfold signK; omega)
    have u42 := tok_sign hgood (c := 42) (by unfold signK; omega)
    have u47 := tok_sign hgood (c := 47) (by unfold signK; omega)
    have tail : ∀ s1, m_joins s1 M = some M2 → m_goesOn_B112 s1 M = some (true, upM M4 0 42 0) := fun s1 e => by
      have fin : m_goesOn_B174 (opc (C 0 j)) M2 = some (true, upM M4 0 42 0) := by
        unfold m_goesOn_B174
        dsimp only [lt]
        rw [b1, bnd_some, c1, bnd_some]
      unfold m_goesOn_B112
      rw [e, bnd_some, u43, u45, u42, u47]
      simp only [bnd_some, ifd]
      unfold opc at fin
      by_cases k1 : C 0 j = 43
      · rw [if_pos k1] at fin ⊢; exact fin
      rw [if_neg k1] at fin ⊢
      by_cases k2 : C 0 j = 45
      · rw [if_pos k2] at fin ⊢; exact fin
      rw [if_neg k2] at fin ⊢
      by_cases k3 : C 0 j = 42
      · rw [if_pos k3] at fin ⊢; exact fin
      rw [if_neg k3] at fin ⊢
      by_cases k4 : C 0 j = 47
      · rw [if_pos k4] at fin ⊢; exact fin
      rw [if_neg k4] at fin ⊢
      exact fin
    unfold m_goesOn_B87 m_goesOn_B106
    rw [s43, s45]
    simp only [bnd_some, ifd]
    by_cases k1 : C 0 j = 43
    · rw [if_pos k1]; rw [if_pos (Or.inl k1)] at a1; exact tail 5 a1
    rw [if_neg k1]
    by_cases k2 : C 0 j = 45
    · rw [if_pos k2]; rw [if_pos (Or.inr k2)] at a1; exact tail 5 a1
    rw [if_neg k2]
    rw [if_neg (by omega)] at a1
    exact tail 6 a1
  have t := turn_goes h.2.2.2.2.2.2.2.2.2.2.2 key (Or.inl h8)
  rw [if_pos ⟨rfl, h8⟩] at t
  exact t
/-- what is no sign of a sum -/
theorem goes_188 (h : MS C inb w j o 1 L P (f :: stk) ops X M) (hl : m_lex M = some M) (hg : Good (C 0 j) (C 2 j) M) (hstk : stk.length < 19) (hf : 0 ≤ f.1 ∧ f.1 ≤ 6) (hp : 0 ≤ f.2.1 ∧ f.2.1 ≤ 2) (hn : f.2.1 = 2 ∨ nonOp (C 0 j)) :
    m_goesOn M = m_goesOn_B188 (stk.length : Int) f.1 (if isT f then 1 else 0) M := by
  rw [goes_head h hl hg hstk hf hp, if_neg (fun q => by
    rcases hn with e | e
    · omega
    · exact nonOp_iff.mp e q.2)]
theorem goes_422 (h : MS C inb w j o 1 L P (f :: stk) ops X M) (hl : m_lex M = some M) (hg : Good (C 0 j) (C 2 j) M) (hstk : stk.length < 19) (hf : 0 ≤ f.1 ∧ f.1 ≤ 6) (hp : 0 ≤ f.2.1 ∧ f.2.1 ≤ 2) (hn : f.2.1 = 2 ∨ nonOp (C 0 j)) (ht : ¬ isT f ∨ (f.2.1 ≠ 0 ∧ C 0 j ≠ 17 ∧ C 0 j ≠ 18)) :
    m_goesOn M = m_goesOn_B422 (stk.length : Int) f.1 M := by
  rw [goes_188 h hl hg hstk hf hp hn]
  obtain ⟨-, -, -, -, -, -, ⟨⟨-, f2, -⟩, -⟩, -⟩ := h
  have w18 : m_isWord 6385252 M = some (decide (C 0 j = 18)) := tok_word hg 18 (by omega)
  have w17 : m_isWord 28530 M = some (decide (C 0 j = 17)) := tok_word hg 17 (by omega)
  have hlt : 0 ≤ (stk.length : Int) ∧ (stk.length : Int) < 20 := by omega
  have w1 : w32 1 = 1 := w32_eq (by omega) (by omega)
  unfold m_goesOn_B188 m_goesOn_B285 m_goesOn_B400 chk
  rw [Int.toNat_natCast, f2, w18, w17]
  simp only [bnd_some, ifd]
  rcases ht with e | ⟨e1, e2, e3⟩
  · rw [if_neg e, w32_0, if_pos rfl, if_pos rfl, if_pos rfl]
  · by_cases hT : isT f
    · have e0 : ¬ w32 f.2.1 = 0 := by rw [w32_eq (by omega) (by omega)]; exact e1
      rw [if_pos hT, w1, if_neg (by omega), if_pos hlt, if_pos e0, if_neg (by omega), if_neg e3, if_neg e2, if_neg (by omega), if_pos hlt, if_pos e0]
    · rw [if_neg hT, w32_0, if_pos rfl, if_pos rfl, if_pos rfl]
/-- a test without its comparison -/
theorem goes_bad (h : MS C inb w j o 1 L P (f :: stk) ops X M) (hl : m_lex M = some M) (hg : Good (C 0 j) (C 2 j) M) (h4 : M 0 4 = C 1 j) (hstk : stk.length < 19) (hf : 0 ≤ f.1 ∧ f.1 ≤ 6) (hT : isT f) (hp : f.2.1 = 0) (hn : nonOp (C 0 j)) (hK : C 0 j ≠ 60 ∧ C 0 j ≠ 62 ∧ C 0 j ≠ 61) :
    m_goesOn M = some (false, fM C j 1 M) := by
  rw [goes_188 h hl hg hstk hf (by omega) (Or.inr hn)]
  have h8 := h.2.1.1
  obtain ⟨-, -, -, -, -, -, ⟨⟨-, f2, -⟩, -⟩, -⟩ := h
  have w18 : m_isWord 6385252 M = some (decide (C 0 j = 18)) := tok_word hg 18 (by omega)
  have w17 : m_isWord 28530 M = some (decide (C 0 j = 17)) := tok_word hg 17 (by omega)
  have s60 := tok_sign hg (c := 60) (by unfold signK; omega)
  have s62 := tok_sign hg (c := 62) (by unfold signK; omega)
  have s61 := tok_sign hg (c := 61) (by unfold signK; omega)
  have hlt : 0 ≤ (stk.length : Int) ∧ (stk.length : Int) < 20 := by omega
  have w1 : w32 1 = 1 := w32_eq (by omega) (by omega)
  have hbl : m_blame 1 (C 1 j) M = some (fM C j 1 M) := m_blame_eq h8
  have e8 : (fM C j 1 M) 0 8 = 1 := fM_8.1
  have n0 : ¬ w32 ((fM C j 1 M) 0 8) = 0 := by rw [e8, w1]; omega
  have n1 : ¬ w32 ((fM C j 1 M) 0 8) ≤ 0 := by rw [e8, w1]; omega
  have hsg : ∀ c, ∃ r, m_isSign c (fM C j 1 M) = some r := fun c => by
    unfold m_isSign
    split
    · exact ⟨_, rfl⟩
    · split <;> exact ⟨_, rfl⟩
  have hb2 : ∀ a, m_blame 1 a (fM C j 1 M) = some (fM C j 1 M) := fun a => m_blame_f (by omega)
  obtain ⟨r44, h44⟩ := hsg 44
  obtain ⟨r93, h93⟩ := hsg 93
  obtain ⟨r41, h41⟩ := hsg 41
  have end422 : m_goesOn_B422 (stk.length : Int) f.1 (fM C j 1 M) = some (false, fM C j 1 M) := by
    have k1 : m_goesOn_B470 (stk.length : Int) f.1 (fM C j 1 M) = some (false, fM C j 1 M) := by unfold m_goesOn_B470; rw [if_neg n1]
    have k2 : m_goesOn_B546 (stk.length : Int) f.1 (fM C j 1 M) = some (false, fM C j 1 M) := by unfold m_goesOn_B546; rw [if_neg n1]
    have k3 : m_goesOn_B452 (stk.length : Int) f.1 (fM C j 1 M) = some (false, fM C j 1 M) := by
      unfold m_goesOn_B452
      rw [h44, bnd_some, hb2, bnd_some, k1]
      split <;> rfl
    have k4 : ∀ s, (s = 93 ∨ s = 41) → m_goesOn_B531 (stk.length : Int) f.1 s (fM C j 1 M) = some (false, fM C j 1 M) := fun s hs => by
      unfold m_goesOn_B531
      rcases hs with rfl | rfl
      · rw [h93, bnd_some, hb2, bnd_some, k2]; split <;> rfl
      · rw [h41, bnd_some, hb2, bnd_some, k2]; split <;> rfl
    unfold m_goesOn_B422
    rw [k3, k4 93 (Or.inl rfl), k4 41 (Or.inr rfl), if_pos n0]
    repeat' split
    all_goals rfl
  have e309 : m_goesOn_B309 (stk.length : Int) M = some (false, fM C j 1 M) := by
    unfold m_goesOn_B309 m_goesOn_B327 chk
    rw [Int.toNat_natCast, f2, hp, w32_0, if_pos hlt, if_neg (by omega), h4, hbl, bnd_some, if_neg n1]
  have e400 : m_goesOn_B400 (stk.length : Int) f.1 1 M = some (false, fM C j 1 M) := by
    unfold m_goesOn_B400 chk
    rw [Int.toNat_natCast, f2, hp, w1, w32_0, if_neg (by omega), if_pos hlt, if_neg (by omega), h4, hbl, bnd_some, end422]
  have e285 : m_goesOn_B285 (stk.length : Int) f.1 1 M = some (false, fM C j 1 M) := by
    unfold m_goesOn_B285
    rw [w18, w17, e309, e400, w1, if_neg (by omega), bnd_some, bnd_some]
    split
    · rfl
    · split <;> rfl
  unfold m_goesOn_B188 chk
  rw [if_pos hT, Int.toNat_natCast, f2, hp, s60, s62, s61, w1, w32_0, if_neg (by omega), if_pos hlt, if_neg (by omega)]
  simp only [bnd_some, ifd]
  rw [if_neg hK.1, if_neg hK.2.1, if_neg hK.2.2, e285]
end GOES
