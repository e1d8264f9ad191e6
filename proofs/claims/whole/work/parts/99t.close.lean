/-! THE PURE PART: town: what closes; the end of a rule -/
theorem ups_len (P : List Int) : (ups P).length = P.length := List.length_map _
section CLOSE
variable {C : Mem} {cnt inb w j o : Nat} {L : List (Int × Int)} {P : List Int} {stk : List Fr} {ops : List Int} {X M : Mem} {f : Fr}
/-- the frame goes, one less is open -/
theorem close_mid (hC : TokC C cnt) (hj : j < cnt) (h : St C cnt inb w j o 1 L P (f :: stk) (P ++ ops) X M) (hin : inb < 2) (ho : 1 ≤ o ∧ o ≤ 7) (hstk : stk.length ≤ 7) (hs : ops.length = f.2.2.2.2) (h400 : P.length + ops.length ≤ 200) :
    ∃ M2 M3, m_joins 1 M = some M2 ∧ M3 = upM (upM M2 0 38 (M2 0 38 - 1)) 0 39 ((upM M2 0 38 (M2 0 38 - 1)) 0 39 - 1) ∧ FrPM inb M M3 ∧ MS C inb w j (o - 1) 1 (L ++ ups P) [] stk ops X M3 ∧ (f.2.2.2.1 ≠ 0 → M3 21 stk.length = f.2.2.2.1) := by
  have hcn := hC.2.1
  obtain ⟨M2, a1, a2, a3⟩ := joins_ok h (least := 1) (by omega) hin (by omega) (by omega) (by omega) (Or.inl hs) (by omega) (fun p _ => (rk_rng p).1)
  have g2 := a2.2
  have e38 : M2 0 38 - 1 = (stk.length : Int) := by rw [g2.2.2.2.2.2.1, List.length_cons]; omega
  obtain ⟨b1, b2⟩ := MS_pop g2 e38
  have e39 : (upM M2 0 38 (M2 0 38 - 1)) 0 39 - 1 = (((o - 1) + nots [] : Nat) : Int) := by
    rw [b1.2.2.2.2.2.2.2.1]
    show (((o + 0 : Nat) : Int)) - 1 = ((o - 1 + 0 : Nat) : Int)
    omega
  obtain ⟨c1, c2⟩ := MS_open b1 (o - 1) e39
  refine ⟨M2, _, a1, rfl, FrPM_trans a3 (FrPM_trans b2 c2), c1, fun hq => ?_⟩
  rw [up_k (by omega), up_k (by omega)]
  exact g2.2.2.2.2.2.2.1.1.2.2.2.1 hq
theorem close_546 (h : MS C inb w j o 1 L P (f :: stk) ops X M) (hl : m_lex M = some M) (hg : Good (C 0 j) (C 2 j) M) (hstk : stk.length < 19) (hf : f.1 = 2 ∨ f.1 = 4 ∨ f.1 = 5) (hp : 0 ≤ f.2.1 ∧ f.2.1 ≤ 2) (hn : f.2.1 = 2 ∨ nonOp (C 0 j)) (ht : ¬ isT f ∨ (f.2.1 ≠ 0 ∧ C 0 j ≠ 17 ∧ C 0 j ≠ 18)) (hK : C 0 j = (if f.1 = 5 then 93 else 41)) :
    m_goesOn M = m_goesOn_B546 (stk.length : Int) f.1 M := by
  rw [goes_422 h hl hg hstk (by omega) hp hn ht]
  have s41 := tok_sign hg (c := 41) (by unfold signK; omega)
  have s93 := tok_sign hg (c := 93) (by unfold signK; omega)
  have wf : w32 f.1 = f.1 := w32_eq (by omega) (by omega)
  have e531 : ∀ s, s = (if f.1 = 5 then 93 else 41) → m_goesOn_B531 (stk.length : Int) f.1 s M = m_goesOn_B546 (stk.length : Int) f.1 M := fun s e => by
    have hs : m_isSign s M = some (decide (C 0 j = s)) := by
      rw [e]
      split
      · exact s93
      · exact s41
    unfold m_goesOn_B531
    rw [hs, bnd_some, ifd, if_pos (by rw [e]; exact hK)]
  unfold m_goesOn_B422
  rw [wf, w32_eq (x := (2 : Int)) (by omega) (by omega), w32_eq (x := (3 : Int)) (by omega) (by omega), w32_eq (x := (5 : Int)) (by omega) (by omega), w32_eq (x := (6 : Int)) (by omega) (by omega), if_pos (by omega), if_neg (by omega), if_pos (by omega)]
  by_cases k : f.1 = 5
  · rw [if_neg (by omega)]; exact e531 93 (by rw [if_pos k])
  · rw [if_pos k]; exact e531 41 (by rw [if_neg k])
theorem goes_close2 (hC : TokC C cnt) (hA : AheadOK C cnt) (hj : j < cnt) (h : St C cnt inb w j o 1 L P (f :: stk) (P ++ ops) X M) (hin : inb < 2) (ho : 1 ≤ o ∧ o ≤ 7) (hstk : stk.length ≤ 7) (hf : f.1 = 2) (hp : 0 ≤ f.2.1 ∧ f.2.1 ≤ 2) (hn : nonOp (C 0 j)) (hK : C 0 j = 41) (hs : ops.length = f.2.2.2.2) (h400 : P.length + ops.length ≤ 200) :
    ∃ M1, RdTo 1 M M1 1 ∧ FrPM inb M M1 ∧ MS C inb w (j + 1) (o - 1) 1 (L ++ ups P) [] stk ops X M1 ∧ j + 1 < cnt := by
  have hj1 := tok_next hC hj (by omega) (by omega)
  obtain ⟨hg, h4, hl⟩ := good_of_cur h.2.2.1 (by omega)
  obtain ⟨M2, M3, a1, a2, a3, a4, -⟩ := close_mid hC hj h hin ho hstk hs h400
  obtain ⟨M4, c1, c2, c3, -⟩ := MS_ahead hA a4 hj1
  have h8 := c2.2.1.1
  refine ⟨M4, ?_, FrPM_trans a3 c3, c2, hj1⟩
  have key : m_goesOn M = some (true, M4) := by
    rw [close_546 (P := P) h.2 hl hg (by omega) (Or.inl hf) hp (Or.inr hn) (Or.inl (by unfold isT; omega)) (by rw [if_neg (by omega)]; exact hK)]
    have h8m := h.2.2.1.1
    unfold m_goesOn_B546 m_goesOn_B596
    dsimp only [lt]
    rw [h8m, w32_0, if_pos (by omega), a1, bnd_some, ← a2, hf, w32_eq (x := (2 : Int)) (by omega) (by omega), w32_eq (x := (4 : Int)) (by omega) (by omega), w32_eq (x := (5 : Int)) (by omega) (by omega), if_pos (by omega), if_pos (by omega), c1, bnd_some]
  have t := turn_goes h.2.2.2.2.2.2.2.2.2.2.2 key (Or.inl h8)
  rw [if_pos ⟨rfl, h8⟩] at t
  exact t
theorem goes_close4 {X1 : Mem} (hC : TokC C cnt) (hA : AheadOK C cnt) (hj : j < cnt) (h : St C cnt inb w j o 1 L P (f :: stk) (P ++ ops) X M) (hin : inb < 2) (ho : 1 ≤ o ∧ o ≤ 7) (hstk : stk.length ≤ 7) (hf : f.1 = 4) (hp : 0 ≤ f.2.1 ∧ f.2.1 ≤ 2) (hn : nonOp (C 0 j)) (hK : C 0 j = 41) (hs : ops.length = f.2.2.2.2) (h400 : P.length + ops.length ≤ 200) (hpr : f.2.2.2.1 ≠ 0)
    (hX : CodeEq (X1 15 (L.length + P.length)) f.2.2.2.1 0) (hX1 : ∀ i, i < L.length + P.length → X1 15 i = X 15 i) :
    ∃ M1, RdTo 1 M M1 1 ∧ FrPM inb M M1 ∧ MS C inb w (j + 1) (o - 1) 1 ((L ++ ups P) ++ [(f.2.2.2.1, 0)]) [] stk ops X1 M1 ∧ j + 1 < cnt := by
  have hj1 := tok_next hC hj (by omega) (by omega)
  have hcn := hC.2.1
  obtain ⟨hg, h4, hl⟩ := good_of_cur h.2.2.1 (by omega)
  obtain ⟨M2, M3, a1, a2, a3, a4, a5⟩ := close_mid hC hj h hin ho hstk hs h400
  have hle := h.1.2.2.2.2
  have hlen : (L ++ ups P).length = L.length + P.length := by rw [List.length_append, ups_len]
  obtain ⟨M4, b1, b2, b3⟩ := MS_code (X1 := X1) a4 (p := f.2.2.2.1) (q := 0) (x := X1 15 (L.length + P.length)) hin (by rw [hlen]; omega) hX (by rw [hlen]) (by rw [hlen]; exact hX1)
  obtain ⟨M5, c1, c2, c3, -⟩ := MS_ahead hA b2 hj1
  have h8 := c2.2.1.1
  refine ⟨M5, ?_, FrPM_trans a3 (FrPM_trans b3 c3), c2, hj1⟩
  have key : m_goesOn M = some (true, M5) := by
    rw [close_546 (P := P) h.2 hl hg (by omega) (Or.inr (Or.inl hf)) hp (Or.inr hn) (Or.inl (by unfold isT; omega)) (by rw [if_neg (by omega)]; exact hK)]
    have h8m := h.2.2.1.1
    have hlt : 0 ≤ (stk.length : Int) ∧ (stk.length : Int) < 20 := by omega
    unfold m_goesOn_B546 m_goesOn_B596 chk
    dsimp only [lt]
    rw [h8m, w32_0, if_pos (by omega), a1, bnd_some, ← a2, hf, w32_eq (x := (4 : Int)) (by omega) (by omega), w32_eq (x := (5 : Int)) (by omega) (by omega), if_neg (by omega), if_pos hlt, Int.toNat_natCast, a5 hpr, b1, bnd_some, if_pos (by omega), c1, bnd_some]
  have t := turn_goes h.2.2.2.2.2.2.2.2.2.2.2 key (Or.inl h8)
  rw [if_pos ⟨rfl, h8⟩] at t
  exact t
theorem goes_close5 {g : Fr} (hC : TokC C cnt) (hA : AheadOK C cnt) (hj : j < cnt) (h : St C cnt inb w j o 1 L P (f :: g :: stk) (P ++ ops) X M) (hin : inb < 2) (ho : 1 ≤ o ∧ o ≤ 7) (hstk : stk.length ≤ 6) (hf : f.1 = 5) (hp : f.2.1 = 1 ∨ f.2.1 = 2) (hn : f.2.1 = 2 ∨ nonOp (C 0 j)) (hK : C 0 j = 93) (hs : ops.length = f.2.2.2.2) (h400 : P.length + ops.length ≤ 200) :
    ∃ M1, RdTo 1 M M1 1 ∧ FrPM inb M M1 ∧ MS C inb w (j + 1) (o - 1) 1 (L ++ ups P) [] ((g.1, 2, g.2.2.1, g.2.2.2.1, g.2.2.2.2) :: stk) ops X M1 ∧ j + 1 < cnt := by
  have hj1 := tok_next hC hj (by omega) (by omega)
  obtain ⟨hg, h4, hl⟩ := good_of_cur h.2.2.1 (by omega)
  have hst : (g :: stk).length = stk.length + 1 := List.length_cons
  obtain ⟨M2, M3, a1, a2, a3, a4, -⟩ := close_mid hC hj h hin ho (by omega) hs h400
  obtain ⟨b1, b2⟩ := MS_top a4 (k := 19) (v := 2) (by omega) (g.1, 2, g.2.2.1, g.2.2.2.1, g.2.2.2.2) rfl (by simp) (by simp) (by simp) (by simp)
  obtain ⟨M4, c1, c2, c3, -⟩ := MS_ahead hA b1 hj1
  have h8 := c2.2.1.1
  refine ⟨M4, ?_, FrPM_trans a3 (FrPM_trans b2 c3), c2, hj1⟩
  have key : m_goesOn M = some (true, M4) := by
    rw [close_546 (P := P) h.2 hl hg (by omega) (Or.inr (Or.inr hf)) (by omega) hn (Or.inr ⟨by omega, by omega, by omega⟩) (by rw [if_pos hf]; exact hK)]
    have h8m := h.2.2.1.1
    have e38 : M3 0 38 - 1 = (stk.length : Int) := by rw [a4.2.2.2.2.2.1, hst]; omega
    unfold m_goesOn_B546 m_goesOn_B596 chk
    dsimp only [lt]
    rw [h8m, w32_0, if_pos (by omega), a1, bnd_some, ← a2, hf, w32_eq (x := (4 : Int)) (by omega) (by omega), w32_eq (x := (5 : Int)) (by omega) (by omega), if_pos (by omega), if_neg (by omega), e38, Int.toNat_natCast, if_pos (by omega), c1, bnd_some]
  have t := turn_goes h.2.2.2.2.2.2.2.2.2.2.2 key (Or.inl h8)
  rw [if_pos ⟨rfl, h8⟩] at t
  exact t
/-- the end of a rule -/
theorem goes_top (hC : TokC C cnt) (hj : j < cnt) (h : St C cnt inb w j o 1 L P (f :: stk) (P ++ ops) X M) (hin : inb < 2) (ho : o ≤ 7) (hstk : stk.length ≤ 7) (hf : f.1 = 0 ∨ f.1 = 1) (hp : 0 ≤ f.2.1 ∧ f.2.1 ≤ 2) (hn : f.2.1 = 2 ∨ nonOp (C 0 j)) (ht : ¬ isT f ∨ (f.2.1 ≠ 0 ∧ C 0 j ≠ 17 ∧ C 0 j ≠ 18)) (hl : m_lex M = some M) (hg : Good (C 0 j) (C 2 j) M) (hs : ops.length = f.2.2.2.2) (h400 : P.length + ops.length ≤ 200) :
    ∃ M1, RdTo 1 M M1 0 ∧ FrPM inb M M1 ∧ MS C inb w j o 1 (L ++ ups P) [] (f :: stk) ops X M1 := by
  have hcn := hC.2.1
  obtain ⟨M2, a1, a2, a3⟩ := joins_ok h (least := 1) (by omega) hin (by omega) (by omega) (by omega) (Or.inl hs) (by omega) (fun p _ => (rk_rng p).1)
  have h8 := a2.2.2.1.1
  refine ⟨M2, ?_, a3, a2.2⟩
  have key : m_goesOn M = some (false, M2) := by
    rw [goes_422 (P := P) h.2 hl hg (by omega) (by omega) hp hn ht]
    have h8m := h.2.2.1.1
    unfold m_goesOn_B422
    rw [h8m, w32_0, w32_eq (x := f.1) (by omega) (by omega), w32_eq (x := (2 : Int)) (by omega) (by omega), if_neg (by omega), if_neg (by omega), a1, bnd_some]
  have t := turn_goes h.2.2.2.2.2.2.2.2.2.2.2 key (Or.inl h8)
  rw [if_neg (by simp)] at t
  exact t
end CLOSE
