/-! THE PURE PART: town: a part of a sum -/
theorem fX_fr (C : Mem) (j : Nat) (a : Int) (X : Mem) : FrPX X (fX C j a X) := FrPX_trans (FrPX_up (Or.inl rfl)) (FrPX_up (Or.inl rfl))
theorem opd_lexbad {C : Mem} {j : Nat} {M : Mem} (hl : m_lex M = some (upM (upM M 0 8 1) 0 9 (C 1 j))) : m_operand M = some (true, fM C j 1 M) := by
  have e8 : (fM C j 1 M) 0 8 = 1 := fM_8.1
  unfold m_operand
  rw [hl, bnd_some]
  show (if w32 ((fM C j 1 M) 0 8) ≤ 0 then _ else _) = _
  rw [e8, w32_eq (x := (1 : Int)) (by omega) (by omega), if_neg (by omega)]
  rfl
theorem goes_lexbad {C : Mem} {j : Nat} {M : Mem} (hl : m_lex M = some (upM (upM M 0 8 1) 0 9 (C 1 j))) : m_goesOn M = some (false, fM C j 1 M) := by
  have e8 : (fM C j 1 M) 0 8 = 1 := fM_8.1
  unfold m_goesOn
  rw [hl, bnd_some]
  show (if w32 ((fM C j 1 M) 0 8) ≤ 0 then _ else _) = _
  rw [e8, w32_eq (x := (1 : Int)) (by omega) (by omega), if_neg (by omega)]
  rfl
theorem ups_fst (P : List Int) : (ups P).map Prod.fst = P := by
  unfold ups
  rw [List.map_map]
  exact List.map_id P
theorem StX_ups {C : Mem} {cnt w j o : Nat} {L : List (Int × Int)} {P : List Int} {X : Mem} (h : StX C cnt w j o L P X) : StX C cnt w j o (L ++ ups P) [] X := by
  obtain ⟨h1, h2, h3, h4, h5⟩ := h
  refine ⟨h1, h2, ?_, trivial, ?_⟩
  · rw [h3, List.length_append, ups_len, List.length_nil]; rfl
  · rw [List.length_append, ups_len, List.length_nil]; omega
section PART
variable {C : Mem} {cnt inb w n j o : Nat} {L : List (Int × Int)} {P : List Int} {stk : List Fr} {ops : List Int} {X M : Mem} {f : Fr}
theorem comma_fail (h : St C cnt inb w j o 1 L P (f :: stk) ops X M) (hstk : stk.length < 19) (hf : f.1 = 3 ∨ f.1 = 6) (hp : 0 ≤ f.2.1 ∧ f.2.1 ≤ 2) (hn : f.2.1 = 2 ∨ nonOp (C 0 j)) (ht : ¬ isT f ∨ (f.2.1 ≠ 0 ∧ C 0 j ≠ 17 ∧ C 0 j ≠ 18)) (hK : C 0 j ≠ 44) : m_goesOn M = some (false, fM C j 1 M) := by
  rcases lex_cases h.2.2.1 with ⟨-, -, el⟩ | ⟨el, e4, e0, hg⟩
  · exact goes_lexbad el
  · exact goes_comma_bad h.2 el hg e4 hstk hf hp hn ht hK
theorem close_fail (h : St C cnt inb w j o 1 L P (f :: stk) ops X M) (hstk : stk.length < 19) (hf : f.1 = 2 ∨ f.1 = 4 ∨ f.1 = 5) (hp : 0 ≤ f.2.1 ∧ f.2.1 ≤ 2) (hn : f.2.1 = 2 ∨ nonOp (C 0 j)) (ht : ¬ isT f ∨ (f.2.1 ≠ 0 ∧ C 0 j ≠ 17 ∧ C 0 j ≠ 18)) (hK : C 0 j ≠ (if f.1 = 5 then 93 else 41)) : m_goesOn M = some (false, fM C j 1 M) := by
  rcases lex_cases h.2.2.1 with ⟨-, -, el⟩ | ⟨el, e4, e0, hg⟩
  · exact goes_lexbad el
  · exact goes_close_bad h.2 el hg e4 hstk hf hp hn ht hK
theorem x_asked {K : Int} (hw : w < 3) (h6 : X 3 6 = (w : Int)) (hK : 0 ≤ K ∧ K ≤ 255) (h24 : K ≠ 24) : x_Reader_isAsked K X = some (decide (maySo w (srt K))) := by
  have q : ∀ z : Int, 0 ≤ z → z ≤ 255 → w32 z = z := fun z h1 h2 => w32_eq (by omega) (by omega)
  have hww : w = 0 ∨ w = 1 ∨ w = 2 := by omega
  unfold x_Reader_isAsked srt
  rw [h6, q K (by omega) (by omega), q (w : Int) (by omega) (by omega), q 1 (by omega) (by omega), q 2 (by omega) (by omega), if_neg h24]
  by_cases h7 : K = 7
  · subst h7; rcases hww with rfl | rfl | rfl <;> decide
  by_cases h8 : K = 8
  · subst h8; rcases hww with rfl | rfl | rfl <;> decide
  by_cases h10 : K = 10
  · subst h10; rcases hww with rfl | rfl | rfl <;> decide
  by_cases h11 : K = 11
  · subst h11; rcases hww with rfl | rfl | rfl <;> decide
  by_cases h12 : K = 12
  · subst h12; rcases hww with rfl | rfl | rfl <;> decide
  by_cases h13 : K = 13
  · subst h13; rcases hww with rfl | rfl | rfl <;> decide
  by_cases h14 : K = 14
  · subst h14; rcases hww with rfl | rfl | rfl <;> decide
  by_cases h15 : K = 15
  · subst h15; rcases hww with rfl | rfl | rfl <;> decide
  rw [if_neg h7, if_neg h8, if_neg h10, if_neg h11, if_neg h12, if_neg h13, if_neg h14, if_neg h15, if_neg h11, if_neg h12, if_neg h13, if_neg h10, if_neg h7, if_neg h14, if_neg h15, if_neg h8]
  rw [decide_eq_false (by unfold maySo; omega)]
theorem part_eq (hC : TokC C cnt) (hw : w < 3) (hX : StX C cnt w j o L P X) (hj : j < cnt) (rc : Nat → Mem → Option Mem) :
    x_Reader_part rc X = if C 0 j = 24 then bnd2 (x_Reader_number 0 9999 X) (fun r M => bnd (x_Rules_addNumber 13 r M) (fun M2 => some M2)) else if C 0 j = 40 then bnd2 (x_Reader_enter X) (fun r18 M18 => (if r18 = true then bnd (rc 2 M18) (fun M19 => bnd (x_Reader_require 41 M19) (fun M20 => some (upM M20 3 5 ((M20 3 5) - 1)))) else some M18))
      else if C 0 j = 21 ∨ C 0 j = 22 ∨ C 0 j = 16 then x_Reader_part_B93 rc (C 0 j) X else if maySo w (srt (C 0 j)) then bnd (x_Rules_addFact 13 (C 0 j) (upM X 3 4 ((j : Int) + 1))) (fun M17 => some M17) else some (fX C j 1 X) := by
  have hK := hC.2.2.1 j hj
  have q : ∀ z : Int, 0 ≤ z → z ≤ 255 → w32 z = z := fun z h1 h2 => w32_eq (by omega) (by omega)
  unfold x_Reader_part
  dsimp only [lt]
  rw [x_kind hC hX.1 hj, bnd_some, x_at hC hX.1 hj (by omega), bnd_some, ifd, x_at hC hX.1 hj (by omega), bnd_some, ifd]
  by_cases h24 : C 0 j = 24
  · rw [if_pos h24, if_pos h24]
  rw [if_neg h24, if_neg h24]
  by_cases h40 : C 0 j = 40
  · rw [if_pos h40, if_pos h40]
  rw [if_neg h40, if_neg h40, q _ (by omega) (by omega), q 21 (by omega) (by omega), q 22 (by omega) (by omega), q 16 (by omega) (by omega)]
  by_cases h21 : C 0 j = 21
  · rw [if_pos h21, if_pos (Or.inl h21)]
  rw [if_neg h21]
  by_cases h22 : C 0 j = 22
  · rw [if_pos h22, if_pos (Or.inr (Or.inl h22))]
  rw [if_neg h22]
  by_cases h16 : C 0 j = 16
  · rw [if_neg (fun z => z h16), if_pos (Or.inr (Or.inr h16))]
  rw [if_pos h16, if_neg (by omega), x_asked hw hX.2.1 (by omega) h24, bnd_some, ifd, x_refuse hC hX.1 hj, bnd_some, hX.1.2.1]
  rfl
/-- the rest of min, max, if behind the first sum: , SUM ) -/
theorem tail152 {g : Fr} {b0 wh v : Int} {st : List Bool} (hC : TokC C cnt) (hA : AheadOK C cnt) (hin : inb < 2) (hw : w < 3) (hS : GoalS C cnt inb w n) (hn : n ≤ 80) (hj : j < cnt) (h : St C cnt inb w j (o + 1) 1 L P ((3, 0, b0, wh, ops.length) :: g :: stk) (P ++ ops) X M) (hno : nonOp (C 0 j)) (hP : P.length ≤ 2)
    (ho : o < 7) (hstk : stk.length ≤ o) (hops : ops.length ≤ 5 * o + 5) (hst : st.length ≤ 5 * o + 7) (hb0 : b0 = 0 ∨ b0 = 1) (hwh : wh ≠ 0) (hc : CodeEq (20000 + v) wh 0) (hneed : 4 * (7 - o) ≤ n) :
    ∃ X1, x_Reader_part_B152 (x_rec n) v X = some X1 ∧ FrPX X X1 ∧ ((∃ (k : Nat) (M1 : Mem) (j1 : Nat) (l : List (Int × Int)), j < j1 ∧ j1 < cnt ∧ k ≤ j1 - j ∧ RdTo k M M1 1 ∧ FrPM inb M M1 ∧ St C cnt inb w j1 o 1 (((L ++ ups P) ++ l) ++ [(wh, 0)]) [] (g :: stk) ops X1 M1 ∧ l.length + 1 ≤ j1 - j ∧ TL w (l.map Prod.fst) st (false :: st)) ∨ FOut cnt inb (n + 1) (1700 - j) X1 M) := by
  have hX := h.1
  have hcn := hC.2.1
  have hl2 : (g :: stk).length = stk.length + 1 := List.length_cons
  have req := x_req hC hX.1 hj (c := 44) (by omega)
  by_cases h44 : C 0 j = 44
  · -- the comma
    have hr := req.1 h44
    obtain ⟨M1, r1, r2, r3, hj1⟩ := goes_comma hC hA hj h hin (by omega) (by omega) (Or.inl rfl) (by simp) (Or.inr hno) (Or.inl (by unfold isT; simp)) h44 rfl (by omega)
    have hX1 : StX C cnt w (j + 1) (o + 1) (L ++ ups P) [] (upM X 3 4 ((j : Int) + 1)) := StX_ups (StX_next hX)
    have e15 : ∀ i, (upM X 3 4 ((j : Int) + 1)) 15 i = X 15 i := fun i => up_k (by omega)
    have r3' : MS C inb w (j + 1) (o + 1) 0 (L ++ ups P) [] ((4, 0, b0, wh, ops.length) :: g :: stk) ops (upM X 3 4 ((j : Int) + 1)) M1 := ⟨CodOK_of r3.1 (fun i _ => e15 i) (fun _ _ => ⟨rfl, rfl⟩), r3.2⟩
    obtain ⟨X2, s1, s2, s3⟩ := hS (upM X 3 4 ((j : Int) + 1)) M1 (j + 1) (o + 1) (L ++ ups P) (4, 0, b0, wh, ops.length) (g :: stk) ops st ⟨⟨hX1, r3'⟩, hj1, by omega, by omega, by omega, by omega, by simp, hb0, Nat.le_refl _⟩ (fun q => absurd q (by unfold isT; simp)) (Or.inl rfl) (Or.inl rfl) (by omega)
    have fx1 : FrPX X X2 := FrPX_trans (FrPX_up (Or.inl rfl)) s2
    rcases s3 with ⟨k2, M2, j2, l, P2, ph, t1, t2, t3, t4, t5, t6, t7, t8, t9, t10, t11, t12⟩ | hF
    · subst t11
      have hX2 := t6.1
      have req2 := x_req hC hX2.1 t2 (c := 41) (by omega)
      by_cases h41 : C 0 j2 = 41
      · -- the end
        have hr2 := req2.1 h41
        have hj3 := tok_next hC t2 (by omega) (by omega)
        obtain ⟨X4, hX4⟩ : ∃ X4, X4 = upM (upM X2 3 4 ((j2 : Int) + 1)) 3 5 ((upM X2 3 4 ((j2 : Int) + 1)) 3 5 - 1) := ⟨_, rfl⟩
        have st4 : StX C cnt w (j2 + 1) o ((L ++ ups P) ++ l) P2 X4 := by
          rw [hX4]
          exact StX_of hX2 (by rw [up_i (by omega), up_i (by omega)]) (by rw [up_i (by omega), up_e]; omega) (by rw [up_e, up_i (by omega), hX2.1.2.2.1]; omega) (by rw [up_i (by omega), up_i (by omega)]) (fun q hq => by rw [upM_row hq, upM_row hq]) (by omega)
        have hle : ((L ++ ups P) ++ l).length + P2.length ≤ j2 := hX2.2.2.2.2
        obtain ⟨X5, u1, u2, u3, u4, u5⟩ := StX_pend st4 (by omega) (by omega) hc
        have u2' := StX_ups u2
        have hups : ups (P2 ++ [wh]) = ups P2 ++ [(wh, 0)] := by unfold ups; rw [List.map_append]; rfl
        rw [hups] at u2'
        have pen := u2.2.2.2.1
        have penx : CodeEq (X5 15 (((L ++ ups P) ++ l).length + P2.length)) wh 0 ∧ (∀ i, i < ((L ++ ups P) ++ l).length + P2.length → X5 15 i = X2 15 i) := by
          have e4 : X4 15 = X2 15 := by rw [hX4, upM_row (by omega), upM_row (by omega)]
          have g4 : X4 13 5 = ((((L ++ ups P) ++ l).length + P2.length : Nat) : Int) := st4.2.2.1
          have hx5 : X5 = upM (upM X4 15 (((L ++ ups P) ++ l).length + P2.length) (20000 + v)) 13 5 ((((((L ++ ups P) ++ l).length + P2.length : Nat) : Int)) + 1) := by
            unfold x_Rules_addSign at u1
            rw [x_add_eq g4 (by omega), bnd_some] at u1
            exact (Option.some.inj u1).symm
          refine ⟨?_, fun i hi => ?_⟩
          · rw [hx5, up_k (by omega), up_e]; exact hc
          · rw [hx5, up_k (by omega), up_i (by omega), e4]
        obtain ⟨M3, v1, v2, v3, -⟩ := goes_close4 (X1 := X5) hC hA t2 t6 hin (by omega) (by omega) rfl (by simp) t12 h41 rfl (by omega) hwh penx.1 penx.2
        refine ⟨X5, ?_, FrPX_trans fx1 (FrPX_trans (by rw [hX4]; exact FrPX_trans (FrPX_up (Or.inl rfl)) (FrPX_up (Or.inl rfl))) u4), Or.inl ⟨1 + k2 + 1, M3, j2 + 1, l ++ ups P2, by omega, hj3, by omega, RdTo_trans (RdTo_trans r1 t4) v1, FrPM_trans r2 (FrPM_trans t5 v2), ?_, ?_, ?_⟩⟩
        · unfold x_Reader_part_B152
          dsimp only [lt]
          rw [hr, bnd_some, s1, bnd_some, hr2, bnd_some, ← hX4, u1, bnd_some]
        · refine ⟨?_, ?_⟩
          · have := u2'
            rw [← List.append_assoc] at this ⊢
            exact this
          · have : (o + 1 - 1) = o := by omega
            rw [this] at v3
            have := v3
            rw [← List.append_assoc]
            exact this
        · rw [List.length_append, ups_len]; omega
        · rw [List.map_append, ups_fst]; exact t8
      · -- no )
        have hr2 := req2.2 h41
        have gb := close_fail t6 (by omega) (Or.inr (Or.inl rfl)) (by simp) (Or.inr t12) (Or.inl (by unfold isT; simp)) h41
        have fo := FOut_goes (n := n) hC t2 hX2 t6.2.2.2.2.2.2.2.2.2.2.2 gb (fM_fr (FrPM_refl inb M2)) (by omega) fM_8.1 fM_8.2
        have fo2 := FOut_pre (FOut_pre fo t4 t5 t3 (by omega) (by omega)) r1 r2 (j := j) (by omega) (by omega) (by omega)
        obtain ⟨fs, fl⟩ := FOut_st fo2 (by omega)
        have ff := f_open fs (((fX C j2 1 X2) 3 5) - 1)
        have fs2 := FSt_of fs ff (by omega)
        obtain ⟨X5, u1, u2⟩ := f_sign fs2 v
        refine ⟨X5, ?_, ?_, Or.inr (FOut_x fo2 (FFr_trans ff u2) (by omega) (by omega))⟩
        · unfold x_Reader_part_B152
          dsimp only [lt]
          rw [hr, bnd_some, s1, bnd_some, hr2, bnd_some, u1, bnd_some]
        · exact FrPX_trans fx1 (FrPX_trans (fX_fr C j2 1 X2) (fun q h1 h2 h3 => by rw [u2.2.2.2.2.2.2 q h1 h2 h3, upM_row h1]))
    · -- a fault in the sum
      have fo2 := FOut_pre hF r1 r2 (j := j) (by omega) (by omega) (by omega)
      obtain ⟨fs, fl⟩ := FOut_st fo2 (by omega)
      have ff := f_open fs (X2 3 5 - 1)
      have fs2 := FSt_of fs ff (by omega)
      obtain ⟨X5, u1, u2⟩ := f_sign fs2 v
      refine ⟨X5, ?_, ?_, Or.inr (FOut_x fo2 (FFr_trans ff u2) (by omega) (by omega))⟩
      · unfold x_Reader_part_B152
        dsimp only [lt]
        rw [hr, bnd_some, s1, bnd_some, f_require fs, bnd_some, u1, bnd_some]
      · exact FrPX_trans fx1 (fun q h1 h2 h3 => by rw [u2.2.2.2.2.2.2 q h1 h2 h3, upM_row h1])
  · -- no comma
    have hr := req.2 h44
    have gb := comma_fail h (by omega) (Or.inl rfl) (by simp) (Or.inr hno) (Or.inl (by unfold isT; simp)) h44
    have fo := FOut_goes (n := n) hC hj hX h.2.2.2.2.2.2.2.2.2.2.2 gb (fM_fr (FrPM_refl inb M)) (by omega) fM_8.1 fM_8.2
    obtain ⟨fs, fl⟩ := FOut_st fo (by omega)
    obtain ⟨X2, u1, u2⟩ := f_rec2 fs (by omega) (n := n) (by omega)
    have fs1 := FSt_of fs u2 (by omega)
    have ff := f_open fs1 (X2 3 5 - 1)
    have fs2 := FSt_of fs1 ff (by have := u2.2.2.2.1; omega)
    obtain ⟨X5, u3, u4⟩ := f_sign fs2 v
    refine ⟨X5, ?_, ?_, Or.inr (FOut_x fo (FFr_trans u2 (FFr_trans ff u4)) (by omega) (by omega))⟩
    · unfold x_Reader_part_B152
      dsimp only [lt]
      rw [hr, bnd_some, u1, bnd_some, f_require fs1, bnd_some, u3, bnd_some]
    · exact FrPX_trans (fX_fr C j 1 X) (fun q h1 h2 h3 => by rw [u4.2.2.2.2.2.2 q h1 h2 h3, upM_row h1, u2.2.2.2.2.2.2 q h1 h2 h3])
end PART
