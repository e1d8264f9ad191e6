/-! THE PURE PART: town: a part of a sum, whole -/
theorem FOut_k {cnt inb n k k' : Nat} {X1 M : Mem} (h : FOut cnt inb n k X1 M) (hk : k ≤ k') : FOut cnt inb n k' X1 M := by
  obtain ⟨k2, M2, a1, a2⟩ := h
  exact ⟨k2, M2, by omega, a2⟩
theorem FOut_n {cnt inb n m k : Nat} {X1 M : Mem} (h : FOut cnt inb n k X1 M) (hn : n ≤ m) : FOut cnt inb m k X1 M := by
  obtain ⟨k2, M2, a1, a2, a3, a4, a5, a6, a7, a8, a9⟩ := h
  exact ⟨k2, M2, a1, a2, a3, a4, a5, a6, a7, a8, by omega⟩
theorem m_opens_flt {M : Mem} {kd : Int} (h : 1 ≤ M 0 8 ∧ M 0 8 ≤ 6) : m_opens kd M = some M := by
  unfold m_opens m_opens_B18
  have e0 : ¬ w32 (M 0 8) ≤ 0 := by rw [w32_eq (by omega) (by omega)]; omega
  rw [m_blame_f h, bnd_some, if_neg e0]
  split <;> rfl
section PART2
variable {C : Mem} {cnt inb w n j o : Nat} {L : List (Int × Int)} {P : List Int} {stk : List Fr} {ops : List Int} {X M M' : Mem} {f g : Fr}
theorem fn_open {wh : Int} (hC : TokC C cnt) (hA : AheadOK C cnt) (hwh : wh = 36 ∨ wh = 37 ∨ wh = 44) (h : MS C inb w j o 0 L [] (g :: stk) ops X M) (hj1 : j + 1 < cnt) (hstk : stk.length ≤ 7) (ho : o ≤ 7) :
    (C 0 (j + 1) = 40 → o < 7 → ∃ M3, m_operand_B249 wh M = some (false, M3) ∧ MS C inb w (j + 2) (o + 1) 0 L [] ((if wh = 44 then 6 else 3, 0, 1, wh, ops.length) :: g :: stk) ops X M3 ∧ FrPM inb M M3 ∧ j + 2 < cnt) ∧
    (C 0 (j + 1) = 40 → o = 7 → ∃ M3, m_operand_B249 wh M = some (false, M3) ∧ FrPM inb M M3 ∧ M3 0 8 = 5 ∧ M3 0 9 = C 1 (j + 1)) ∧
    (C 0 (j + 1) ≠ 40 → ∃ M3, m_operand_B249 wh M = some (false, M3) ∧ FrPM inb M M3 ∧ M3 0 8 = 1 ∧ M3 0 9 = C 1 (j + 1)) := by
  have hl2 : (g :: stk).length = stk.length + 1 := List.length_cons
  obtain ⟨M7, a1, a2, a3, -⟩ := MS_ahead hA h hj1
  have w44 : w32 44 = 44 := w32_eq (by omega) (by omega)
  have ww : w32 wh = wh := w32_eq (by omega) (by omega)
  have flt : ∀ M8 : Mem, 1 ≤ M8 0 8 ∧ M8 0 8 ≤ 6 → m_operand_B276 wh M8 = some (false, M8) := fun M8 h8 => by
    have : ∀ kd, m_operand_B289 wh kd M8 = some (false, M8) := fun kd => by
      unfold m_operand_B289
      rw [m_opens_flt h8, bnd_some, w32_eq (x := M8 0 8) (by omega) (by omega), if_pos (by omega)]
    unfold m_operand_B276
    rw [this, this]
    split <;> rfl
  refine ⟨fun h40 ho7 => ?_, fun h40 ho7 => ?_, fun h40 => ?_⟩
  · obtain ⟨hg, h4, hl⟩ := good_of_cur a2.2.1 (by omega)
    have hj2 := tok_next hC hj1 (by omega) (by omega)
    have s40 := tok_sign hg (c := 40) (by unfold signK; omega)
    obtain ⟨M8, b1, b2, b3⟩ := MS_opens hA a2 hj2 (if wh = 44 then 6 else 3) (by omega) ho7
    obtain ⟨c1, c2⟩ := MS_top b2 (k := 21) (v := wh) (by omega) (if wh = 44 then 6 else 3, 0, 1, wh, ops.length) rfl (by simp) (by simp) (by simp) (by simp)
    refine ⟨_, ?_, c1, FrPM_trans a3 (FrPM_trans b3 c2), hj2⟩
    have e8 := b2.2.1.1
    have e38 : M8 0 38 - 1 = ((g :: stk).length : Int) := by rw [b2.2.2.2.2.2.1, List.length_cons]; omega
    have fin : m_operand_B289 wh (if wh = 44 then 6 else 3) M7 = some (false, upM M8 21 (g :: stk).length wh) := by
      unfold m_operand_B289 chk
      dsimp only [lt]
      rw [b1, bnd_some, e8, w32_0, if_neg (by omega), e38, Int.toNat_natCast, if_pos (by omega)]
    unfold m_operand_B249 m_operand_B276
    rw [a1, bnd_some, hl, bnd_some, s40, bnd_some, ifd, if_pos h40, ww, w44]
    by_cases k : wh = 44
    · rw [if_neg (by omega)]; rw [if_pos k] at fin; exact fin
    · rw [if_pos k]; rw [if_neg k] at fin; exact fin
  · subst ho7
    obtain ⟨hg, h4, hl⟩ := good_of_cur a2.2.1 (by omega)
    have s40 := tok_sign hg (c := 40) (by unfold signK; omega)
    have e5 : ∀ kd, m_opens kd M7 = some (fM C (j + 1) 5 M7) := fun kd => by rw [m_opens_f a2 kd, h4]; rfl
    have e8 : (fM C (j + 1) 5 M7) 0 8 = 5 := fM_8.1
    refine ⟨fM C (j + 1) 5 M7, ?_, fM_fr a3, fM_8.1, fM_8.2⟩
    have fin : ∀ kd, m_operand_B289 wh kd M7 = some (false, fM C (j + 1) 5 M7) := fun kd => by
      unfold m_operand_B289
      rw [e5, bnd_some, e8, w32_eq (x := (5 : Int)) (by omega) (by omega), if_pos (by omega)]
    unfold m_operand_B249 m_operand_B276
    rw [a1, bnd_some, hl, bnd_some, s40, bnd_some, ifd, if_pos h40, fin, fin]
    split <;> rfl
  · have e8 : (fM C (j + 1) 1 M7) 0 8 = 1 := fM_8.1
    refine ⟨fM C (j + 1) 1 M7, ?_, fM_fr a3, fM_8.1, fM_8.2⟩
    have fin := flt (fM C (j + 1) 1 M7) (by omega)
    unfold m_operand_B249
    rw [a1, bnd_some]
    rcases lex_cases a2.2.1 with ⟨e26, e0, el⟩ | ⟨el, e4, e0, hg⟩
    · have el : m_lex M7 = some (fM C (j + 1) 1 M7) := el
      obtain ⟨r, hr⟩ : ∃ r, m_isSign 40 (fM C (j + 1) 1 M7) = some r := by
        unfold m_isSign
        split
        · exact ⟨_, rfl⟩
        · split <;> exact ⟨_, rfl⟩
      rw [el, bnd_some, hr, bnd_some, m_blame_f (by omega), bnd_some, fin]
      split <;> rfl
    · have s40 := tok_sign hg (c := 40) (by unfold signK; omega)
      have hbl : m_blame 1 (C 1 (j + 1)) M7 = some (fM C (j + 1) 1 M7) := m_blame_eq a2.2.1.1
      rw [el, bnd_some, s40, bnd_some, ifd, if_neg h40, e4, hbl, bnd_some, fin]
/-- min, max, if -/
theorem b93_step {wh : Int} {st : List Bool} (hC : TokC C cnt) (hA : AheadOK C cnt) (hin : inb < 2) (hw : w < 3) (hS : GoalS C cnt inb w n) (hT : GoalT C cnt inb w n) (hn : n ≤ 80) (hX : StX C cnt w j o L [] X) (h42 : M 0 42 = 0) (hM1 : MS C inb w j o 0 L [] (g :: stk) ops X M') (hfr1 : FrPM inb M M') (he : m_operand M = m_operand_B249 wh M')
    (hj1 : j + 1 < cnt) (hK : (C 0 j = 21 ∧ wh = 36) ∨ (C 0 j = 22 ∧ wh = 37) ∨ (C 0 j = 16 ∧ wh = 44)) (ho : o ≤ 7) (hstk : stk.length ≤ o) (hops : ops.length ≤ 5 * o + 5) (hst : st.length ≤ 5 * o + 5) (hneed : 1 + 4 * (7 - o) ≤ n + 1) :
    ∃ X1, x_Reader_part_B93 (x_rec n) (C 0 j) X = some X1 ∧ FrPX X X1 ∧ ((∃ (k : Nat) (M1 : Mem) (j1 : Nat) (l : List (Int × Int)), j < j1 ∧ j1 < cnt ∧ k ≤ j1 - j ∧ RdTo k M M1 1 ∧ FrPM inb M M1 ∧ St C cnt inb w j1 o 1 (L ++ l) [] (g :: stk) ops X1 M1 ∧ l.length ≤ j1 - j ∧ TL w (l.map Prod.fst) st (false :: st)) ∨ FOut cnt inb (n + 1) (1700 - j) X1 M) := by
  have hcn := hC.2.1
  have hl2 : (g :: stk).length = stk.length + 1 := List.length_cons
  have hX1 := StX_next hX
  obtain ⟨Xa, hXa⟩ : ∃ Xa, Xa = upM X 3 4 ((j : Int) + 1) := ⟨_, rfl⟩
  rw [← hXa] at hX1
  have fxa : FrPX X Xa := by rw [hXa]; exact FrPX_up (Or.inl rfl)
  have e34 : upM X 3 4 (X 3 4 + 1) = Xa := by rw [hXa, hX.1.2.1]
  have a40 := x_at hC hX1.1 hj1 (c := 40) (by omega)
  have hM1a : MS C inb w j o 0 L [] (g :: stk) ops Xa M' := ⟨CodOK_of hM1.1 (fun i _ => by rw [hXa, up_k (by omega)]) (fun _ _ => ⟨rfl, rfl⟩), hM1.2⟩
  obtain ⟨o1, o2, o3⟩ := fn_open (wh := wh) hC hA (by omega) hM1a hj1 (by omega) ho
  by_cases h40 : C 0 (j + 1) = 40
  · by_cases ho7 : o < 7
    · obtain ⟨M3, p1, p2, p3, hj2⟩ := o1 h40 ho7
      clear o1 o2 o3
      -- a frame more
      have en := x_enter_ok hX1.1 ho7
      obtain ⟨Xb, hXb⟩ : ∃ Xb, Xb = upM (upM Xa 3 5 ((o : Int) + 1)) 3 4 (((j + 1 : Nat) : Int) + 1) := ⟨_, rfl⟩
      rw [← hXb] at en
      have hX2 : StX C cnt w (j + 2) (o + 1) L [] Xb := by rw [hXb]; exact StX_enter hX1
      have fxb : FrPX X Xb := FrPX_trans fxa (by rw [hXb]; exact FrPX_trans (FrPX_up (Or.inl rfl)) (FrPX_up (Or.inl rfl)))
      obtain ⟨q1, q2⟩ := MS_flag p2 0
      have t := turn_opd h42 (he.trans p1) (Or.inl p2.2.1.1)
      rw [if_pos p2.2.1.1] at t
      have b0 : b2i false = 0 := rfl
      rw [b0] at t
      have q1' : MS C inb w (j + 2) (o + 1) 0 L [] ((if wh = 44 then 6 else 3, 0, 1, wh, ops.length) :: g :: stk) ops Xb (upM M3 0 42 0) := ⟨CodOK_of q1.1 (fun i _ => by rw [hXb, up_k (by omega), up_k (by omega)]) (fun _ _ => ⟨rfl, rfl⟩), q1.2⟩
      have frm : FrPM inb M (upM M3 0 42 0) := FrPM_trans hfr1 (FrPM_trans p3 q2)
      have hB : x_Reader_part_B93 (x_rec n) (C 0 j) X = (if ¬ w32 (C 0 j) = w32 16 then bnd (x_rec n 2 Xb) (fun M6 => x_Reader_part_B152 (x_rec n) (C 0 j) M6) else bnd (x_rec n 3 Xb) (fun M11 => bnd (x_Reader_require 44 M11) (fun M12 => bnd (x_rec n 2 M12) (fun M13 => x_Reader_part_B152 (x_rec n) (C 0 j) M13)))) := by
        unfold x_Reader_part_B93 x_Reader_part_B117
        dsimp only [lt]
        rw [e34, a40, bnd_some, ifd, if_pos h40, en, bnd2_some, if_pos rfl]
      have wC : w32 (C 0 j) = C 0 j := w32_eq (by omega) (by omega)
      have w16 : w32 16 = 16 := w32_eq (by omega) (by omega)
      rw [hB, wC, w16]
      by_cases h16 : C 0 j = 16
      · -- if
        have e44 : wh = 44 := by omega
        subst e44
        rw [if_neg (by omega)]
        rw [if_pos rfl] at q1'
        obtain ⟨X3, s1, s2, s3⟩ := hT Xb (upM M3 0 42 0) (j + 2) (o + 1) L (6, 0, 1, 44, ops.length) (g :: stk) ops st ⟨⟨hX2, q1'⟩, hj2, by omega, by omega, by omega, by omega, by simp, Or.inr rfl, Nat.le_refl _⟩ (Or.inr (Or.inr rfl)) rfl rfl rfl (by omega)
        rw [s1, bnd_some]
        have fx3 : FrPX X X3 := FrPX_trans fxb s2
        rcases s3 with ⟨k2, M4, j2, l, P2, ph, t1, t2, t3, t4, t5, t6, t7, t8, t9, t10, t11, t12⟩ | hF
        · have hX3 := t6.1
          have req := x_req hC hX3.1 t2 (c := 44) (by omega)
          have hph : 0 ≤ ph ∧ ph ≤ 2 := by rcases t10 with ⟨e, -⟩ | e <;> rw [e] <;> decide
          have hph0 : ph ≠ 0 := by rcases t10 with ⟨e, -⟩ | e <;> rw [e] <;> decide
          have hno : ph = 2 ∨ nonOp (C 0 j2) := by rcases t10 with ⟨-, e⟩ | e; exact Or.inr e; exact Or.inl e
          by_cases h44 : C 0 j2 = 44
          · have hr := req.1 h44
            obtain ⟨M5, r1, r2, r3, hj3⟩ := goes_comma hC hA t2 t6 hin (by omega) (by omega) (Or.inr rfl) hph hno (Or.inr ⟨hph0, t11, t12⟩) h44 rfl (by omega)
            have hX4 := StX_ups (StX_next hX3)
            obtain ⟨Xc, hXc⟩ : ∃ Xc, Xc = upM X3 3 4 ((j2 : Int) + 1) := ⟨_, rfl⟩
            rw [← hXc] at hX4 hr
            have r3' : MS C inb w (j2 + 1) (o + 1) 0 ((L ++ l) ++ ups P2) [] ((3, 0, 0, 44, ops.length) :: g :: stk) ops Xc M5 := ⟨CodOK_of r3.1 (fun i _ => by rw [hXc, up_k (by omega)]) (fun _ _ => ⟨rfl, rfl⟩), r3.2⟩
            obtain ⟨X5, u1, u2, u3⟩ := hS Xc M5 (j2 + 1) (o + 1) ((L ++ l) ++ ups P2) (3, 0, 0, 44, ops.length) (g :: stk) ops (true :: st) ⟨⟨hX4, r3'⟩, hj3, by omega, by omega, by omega, by rw [List.length_cons]; omega, by simp, Or.inl rfl, Nat.le_refl _⟩ (fun q => absurd q (by unfold isT; simp)) (Or.inl rfl) (Or.inl rfl) (by omega)
            rw [hr, bnd_some, u1, bnd_some]
            have fx5 : FrPX X X5 := FrPX_trans fx3 (FrPX_trans (by rw [hXc]; exact FrPX_up (Or.inl rfl)) u2)
            have rd5 := RdTo_trans (RdTo_trans t t4) r1
            have fr5 := FrPM_trans (FrPM_trans frm t5) r2
            rcases u3 with ⟨k3, M6, j3, l3, P3, ph3, v1, v2, v3, v4, v5, v6, v7, v8, v9, v10, v11, v12⟩ | hF
            · subst v11
              obtain ⟨X6, y1, y2, y3⟩ := tail152 (wh := 44) (v := C 0 j) (st := false :: true :: st) hC hA hin hw hS hn v2 v6 v12 v9 ho7 hstk hops (by rw [List.length_cons, List.length_cons]; omega) (Or.inl rfl) (by decide) (by rw [h16]; unfold CodeEq; decide) (by omega)
              refine ⟨X6, y1, FrPX_trans fx5 y2, ?_⟩
              rcases y3 with ⟨k4, M8, j4, l4, z1, z2, z3, z4, z5, z6, z7, z8⟩ | hF
              · refine Or.inl ⟨(1 + k2 + 1) + k3 + k4, M8, j4, l ++ ups P2 ++ l3 ++ ups P3 ++ l4 ++ [(44, 0)], by omega, z2, by omega, RdTo_trans (RdTo_trans rd5 v4) z4, FrPM_trans (FrPM_trans fr5 v5) z5, ?_, ?_, ?_⟩
                · simp only [← List.append_assoc]
                  exact z6
                · simp only [List.length_append, List.length_cons, List.length_nil, ups_len]
                  omega
                · have f1 : (l ++ ups P2 ++ l3 ++ ups P3 ++ l4 ++ [((44 : Int), (0 : Int))]).map Prod.fst = (l.map Prod.fst ++ P2) ++ ((l3.map Prod.fst ++ P3) ++ (l4.map Prod.fst ++ [44])) := by
                    simp only [List.map_append, ups_fst, List.append_assoc, List.map_cons, List.map_nil]
                  rw [f1]
                  exact TL_app t8 (TL_app v8 (TL_app z8 (TL_one rfl (by rw [List.length_cons]; omega))))
              · exact Or.inr (FOut_pre hF (RdTo_trans rd5 v4) (FrPM_trans fr5 v5) (by omega) (by omega) (by omega))
            · -- a fault in the second sum
              have fo2 := FOut_pre hF rd5 fr5 (j := j) (by omega) (by omega) (by omega)
              obtain ⟨fs, fl⟩ := FOut_st fo2 (by omega)
              obtain ⟨X6, y1, y2⟩ := f_rec2 fs (by omega) (n := n) (by omega)
              have fs1 := FSt_of fs y2 (by omega)
              have ff := f_open fs1 (X6 3 5 - 1)
              have fs2 := FSt_of fs1 ff (by have := y2.2.2.2.1; omega)
              obtain ⟨X7, y3, y4⟩ := f_sign fs2 (C 0 j)
              refine ⟨X7, ?_, ?_, Or.inr (FOut_x fo2 (FFr_trans y2 (FFr_trans ff y4)) (by omega) (by omega))⟩
              · unfold x_Reader_part_B152
                dsimp only [lt]
                rw [f_require fs, bnd_some, y1, bnd_some, f_require fs1, bnd_some, y3, bnd_some]
              · exact FrPX_trans fx5 (fun q h1 h2 h3 => by rw [y4.2.2.2.2.2.2 q h1 h2 h3, upM_row h1, y2.2.2.2.2.2.2 q h1 h2 h3])
          · -- no comma behind the test
            have hr := req.2 h44
            have gb := comma_fail t6 (by omega) (Or.inr rfl) hph hno (Or.inr ⟨hph0, t11, t12⟩) h44
            have fo := FOut_goes (n := n) hC t2 hX3 t6.2.2.2.2.2.2.2.2.2.2.2 gb (fM_fr (FrPM_refl inb M4)) (by omega) fM_8.1 fM_8.2
            have fo2 := FOut_pre fo (RdTo_trans t t4) (FrPM_trans frm t5) (j := j) (by omega) (by omega) (by omega)
            obtain ⟨fs, fl⟩ := FOut_st fo2 (by omega)
            obtain ⟨X5, y5, y6⟩ := f_rec2 fs (by omega) (n := n) (by omega)
            have fs0 := FSt_of fs y6 (by omega)
            have hq := y6.2.2.2.1
            obtain ⟨X6, y1, y2⟩ := f_rec2 fs0 (by omega) (n := n) (by omega)
            have fs1 := FSt_of fs0 y2 (by omega)
            have ff := f_open fs1 (X6 3 5 - 1)
            have fs2 := FSt_of fs1 ff (by have := y2.2.2.2.1; omega)
            obtain ⟨X7, y3, y4⟩ := f_sign fs2 (C 0 j)
            rw [hr, bnd_some, y5, bnd_some]
            refine ⟨X7, ?_, ?_, Or.inr (FOut_x fo2 (FFr_trans y6 (FFr_trans y2 (FFr_trans ff y4))) (by omega) (by omega))⟩
            · unfold x_Reader_part_B152
              dsimp only [lt]
              rw [f_require fs0, bnd_some, y1, bnd_some, f_require fs1, bnd_some, y3, bnd_some]
            · exact FrPX_trans fx3 (FrPX_trans (fX_fr C j2 1 X3) (fun q h1 h2 h3 => by rw [y4.2.2.2.2.2.2 q h1 h2 h3, upM_row h1, y2.2.2.2.2.2.2 q h1 h2 h3, y6.2.2.2.2.2.2 q h1 h2 h3]))
        · -- a fault in the test
          have fo2 := FOut_pre hF t frm (j := j) (by omega) (by omega) (by omega)
          obtain ⟨fs, fl⟩ := FOut_st fo2 (by omega)
          obtain ⟨X5, y5, y6⟩ := f_rec2 fs (by omega) (n := n) (by omega)
          have fs0 := FSt_of fs y6 (by omega)
          have hq := y6.2.2.2.1
          obtain ⟨X6, y1, y2⟩ := f_rec2 fs0 (by omega) (n := n) (by omega)
          have fs1 := FSt_of fs0 y2 (by omega)
          have ff := f_open fs1 (X6 3 5 - 1)
          have fs2 := FSt_of fs1 ff (by have := y2.2.2.2.1; omega)
          obtain ⟨X7, y3, y4⟩ := f_sign fs2 (C 0 j)
          rw [f_require fs, bnd_some, y5, bnd_some]
          refine ⟨X7, ?_, ?_, Or.inr (FOut_x fo2 (FFr_trans y6 (FFr_trans y2 (FFr_trans ff y4))) (by omega) (by omega))⟩
          · unfold x_Reader_part_B152
            dsimp only [lt]
            rw [f_require fs0, bnd_some, y1, bnd_some, f_require fs1, bnd_some, y3, bnd_some]
          · exact FrPX_trans fx3 (fun q h1 h2 h3 => by rw [y4.2.2.2.2.2.2 q h1 h2 h3, upM_row h1, y2.2.2.2.2.2.2 q h1 h2 h3, y6.2.2.2.2.2.2 q h1 h2 h3])
      · -- min, max
        have ewh : wh ≠ 44 := by omega
        have hc : CodeEq (20000 + C 0 j) wh 0 := by
          rcases hK with ⟨e1, e2⟩ | ⟨e1, e2⟩ | ⟨e1, e2⟩
          · rw [e1, e2]; unfold CodeEq; decide
          · rw [e1, e2]; unfold CodeEq; decide
          · exact absurd e1 h16
        have hts : tstep w wh (false :: false :: st) = some (false :: st) := by
          rcases hK with ⟨e1, e2⟩ | ⟨e1, e2⟩ | ⟨e1, e2⟩
          · rw [e2]; rfl
          · rw [e2]; rfl
          · exact absurd e1 h16
        rw [if_pos h16]
        rw [if_neg ewh] at q1'
        obtain ⟨X3, s1, s2, s3⟩ := hS Xb (upM M3 0 42 0) (j + 2) (o + 1) L (3, 0, 1, wh, ops.length) (g :: stk) ops st ⟨⟨hX2, q1'⟩, hj2, by omega, by omega, by omega, by omega, by simp, Or.inr rfl, Nat.le_refl _⟩ (fun q => absurd q (by unfold isT; simp)) (Or.inl rfl) (Or.inl rfl) (by omega)
        rw [s1, bnd_some]
        have fx3 : FrPX X X3 := FrPX_trans fxb s2
        rcases s3 with ⟨k2, M4, j2, l, P2, ph, t1, t2, t3, t4, t5, t6, t7, t8, t9, t10, t11, t12⟩ | hF
        · subst t11
          obtain ⟨X6, y1, y2, y3⟩ := tail152 (v := C 0 j) (st := false :: st) hC hA hin hw hS hn t2 t6 t12 t9 ho7 hstk hops (by rw [List.length_cons]; omega) (Or.inl rfl) (by show wh ≠ 0; omega) hc (by omega)
          refine ⟨X6, y1, FrPX_trans fx3 y2, ?_⟩
          rcases y3 with ⟨k4, M8, j4, l4, z1, z2, z3, z4, z5, z6, z7, z8⟩ | hF
          · refine Or.inl ⟨1 + k2 + k4, M8, j4, l ++ ups P2 ++ l4 ++ [(wh, 0)], by omega, z2, by omega, RdTo_trans (RdTo_trans t t4) z4, FrPM_trans (FrPM_trans frm t5) z5, ?_, ?_, ?_⟩
            · simp only [← List.append_assoc]
              exact z6
            · simp only [List.length_append, List.length_cons, List.length_nil, ups_len]
              omega
            · have f1 : (l ++ ups P2 ++ l4 ++ [((wh : Int), (0 : Int))]).map Prod.fst = (l.map Prod.fst ++ P2) ++ (l4.map Prod.fst ++ [wh]) := by
                simp only [List.map_append, ups_fst, List.append_assoc, List.map_cons, List.map_nil]
              rw [f1]
              exact TL_app t8 (TL_app z8 (TL_one hts (by rw [List.length_cons]; omega)))
          · exact Or.inr (FOut_pre hF (RdTo_trans t t4) (FrPM_trans frm t5) (by omega) (by omega) (by omega))
        · -- a fault in the first sum
          have fo2 := FOut_pre hF t frm (j := j) (by omega) (by omega) (by omega)
          obtain ⟨fs, fl⟩ := FOut_st fo2 (by omega)
          obtain ⟨X6, y1, y2⟩ := f_rec2 fs (by omega) (n := n) (by omega)
          have fs1 := FSt_of fs y2 (by omega)
          have ff := f_open fs1 (X6 3 5 - 1)
          have fs2 := FSt_of fs1 ff (by have := y2.2.2.2.1; omega)
          obtain ⟨X7, y3, y4⟩ := f_sign fs2 (C 0 j)
          refine ⟨X7, ?_, ?_, Or.inr (FOut_x fo2 (FFr_trans y2 (FFr_trans ff y4)) (by omega) (by omega))⟩
          · unfold x_Reader_part_B152
            dsimp only [lt]
            rw [f_require fs, bnd_some, y1, bnd_some, f_require fs1, bnd_some, y3, bnd_some]
          · exact FrPX_trans fx3 (fun q h1 h2 h3 => by rw [y4.2.2.2.2.2.2 q h1 h2 h3, upM_row h1, y2.2.2.2.2.2.2 q h1 h2 h3])
    · -- the eighth
      have ho7 : o = 7 := by omega
      subst ho7
      obtain ⟨M3, p1, p2, p3, p4⟩ := o2 h40 rfl
      clear o1 o2 o3
      have en := x_enter_f hC hX1.1 hj1
      have fo := FOut_opd (n := n + 1) hC hj1 hX1 h42 (he.trans p1) (FrPM_trans hfr1 p2) (by omega) p3 p4
      refine ⟨fX C (j + 1) 5 Xa, ?_, FrPX_trans fxa (fX_fr C (j + 1) 5 Xa), Or.inr (FOut_k fo (by omega))⟩
      unfold x_Reader_part_B93 x_Reader_part_B117
      dsimp only [lt]
      rw [e34, a40, bnd_some, ifd, if_pos h40, en, bnd2_some]
      rfl
  · -- no (
    obtain ⟨M3, p1, p2, p3, p4⟩ := o3 h40
    clear o1 o2 o3
    have fo := FOut_opd (n := n + 1) hC hj1 hX1 h42 (he.trans p1) (FrPM_trans hfr1 p2) (by omega) p3 p4
    obtain ⟨fs, fl⟩ := FOut_st fo (by omega)
    refine ⟨fX C (j + 1) 1 Xa, ?_, FrPX_trans fxa (fX_fr C (j + 1) 1 Xa), Or.inr (FOut_k fo (by omega))⟩
    unfold x_Reader_part_B93 x_Reader_part_B117
    dsimp only [lt]
    rw [e34, a40, bnd_some, ifd, if_neg h40, x_refuse hC hX1.1 hj1, bnd_some]
    show bnd2 (x_Reader_enter (fX C (j + 1) 1 Xa)) _ = _
    rw [f_enter fs, bnd2_some]
    rfl
end PART2
