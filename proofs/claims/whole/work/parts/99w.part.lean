/-! THE PURE PART: town: part_step -/
set_option maxHeartbeats 4000000 in
theorem part_step {C : Mem} {cnt inb w n : Nat} (hC : TokC C cnt) (hA : AheadOK C cnt) (hin : inb < 2) (hw : w < 3) (hS : GoalS C cnt inb w n) (hT : GoalT C cnt inb w n) (hn : n ≤ 80) : GoalP C cnt inb w (n + 1) := by
  intro X M j o L f stk ops st hpre hfst hneed
  obtain ⟨hSt, hj, ho, hstk, hops, hst, hf, hb, hbase⟩ := hpre
  have hX := hSt.1
  have hM : MS C inb w j o 0 L [] (f :: stk) ops X M := hSt.2
  have hcn := hC.2.1
  have hK := hC.2.2.1 j hj
  have h42 : M 0 42 = 0 := hM.2.2.2.2.2.2.2.2.2.2
  have hL : L.length ≤ j := by have := hX.2.2.2.2; simp only [List.length_nil] at this; omega
  show Res C cnt inb w (n + 1) j o L f stk ops false st X M (x_Reader_part (x_rec n) X) _
  rw [part_eq hC hw hX hj]
  rcases lex_cases hM.2.1 with ⟨e26, e0, el⟩ | ⟨el, e4, e0, hg⟩
  · -- wrong in itself
    have e : m_operand M = some (true, fM C j 1 M) := opd_lexbad el
    have hns : ¬ maySo w (srt (C 0 j)) := by rw [e26]; unfold maySo srt; simp
    rw [if_neg (by omega), if_neg (by omega), if_neg (by omega), if_neg hns]
    exact ⟨_, rfl, fX_fr C j 1 X, Or.inr (FOut_opd hC hj hX h42 e (fM_fr (FrPM_refl inb M)) (by omega) fM_8.1 fM_8.2)⟩
  · -- the reference takes it
    obtain ⟨M1, hM1⟩ : ∃ M1, M1 = upM M 20 stk.length 0 := ⟨_, rfl⟩
    obtain ⟨g, hgdef⟩ : ∃ g : Fr, g = (f.1, f.2.1, 0, f.2.2.2.1, f.2.2.2.2) := ⟨_, rfl⟩
    obtain ⟨m1, m2⟩ := MS_top hM (k := 20) (v := 0) (by omega) g (by rw [hgdef]) (by rw [hgdef]; simp) (by rw [hgdef]; simp) (by rw [hgdef]; simp) (by rw [hgdef]; simp)
    rw [← hM1] at m1 m2
    have hopd : m_operand M = m_operand_B171 M1 := by rw [hM1]; exact opd_part hM el hg (by omega) hf hb hfst
    have hg1 : Good (C 0 j) (C 2 j) M1 := by rw [hM1]; exact Good_of hg (up_k (by omega)) (up_k (by omega)) (up_k (by omega))
    have e41 : M1 0 4 = C 1 j := by rw [hM1, up_k (by omega)]; exact e4
    rw [B171_eq hg1] at hopd
    have h32 : M1 0 32 = (w : Int) := m1.2.2.2.1
    have h8 : M1 0 8 = 0 := m1.2.1.1
    -- a value
    have val : maySo w (srt (C 0 j)) → m_operand M = m_operand_B441 (srt (C 0 j)) M1 → ∀ (x : Int), CodeEq x (srt (C 0 j)) (M1 0 6) → ∀ y, y = x_Rules_add 13 x (upM X 3 4 ((j : Int) + 1)) →
        Res C cnt inb w (n + 1) j o L f stk ops false st X M (bnd y (fun M2 => some M2)) (fun j1 P ph => P = [] ∧ ph = f.2.1) := by
      intro hso ho4 x hc y hy
      have hj1 := tok_next hC hj (fun q => by rw [q] at hso; unfold maySo srt at hso; simp at hso) (fun q => by rw [q] at hso; unfold maySo srt at hso; simp at hso)
      have hX1 := StX_next hX
      obtain ⟨X2, a1, a2, a3, a4, a5⟩ := StX_code hX1 (by omega) (by omega) x (srt (C 0 j)) (M1 0 6)
      obtain ⟨M2, b1, b2, b3⟩ := MS_code (X1 := X2) m1 hin (by omega) hc a3 (fun i hi => by rw [a4 i hi, up_k (by omega)])
      obtain ⟨M3, c1, c2, c3, -⟩ := MS_ahead hA b2 hj1
      obtain ⟨d1, d2⟩ := MS_flag c2 1
      have e : m_operand M = some (true, M3) := by
        rw [ho4, (B441_eq hw h32 h8 (srt_rng _)).1 hso, b1, bnd_some, c1, bnd_some]
      have t := turn_opd h42 e (Or.inl c2.2.1.1)
      rw [if_pos c2.2.1.1] at t
      rw [hy, a1, bnd_some]
      refine ⟨X2, rfl, FrPX_trans (FrPX_up (Or.inl rfl)) a5, Or.inl ⟨1, _, j + 1, [(srt (C 0 j), M1 0 6)], [], f.2.1, by omega, hj1, by omega, t, FrPM_trans m2 (FrPM_trans b3 (FrPM_trans c3 d2)), ⟨a2, ?_⟩, ?_, ?_, rfl, rfl⟩⟩
      · rw [hgdef] at d1; exact d1
      · simp only [List.length_cons, List.length_nil]; omega
      · refine TL_one ?_ (by rw [List.length_cons]; omega)
        show tstep w (srt (C 0 j)) st = some (false :: st)
        have hr := srt_rng (C 0 j)
        unfold tstep
        by_cases e0 : srt (C 0 j) = 0
        · rw [if_pos e0]
        · have has : asks w (srt (C 0 j)) = true := by
            unfold asks
            simp only [Bool.or_eq_true, Bool.and_eq_true, decide_eq_true_eq]
            unfold maySo at hso
            omega
          rw [if_neg e0, if_neg (by omega), if_pos (by omega), if_pos has]
    by_cases h24 : C 0 j = 24
    · rw [if_pos h24]
      rw [if_neg (by omega), if_neg (by omega), if_neg (by omega), if_neg (by omega)] at hopd
      obtain ⟨-, nv⟩ := tok_num hg1
      obtain ⟨n1, n2, n3⟩ := nv h24
      have hs0 : srt (C 0 j) = 0 := by rw [h24]; rfl
      rw [x_num_ok hC hX.1 hj h24 (by omega) (by omega), bnd2_some]
      have := val (by rw [hs0]; unfold maySo; omega) hopd (C 2 j) (by rw [hs0, n1]; exact Or.inl ⟨rfl, rfl, n2, n3⟩) (x_Rules_addNumber 13 (C 2 j) (upM X 3 4 ((j : Int) + 1))) (by
        unfold x_Rules_addNumber
        generalize x_Rules_add 13 (C 2 j) (upM X 3 4 ((j : Int) + 1)) = z
        cases z <;> rfl)
      exact this
    rw [if_neg h24]
    by_cases h40 : C 0 j = 40
    · -- ( SUM )
      rw [if_pos h40]
      rw [if_pos h40] at hopd
      by_cases ho7 : o < 7
      · have hj1 := tok_next hC hj (by omega) (by omega)
        obtain ⟨M3, p2, p3, p4⟩ := MS_opens hA m1 hj1 2 (by rw [List.length_cons]; omega) ho7
        have e : m_operand M = some (false, M3) := by rw [hopd, p2, bnd_some]
        have t := turn_opd h42 e (Or.inl p3.2.1.1)
        rw [if_pos p3.2.1.1] at t
        have b0 : b2i false = 0 := rfl
        rw [b0] at t
        obtain ⟨q1, q2⟩ := MS_flag p3 0
        have en := x_enter_ok hX.1 ho7
        obtain ⟨Xb, hXb⟩ : ∃ Xb, Xb = upM (upM X 3 5 ((o : Int) + 1)) 3 4 ((j : Int) + 1) := ⟨_, rfl⟩
        rw [← hXb] at en
        have hX2 : StX C cnt w (j + 1) (o + 1) L [] Xb := by rw [hXb]; exact StX_enter hX
        have q1' : MS C inb w (j + 1) (o + 1) 0 L [] ((2, 0, 1, 0, ops.length) :: g :: stk) ops Xb (upM M3 0 42 0) := ⟨CodOK_of q1.1 (fun i _ => by rw [hXb, up_k (by omega), up_k (by omega)]) (fun _ _ => ⟨rfl, rfl⟩), q1.2⟩
        have frm : FrPM inb M (upM M3 0 42 0) := FrPM_trans m2 (FrPM_trans p4 q2)
        have hl2 : (g :: stk).length = stk.length + 1 := List.length_cons
        have fxb : FrPX X Xb := by rw [hXb]; exact FrPX_trans (FrPX_up (Or.inl rfl)) (FrPX_up (Or.inl rfl))
        obtain ⟨X3, s1, s2, s3⟩ := hS Xb (upM M3 0 42 0) (j + 1) (o + 1) L (2, 0, 1, 0, ops.length) (g :: stk) ops st ⟨⟨hX2, q1'⟩, hj1, by omega, by omega, by omega, by omega, by simp, Or.inr rfl, Nat.le_refl _⟩ (fun q => absurd q (by unfold isT; simp)) (Or.inl rfl) (Or.inl rfl) (by omega)
        rw [en, bnd2_some, if_pos rfl, s1, bnd_some]
        have fx3 : FrPX X X3 := FrPX_trans fxb s2
        rcases s3 with ⟨k2, M4, j2, l, P2, ph, t1, t2, t3, t4, t5, t6, t7, t8, t9, t10, t11, t12⟩ | hF
        · subst t11
          have hX3 := t6.1
          have req := x_req hC hX3.1 t2 (c := 41) (by omega)
          by_cases h41 : C 0 j2 = 41
          · have hr := req.1 h41
            obtain ⟨M5, v1, v2, v3, hj3⟩ := goes_close2 hC hA t2 t6 hin (by omega) (by omega) rfl (by simp) t12 h41 rfl (by omega)
            obtain ⟨X4, hX4⟩ : ∃ X4, X4 = upM (upM X3 3 4 ((j2 : Int) + 1)) 3 5 ((upM X3 3 4 ((j2 : Int) + 1)) 3 5 - 1) := ⟨_, rfl⟩
            have st4 : StX C cnt w (j2 + 1) o (L ++ l) P2 X4 := by
              rw [hX4]
              exact StX_of hX3 (by rw [up_i (by omega), up_i (by omega)]) (by rw [up_i (by omega), up_e]; omega) (by rw [up_e, up_i (by omega), hX3.1.2.2.1]; omega) (by rw [up_i (by omega), up_i (by omega)]) (fun q hq => by rw [upM_row hq, upM_row hq]) (by omega)
            have st4' := StX_ups st4
            have e15 : ∀ i, X4 15 i = X3 15 i := fun i => by rw [hX4, up_k (by omega), up_k (by omega)]
            have o1 : o + 1 - 1 = o := by omega
            rw [o1] at v3
            have v3' : MS C inb w (j2 + 1) o 1 ((L ++ l) ++ ups P2) [] (g :: stk) ops X4 M5 := ⟨CodOK_of v3.1 (fun i _ => e15 i) (fun _ _ => ⟨rfl, rfl⟩), v3.2⟩
            rw [hr, bnd_some, ← hX4]
            refine ⟨X4, rfl, FrPX_trans fx3 (by rw [hX4]; exact FrPX_trans (FrPX_up (Or.inl rfl)) (FrPX_up (Or.inl rfl))), Or.inl ⟨1 + k2 + 1, M5, j2 + 1, l ++ ups P2, [], f.2.1, by omega, hj3, by omega, RdTo_trans (RdTo_trans t t4) v1, FrPM_trans (FrPM_trans frm t5) v2, ⟨?_, ?_⟩, ?_, ?_, rfl, rfl⟩⟩
            · rw [← List.append_assoc]; exact st4'
            · rw [← List.append_assoc, ← hgdef]; exact v3'
            · rw [List.length_append, ups_len, List.length_nil]; omega
            · rw [List.map_append, ups_fst, List.append_nil]; exact t8
          · have hr := req.2 h41
            have gb := close_fail t6 (by omega) (Or.inl rfl) (by simp) (Or.inr t12) (Or.inl (by unfold isT; simp)) h41
            have fo := FOut_goes (n := n) hC t2 hX3 t6.2.2.2.2.2.2.2.2.2.2.2 gb (fM_fr (FrPM_refl inb M4)) (by omega) fM_8.1 fM_8.2
            have fo2 := FOut_pre fo (RdTo_trans t t4) (FrPM_trans frm t5) (j := j) (by omega) (by omega) (by omega)
            obtain ⟨fs, fl⟩ := FOut_st fo2 (by omega)
            have ff := f_open fs (((fX C j2 1 X3) 3 5) - 1)
            rw [hr, bnd_some]
            exact ⟨_, rfl, FrPX_trans fx3 (FrPX_trans (fX_fr C j2 1 X3) (FrPX_up (Or.inl rfl))), Or.inr (FOut_x fo2 ff (by omega) (by omega))⟩
        · have fo2 := FOut_pre hF t frm (j := j) (by omega) (by omega) (by omega)
          obtain ⟨fs, fl⟩ := FOut_st fo2 (by omega)
          have ff := f_open fs (X3 3 5 - 1)
          rw [f_require fs, bnd_some]
          exact ⟨_, rfl, FrPX_trans fx3 (FrPX_up (Or.inl rfl)), Or.inr (FOut_x fo2 ff (by omega) (by omega))⟩
      · have ho7 : o = 7 := by omega
        subst ho7
        have e : m_operand M = some (false, fM C j 5 M1) := by
          rw [hopd, m_opens_f m1, e41, bnd_some]
          rfl
        rw [x_enter_f hC hX.1 hj, bnd2_some, if_neg (by decide)]
        exact ⟨_, rfl, fX_fr C j 5 X, Or.inr (FOut_opd hC hj hX h42 e (fM_fr m2) (by omega) fM_8.1 fM_8.2)⟩
    rw [if_neg h40]
    rw [if_neg h40] at hopd
    have fn : ∀ wh, ((C 0 j = 21 ∧ wh = 36) ∨ (C 0 j = 22 ∧ wh = 37) ∨ (C 0 j = 16 ∧ wh = 44)) → m_operand M = m_operand_B249 wh M1 → Res C cnt inb w (n + 1) j o L f stk ops false st X M (x_Reader_part_B93 (x_rec n) (C 0 j) X) (fun j1 P ph => P = [] ∧ ph = f.2.1) := by
      intro wh hwh he
      have hj1 := tok_next hC hj (by omega) (by omega)
      obtain ⟨X1, y1, y2, y3⟩ := b93_step hC hA hin hw hS hT hn hX h42 m1 m2 he hj1 hwh ho hstk hops hst hneed
      refine ⟨X1, y1, y2, ?_⟩
      rcases y3 with ⟨k, M2, j1, l, z1, z2, z3, z4, z5, z6, z7, z8⟩ | hF
      · exact Or.inl ⟨k, M2, j1, l, [], f.2.1, z1, z2, z3, z4, z5, by rw [← hgdef]; exact z6, by rw [List.length_nil]; omega, by rw [List.append_nil]; exact z8, rfl, rfl⟩
      · exact Or.inr hF
    by_cases h21 : C 0 j = 21
    · rw [if_pos (Or.inl h21)]
      rw [if_pos h21] at hopd
      exact fn 36 (Or.inl ⟨h21, rfl⟩) hopd
    rw [if_neg h21] at hopd
    by_cases h22 : C 0 j = 22
    · rw [if_pos (Or.inr (Or.inl h22))]
      rw [if_pos h22] at hopd
      exact fn 37 (Or.inr (Or.inl ⟨h22, rfl⟩)) hopd
    rw [if_neg h22] at hopd
    by_cases h16 : C 0 j = 16
    · rw [if_pos (Or.inr (Or.inr h16))]
      rw [if_pos h16] at hopd
      exact fn 44 (Or.inr (Or.inr ⟨h16, rfl⟩)) hopd
    rw [if_neg h16] at hopd
    rw [if_neg (by omega)]
    by_cases hso : maySo w (srt (C 0 j))
    · rw [if_pos hso]
      have hk : C 0 j = 11 ∨ C 0 j = 12 ∨ C 0 j = 13 ∨ C 0 j = 10 ∨ C 0 j = 7 ∨ C 0 j = 14 ∨ C 0 j = 15 ∨ C 0 j = 8 := by
        by_cases hh : C 0 j = 11 ∨ C 0 j = 12 ∨ C 0 j = 13 ∨ C 0 j = 10 ∨ C 0 j = 7 ∨ C 0 j = 14 ∨ C 0 j = 15 ∨ C 0 j = 8
        · exact hh
        · have : srt (C 0 j) = -1 := by
            unfold srt
            rw [if_neg h24, if_neg (by omega), if_neg (by omega), if_neg (by omega), if_neg (by omega), if_neg (by omega), if_neg (by omega), if_neg (by omega), if_neg (by omega)]
          rw [this] at hso
          unfold maySo at hso
          omega
      have e6 : M1 0 6 = 0 := tok_val hg1 h24 (by omega)
      refine val hso hopd (10000 + C 0 j) ?_ (x_Rules_addFact 13 (C 0 j) (upM X 3 4 ((j : Int) + 1))) (by
        unfold x_Rules_addFact
        generalize x_Rules_add 13 (10000 + C 0 j) (upM X 3 4 ((j : Int) + 1)) = z
        cases z <;> rfl)
      rw [e6]
      rcases hk with e | e | e | e | e | e | e | e <;> rw [e] <;> unfold CodeEq srt <;> decide
    · rw [if_neg hso]
      have e : m_operand M = some (true, fM C j 1 M1) := by
        rw [hopd, (B441_eq hw h32 h8 (srt_rng _)).2 hso, e41]
        rfl
      exact ⟨_, rfl, fX_fr C j 1 X, Or.inr (FOut_opd hC hj hX h42 e (fM_fr m2) (by omega) fM_8.1 fM_8.2)⟩
