/-! THE PURE PART: town: a fact -/
section FACT
variable {C : Mem} {cnt inb w n j o : Nat} {L : List (Int × Int)} {stk : List Fr} {ops : List Int} {X M : Mem} {f : Fr}
theorem opd_not (hC : TokC C cnt) (hA : AheadOK C cnt) (hj : j < cnt) (h : MS C inb w j o 0 L [] (f :: stk) ops X M) (hK : C 0 j = 19) (hstk : stk.length ≤ 7) (hf : 0 ≤ f.1 ∧ f.1 ≤ 6) (hT : isT f) (hb : f.2.2.1 = 1) (hops : ops.length < 400) :
    (o < 7 → ∃ M3, m_operand M = some (false, M3) ∧ MS C inb w (j + 1) (o + 1) 0 L [] (f :: stk) (43 :: ops) X M3 ∧ FrPM inb M M3 ∧ j + 1 < cnt) ∧ (o = 7 → m_operand M = some (true, fM C j 5 M)) := by
  obtain ⟨hg, h4, hl⟩ := good_of_cur h.2.1 (by omega)
  have hj1 := tok_next hC hj (by omega) (by omega)
  have w19 : m_isWord 7237492 M = some (decide (C 0 j = 19)) := tok_word hg 19 (by omega)
  have e39 : M 0 39 = (o : Int) := h.2.2.2.2.2.2.2.1
  have e8 := h.2.1.1
  have w7 : w32 7 = 7 := w32_eq (by omega) (by omega)
  have w1 : w32 1 = 1 := w32_eq (by omega) (by omega)
  refine ⟨fun ho => ?_, fun ho => ?_⟩
  · obtain ⟨k1, k2⟩ := MS_open h (o + 1) (v := (o : Int) + 1) (by show (o : Int) + 1 = ((o + 1 + 0 : Nat) : Int); omega)
    obtain ⟨M2, a1, a2, a3, -⟩ := MS_op k1 (x := 43) (by omega) hops
    obtain ⟨M3, b1, b2, b3, -⟩ := MS_ahead hA a2 hj1
    refine ⟨M3, ?_, b2, FrPM_trans k2 (FrPM_trans a3 b3), hj1⟩
    rw [opd_head h hl (by omega) hf (Or.inr hb), if_pos ⟨hT, hb⟩]
    unfold m_operand_B46 m_operand_B79
    dsimp only [lt]
    rw [w1, if_neg (by omega), w19, bnd_some, ifd, if_pos hK, e39, w7, w32_eq (x := (o : Int)) (by omega) (by omega), if_pos (by omega), e8, w32_0, if_pos (by omega), a1, bnd_some, b1, bnd_some]
  · have hbl : m_blame 5 (C 1 j) M = some (fM C j 5 M) := m_blame_eq e8
    have e8' : (fM C j 5 M) 0 8 = 5 := fM_8.1
    rw [opd_head h hl (by omega) hf (Or.inr hb), if_pos ⟨hT, hb⟩]
    unfold m_operand_B46 m_operand_B79
    dsimp only [lt]
    rw [w1, if_neg (by omega), w19, bnd_some, ifd, if_pos hK, e39, w7, w32_eq (x := (o : Int)) (by omega) (by omega), if_neg (by omega), h4, hbl, bnd_some, e8', w32_eq (x := (5 : Int)) (by omega) (by omega), if_neg (by omega)]
theorem opd_br (hC : TokC C cnt) (hA : AheadOK C cnt) (hj : j < cnt) (h : MS C inb w j o 0 L [] (f :: stk) ops X M) (hK : C 0 j = 91) (hstk : stk.length ≤ 7) (hf : 0 ≤ f.1 ∧ f.1 ≤ 6) (hT : isT f) (hb : f.2.2.1 = 1) :
    (o < 7 → ∃ M3, m_operand M = some (false, M3) ∧ MS C inb w (j + 1) (o + 1) 0 L [] ((5, 0, 1, 0, ops.length) :: (f.1, f.2.1, 0, f.2.2.2.1, f.2.2.2.2) :: stk) ops X M3 ∧ FrPM inb M M3 ∧ j + 1 < cnt) ∧ (o = 7 → ∃ M3, m_operand M = some (false, M3) ∧ FrPM inb M M3 ∧ M3 0 8 = 5 ∧ M3 0 9 = C 1 j) := by
  obtain ⟨hg, h4, hl⟩ := good_of_cur h.2.1 (by omega)
  have hj1 := tok_next hC hj (by omega) (by omega)
  have w19 : m_isWord 7237492 M = some (decide (C 0 j = 19)) := tok_word hg 19 (by omega)
  obtain ⟨M1, hM1⟩ : ∃ M1, M1 = upM M 20 stk.length 0 := ⟨_, rfl⟩
  obtain ⟨m1, m2⟩ := MS_top h (k := 20) (v := 0) (by omega) (f.1, f.2.1, 0, f.2.2.2.1, f.2.2.2.2) rfl (by simp) (by simp) (by simp) (by simp)
  rw [← hM1] at m1 m2
  have hg1 : Good (C 0 j) (C 2 j) M1 := by rw [hM1]; exact Good_of hg (up_k (by omega)) (up_k (by omega)) (up_k (by omega))
  have h41 : M1 0 4 = C 1 j := by rw [hM1, up_k (by omega)]; exact h4
  have s91 := tok_sign hg1 (c := 91) (by unfold signK; omega)
  have w1 : w32 1 = 1 := w32_eq (by omega) (by omega)
  have hlt : 0 ≤ (stk.length : Int) ∧ (stk.length : Int) < 20 := by omega
  have e : m_operand M = bnd (m_opens 5 M1) (fun M31 => some (false, M31)) := by
    rw [opd_head h hl (by omega) hf (Or.inr hb), if_pos ⟨hT, hb⟩]
    unfold m_operand_B46 m_operand_B110 chk
    dsimp only [lt]
    rw [w1, if_neg (by omega), w19, bnd_some, ifd, if_neg (by omega), Int.toNat_natCast, if_pos hlt, if_neg (by omega), ← hM1, s91, bnd_some, ifd, if_pos hK]
  rw [e]
  refine ⟨fun ho => ?_, fun ho => ?_⟩
  · obtain ⟨M3, b1, b2, b3⟩ := MS_opens hA m1 hj1 5 (by rw [List.length_cons]; omega) ho
    exact ⟨M3, by rw [b1, bnd_some], b2, FrPM_trans m2 b3, hj1⟩
  · subst ho
    refine ⟨fM C j 5 M1, ?_, fM_fr m2, fM_8.1, fM_8.2⟩
    rw [m_opens_f m1, h41, bnd_some]
    rfl
theorem opd_all {X1 : Mem} (hC : TokC C cnt) (hA : AheadOK C cnt) (hj : j < cnt) (h : MS C inb w j o 0 L [] (f :: stk) ops X M) (hin : inb < 2) (hK : C 0 j = 20) (hL : L.length ≤ j) (hstk : stk.length ≤ 7) (hf : 0 ≤ f.1 ∧ f.1 ≤ 6) (hT : isT f) (hb : f.2.2.1 = 1) (hX : X1 15 L.length = 1) (hX1 : ∀ i, i < L.length → X1 15 i = X 15 i) :
    ∃ M3, m_operand M = some (true, M3) ∧ MS C inb w (j + 1) o 0 (L ++ [(30, 0)]) [] ((f.1, 2, 0, f.2.2.2.1, f.2.2.2.2) :: stk) ops X1 M3 ∧ FrPM inb M M3 ∧ j + 1 < cnt := by
  obtain ⟨hg, h4, hl⟩ := good_of_cur h.2.1 (by omega)
  have hcn := hC.2.1
  have hj1 := tok_next hC hj (by omega) (by omega)
  have w19 : m_isWord 7237492 M = some (decide (C 0 j = 19)) := tok_word hg 19 (by omega)
  obtain ⟨M1, hM1⟩ : ∃ M1, M1 = upM M 20 stk.length 0 := ⟨_, rfl⟩
  obtain ⟨m1, m2⟩ := MS_top h (k := 20) (v := 0) (by omega) (f.1, f.2.1, 0, f.2.2.2.1, f.2.2.2.2) rfl (by simp) (by simp) (by simp) (by simp)
  rw [← hM1] at m1 m2
  have hg1 : Good (C 0 j) (C 2 j) M1 := by rw [hM1]; exact Good_of hg (up_k (by omega)) (up_k (by omega)) (up_k (by omega))
  have s91 := tok_sign hg1 (c := 91) (by unfold signK; omega)
  have w20 : m_isWord 6384748 M1 = some (decide (C 0 j = 20)) := tok_word hg1 20 (by omega)
  have w1 : w32 1 = 1 := w32_eq (by omega) (by omega)
  have hlt : 0 ≤ (stk.length : Int) ∧ (stk.length : Int) < 20 := by omega
  obtain ⟨M2, a1, a2, a3⟩ := MS_code (X1 := X1) m1 (p := 30) (q := 0) (x := 1) hin (by omega) (by unfold CodeEq; decide) hX hX1
  obtain ⟨b1, b2⟩ := MS_top a2 (k := 19) (v := 2) (by omega) (f.1, 2, 0, f.2.2.2.1, f.2.2.2.2) rfl (by simp) (by simp) (by simp) (by simp)
  obtain ⟨M3, c1, c2, c3, -⟩ := MS_ahead hA b1 hj1
  refine ⟨M3, ?_, c2, FrPM_trans m2 (FrPM_trans a3 (FrPM_trans b2 c3)), hj1⟩
  rw [opd_head h hl (by omega) hf (Or.inr hb), if_pos ⟨hT, hb⟩]
  unfold m_operand_B46 m_operand_B110 m_operand_B137 chk
  dsimp only [lt]
  rw [w1, if_neg (by omega), w19, bnd_some, ifd, if_neg (by omega), Int.toNat_natCast, if_pos hlt, if_neg (by omega), ← hM1, s91, bnd_some, ifd, if_neg (by omega), if_neg (by omega), w20, bnd_some, ifd, if_pos hK, a1, bnd_some, if_pos hlt, c1, bnd_some]
end FACT
theorem cmpc_f {w : Nat} {K : Int} {r : List Bool} (h : K = 60 ∨ K = 62 ∨ K = 61) : CodeEq (20000 + K) (cmpc K) 0 ∧ rk (cmpc K) = 4 ∧ nots [cmpc K] = 0 ∧ tstep w (cmpc K) (false :: false :: r) = some (true :: r) := by
  rcases h with e | e | e <;> rw [e]
  · exact ⟨by unfold CodeEq cmpc; decide, by decide, by decide, rfl⟩
  · exact ⟨by unfold CodeEq cmpc; decide, by decide, by decide, rfl⟩
  · exact ⟨by unfold CodeEq cmpc; decide, by decide, by decide, rfl⟩
set_option maxHeartbeats 4000000 in
theorem fact_step {C : Mem} {cnt inb w n : Nat} (hC : TokC C cnt) (hA : AheadOK C cnt) (hin : inb < 2) (hS : GoalS C cnt inb w n) (hF : GoalF C cnt inb w n) (hT : GoalT C cnt inb w n) (hn : n ≤ 80) : GoalF C cnt inb w (n + 1) := by
  intro X M j o L f stk ops st hpre hisT hph hbeg htop hneed
  obtain ⟨hSt, hj, ho, hstk, hops, hst, hf, hb, hbase⟩ := hpre
  have hX := hSt.1
  have hM : MS C inb w j o 0 L [] (f :: stk) ops X M := hSt.2
  have hcn := hC.2.1
  have hK := hC.2.2.1 j hj
  have h42 : M 0 42 = 0 := hM.2.2.2.2.2.2.2.2.2.2
  have hL : L.length ≤ j := by have := hX.2.2.2.2; simp only [List.length_nil] at this; omega
  have hlen : ∀ g : Fr, (g :: stk).length = stk.length + 1 := fun g => List.length_cons
  show Res C cnt inb w (n + 1) j o L f stk ops true st X M (x_Reader_fact (x_rec n) X) _
  have a19 := x_at hC hX.1 hj (c := 19) (by omega)
  have a91 := x_at hC hX.1 hj (c := 91) (by omega)
  have a20 := x_at hC hX.1 hj (c := 20) (by omega)
  by_cases h19 : C 0 j = 19
  · -- not
    have hx : ∀ z, bnd2 (x_Reader_enter X) (fun r13 M13 => (if r13 = true then bnd (x_rec n 0 M13) (fun M14 => bnd (x_Rules_addSign 13 19 (upM M14 3 5 ((M14 3 5) - 1))) (fun M15 => some M15)) else some M13)) = z → x_Reader_fact (x_rec n) X = z := fun z hz => by
      unfold x_Reader_fact
      dsimp only [lt]
      rw [a19, bnd_some, ifd, if_pos h19]
      exact hz
    obtain ⟨o1, o2⟩ := opd_not hC hA hj hM h19 (by omega) hf hisT hbeg (by omega)
    by_cases ho7 : o < 7
    · obtain ⟨M3, e, p3, p4, hj1⟩ := o1 ho7
      clear o1 o2
      have t := turn_opd h42 e (Or.inl p3.2.1.1)
      rw [if_pos p3.2.1.1] at t
      have b0 : b2i false = 0 := rfl
      rw [b0] at t
      obtain ⟨q1, q2⟩ := MS_flag p3 0
      have en := x_enter_ok hX.1 ho7
      obtain ⟨Xb, hXb⟩ : ∃ Xb, Xb = upM (upM X 3 5 ((o : Int) + 1)) 3 4 ((j : Int) + 1) := ⟨_, rfl⟩
      rw [← hXb] at en
      have hX2 : StX C cnt w (j + 1) (o + 1) L [] Xb := by rw [hXb]; exact StX_enter hX
      have q1' : MS C inb w (j + 1) (o + 1) 0 L [] (f :: stk) (43 :: ops) Xb (upM M3 0 42 0) := ⟨CodOK_of q1.1 (fun i _ => by rw [hXb, up_k (by omega), up_k (by omega)]) (fun _ _ => ⟨rfl, rfl⟩), q1.2⟩
      have frm : FrPM inb M (upM M3 0 42 0) := FrPM_trans p4 q2
      have fxb : FrPX X Xb := by rw [hXb]; exact FrPX_trans (FrPX_up (Or.inl rfl)) (FrPX_up (Or.inl rfl))
      obtain ⟨X3, s1, s2, s3⟩ := hF Xb (upM M3 0 42 0) (j + 1) (o + 1) L f stk (43 :: ops) st ⟨⟨hX2, q1'⟩, hj1, by omega, by omega, by rw [List.length_cons]; omega, by omega, hf, hb, by rw [List.length_cons]; omega⟩ hisT hph hbeg (Or.inr ⟨43, ops, rfl, by decide, by rw [List.length_cons]; omega⟩) (by omega)
      have fx3 : FrPX X X3 := FrPX_trans fxb s2
      have hx' : ∀ z, bnd (x_Rules_addSign 13 19 (upM X3 3 5 ((X3 3 5) - 1))) (fun M15 => some M15) = z → x_Reader_fact (x_rec n) X = z := fun z hz => hx z (by rw [en, bnd2_some, if_pos rfl, s1, bnd_some]; exact hz)
      rcases s3 with ⟨k2, M4, j2, l, P2, ph, t1, t2, t3, t4, t5, t6, t7, t8, t9, t10, t11⟩ | hFl
      · have hX3 := t6.1
        obtain ⟨X4, hX4⟩ : ∃ X4, X4 = upM X3 3 5 ((X3 3 5) - 1) := ⟨_, rfl⟩
        have st4 : StX C cnt w j2 o (L ++ l) P2 X4 := by
          rw [hX4]
          exact StX_of hX3 (by rw [up_i (by omega)]) (by rw [up_i (by omega)]; exact hX3.1.2.1) (by rw [up_e, hX3.1.2.2.1]; omega) (by rw [up_i (by omega)]) (fun q hq => by rw [upM_row hq]) (by omega)
        obtain ⟨X5, d1, d2, d3, d4, -⟩ := StX_pend st4 (p := 43) (s := 19) (by rw [List.length_append]; omega) (by omega) (by unfold CodeEq; decide)
        rw [← hX4] at hx'
        refine ⟨X5, hx' _ (by rw [d1, bnd_some]), FrPX_trans fx3 (FrPX_trans (by rw [hX4]; exact FrPX_up (Or.inl rfl)) d4), Or.inl ⟨1 + k2, M4, j2, l, P2 ++ [43], ph, by omega, t2, by omega, RdTo_trans t t4, FrPM_trans frm t5, ?_, ?_, ?_, ?_, ?_, t11⟩⟩
        · obtain ⟨-, m1, m2, a1, a2, a3, a4, a5, a6, a7, a8, a9⟩ := t6
          refine ⟨d2, CodOK_of m1 (fun i hi => by rw [d3 i hi, hX4, up_k (by omega)]) (fun _ _ => ⟨rfl, rfl⟩), m2, a1, a2, a3, a4, a5, ?_, ?_, ?_, a9⟩
          · rw [a6, nots_app]; show ((o + 1 + nots P2 : Nat) : Int) = ((o + (nots P2 + 1) : Nat) : Int); omega
          · rw [a7]; simp only [List.length_append, List.length_cons, List.length_nil]; omega
          · rw [List.append_assoc]; exact a8
        · rw [List.length_append, List.length_cons, List.length_nil]; omega
        · rw [← List.append_assoc]; exact TL_app t8 (TL_one rfl (by rw [List.length_cons]; omega))
        · rw [List.length_append, List.length_cons, List.length_nil]; omega
        · intro p hp
          rcases List.mem_append.mp hp with e1 | e1
          · exact t10 p e1
          · rw [List.mem_singleton.mp e1]; decide
      · have fo2 := FOut_pre hFl t frm (j := j) (by omega) (by omega) (by omega)
        obtain ⟨fs, fl⟩ := FOut_st fo2 (by omega)
        have ff := f_open fs (X3 3 5 - 1)
        have fs2 := FSt_of fs ff (by omega)
        obtain ⟨X5, u1, u2⟩ := f_sign fs2 19
        exact ⟨X5, hx' _ (by rw [u1, bnd_some]), FrPX_trans fx3 (fun q h1 h2 h3 => by rw [u2.2.2.2.2.2.2 q h1 h2 h3, upM_row h1]), Or.inr (FOut_x fo2 (FFr_trans ff u2) (by omega) (by omega))⟩
    · have ho7 : o = 7 := by omega
      subst ho7
      have e := o2 rfl
      clear o1 o2
      exact ⟨_, hx _ (by rw [x_enter_f hC hX.1 hj, bnd2_some, if_neg (by decide)]), fX_fr C j 5 X, Or.inr (FOut_opd hC hj hX h42 e (fM_fr (FrPM_refl inb M)) (by omega) fM_8.1 fM_8.2)⟩
  by_cases h91 : C 0 j = 91
  · -- [ TEST ]
    have hx : ∀ z, bnd2 (x_Reader_enter X) (fun r10 M10 => (if r10 = true then bnd (x_rec n 3 M10) (fun M11 => bnd (x_Reader_require 93 M11) (fun M12 => some (upM M12 3 5 ((M12 3 5) - 1)))) else some M10)) = z → x_Reader_fact (x_rec n) X = z := fun z hz => by
      unfold x_Reader_fact
      dsimp only [lt]
      rw [a19, bnd_some, ifd, if_neg h19, a91, bnd_some, ifd, if_pos h91]
      exact hz
    obtain ⟨o1, o2⟩ := opd_br hC hA hj hM h91 (by omega) hf hisT hbeg
    by_cases ho7 : o < 7
    · obtain ⟨M3, e, p3, p4, hj1⟩ := o1 ho7
      clear o1 o2
      have t := turn_opd h42 e (Or.inl p3.2.1.1)
      rw [if_pos p3.2.1.1] at t
      have b0 : b2i false = 0 := rfl
      rw [b0] at t
      obtain ⟨q1, q2⟩ := MS_flag p3 0
      have en := x_enter_ok hX.1 ho7
      obtain ⟨Xb, hXb⟩ : ∃ Xb, Xb = upM (upM X 3 5 ((o : Int) + 1)) 3 4 ((j : Int) + 1) := ⟨_, rfl⟩
      rw [← hXb] at en
      have hX2 : StX C cnt w (j + 1) (o + 1) L [] Xb := by rw [hXb]; exact StX_enter hX
      have q1' : MS C inb w (j + 1) (o + 1) 0 L [] ((5, 0, 1, 0, ops.length) :: (f.1, f.2.1, 0, f.2.2.2.1, f.2.2.2.2) :: stk) ops Xb (upM M3 0 42 0) := ⟨CodOK_of q1.1 (fun i _ => by rw [hXb, up_k (by omega), up_k (by omega)]) (fun _ _ => ⟨rfl, rfl⟩), q1.2⟩
      have frm : FrPM inb M (upM M3 0 42 0) := FrPM_trans p4 q2
      have fxb : FrPX X Xb := by rw [hXb]; exact FrPX_trans (FrPX_up (Or.inl rfl)) (FrPX_up (Or.inl rfl))
      obtain ⟨X3, s1, s2, s3⟩ := hT Xb (upM M3 0 42 0) (j + 1) (o + 1) L (5, 0, 1, 0, ops.length) ((f.1, f.2.1, 0, f.2.2.2.1, f.2.2.2.2) :: stk) ops st ⟨⟨hX2, q1'⟩, hj1, by omega, by rw [hlen]; omega, by omega, by omega, by simp, Or.inr rfl, Nat.le_refl _⟩ (Or.inr (Or.inl rfl)) rfl rfl rfl (by omega)
      have fx3 : FrPX X X3 := FrPX_trans fxb s2
      have hx' : ∀ z, bnd (x_Reader_require 93 X3) (fun M12 => some (upM M12 3 5 ((M12 3 5) - 1))) = z → x_Reader_fact (x_rec n) X = z := fun z hz => hx z (by rw [en, bnd2_some, if_pos rfl, s1, bnd_some]; exact hz)
      rcases s3 with ⟨k2, M4, j2, l, P2, ph, t1, t2, t3, t4, t5, t6, t7, t8, t9, t10, t11, t12⟩ | hFl
      · have hX3 := t6.1
        have req := x_req hC hX3.1 t2 (c := 93) (by omega)
        have hph' : ph = 1 ∨ ph = 2 := by rcases t10 with ⟨e, -⟩ | e; exact Or.inl e; exact Or.inr e
        have hno : ph = 2 ∨ nonOp (C 0 j2) := by rcases t10 with ⟨-, e⟩ | e; exact Or.inr e; exact Or.inl e
        by_cases h93 : C 0 j2 = 93
        · have hr := req.1 h93
          obtain ⟨M5, v1, v2, v3, hj3⟩ := goes_close5 hC hA t2 t6 hin (by omega) (by omega) rfl hph' hno h93 rfl (by omega)
          obtain ⟨X4, hX4⟩ : ∃ X4, X4 = upM (upM X3 3 4 ((j2 : Int) + 1)) 3 5 ((upM X3 3 4 ((j2 : Int) + 1)) 3 5 - 1) := ⟨_, rfl⟩
          have st4 : StX C cnt w (j2 + 1) o (L ++ l) P2 X4 := by
            rw [hX4]
            exact StX_of hX3 (by rw [up_i (by omega), up_i (by omega)]) (by rw [up_i (by omega), up_e]; omega) (by rw [up_e, up_i (by omega), hX3.1.2.2.1]; omega) (by rw [up_i (by omega), up_i (by omega)]) (fun q hq => by rw [upM_row hq, upM_row hq]) (by omega)
          have st4' := StX_ups st4
          have e15 : ∀ i, X4 15 i = X3 15 i := fun i => by rw [hX4, up_k (by omega), up_k (by omega)]
          have o1 : o + 1 - 1 = o := by omega
          rw [o1] at v3
          have v3' : MS C inb w (j2 + 1) o 1 ((L ++ l) ++ ups P2) [] ((f.1, 2, 0, f.2.2.2.1, f.2.2.2.2) :: stk) ops X4 M5 := ⟨CodOK_of v3.1 (fun i _ => e15 i) (fun _ _ => ⟨rfl, rfl⟩), v3.2⟩
          refine ⟨X4, hx' _ (by rw [hr, bnd_some, ← hX4]), FrPX_trans fx3 (by rw [hX4]; exact FrPX_trans (FrPX_up (Or.inl rfl)) (FrPX_up (Or.inl rfl))), Or.inl ⟨1 + k2 + 1, M5, j2 + 1, l ++ ups P2, [], 2, by omega, hj3, by omega, RdTo_trans (RdTo_trans t t4) v1, FrPM_trans (FrPM_trans frm t5) v2, ⟨?_, ?_⟩, ?_, ?_, ?_, ?_, Or.inr rfl⟩⟩
          · rw [← List.append_assoc]; exact st4'
          · rw [← List.append_assoc]; exact v3'
          · rw [List.length_append, ups_len, List.length_nil]; omega
          · rw [List.map_append, ups_fst, List.append_nil]; exact t8
          · rw [List.length_nil]; omega
          · intro p hp; cases hp
        · have hr := req.2 h93
          have gb := close_fail t6 (by rw [hlen]; omega) (Or.inr (Or.inr rfl)) (by show 0 ≤ ph ∧ ph ≤ 2; omega) hno (Or.inr ⟨by show ph ≠ 0; omega, t11, t12⟩) h93
          have fo := FOut_goes (n := n) hC t2 hX3 t6.2.2.2.2.2.2.2.2.2.2.2 gb (fM_fr (FrPM_refl inb M4)) (by omega) fM_8.1 fM_8.2
          have fo2 := FOut_pre fo (RdTo_trans t t4) (FrPM_trans frm t5) (j := j) (by omega) (by omega) (by omega)
          obtain ⟨fs, fl⟩ := FOut_st fo2 (by omega)
          have ff := f_open fs (((fX C j2 1 X3) 3 5) - 1)
          exact ⟨_, hx' _ (by rw [hr, bnd_some]), FrPX_trans fx3 (FrPX_trans (fX_fr C j2 1 X3) (FrPX_up (Or.inl rfl))), Or.inr (FOut_x fo2 ff (by omega) (by omega))⟩
      · have fo2 := FOut_pre hFl t frm (j := j) (by omega) (by omega) (by omega)
        obtain ⟨fs, fl⟩ := FOut_st fo2 (by omega)
        have ff := f_open fs (X3 3 5 - 1)
        exact ⟨_, hx' _ (by rw [f_require fs, bnd_some]), FrPX_trans fx3 (FrPX_up (Or.inl rfl)), Or.inr (FOut_x fo2 ff (by omega) (by omega))⟩
    · have ho7 : o = 7 := by omega
      subst ho7
      obtain ⟨M3, e, p1, p2, p3⟩ := o2 rfl
      clear o1 o2
      exact ⟨_, hx _ (by rw [x_enter_f hC hX.1 hj, bnd2_some, if_neg (by decide)]), fX_fr C j 5 X, Or.inr (FOut_opd hC hj hX h42 e p1 (by omega) p2 p3)⟩
  by_cases h20 : C 0 j = 20
  · -- all
    have hj1 := tok_next hC hj (by omega) (by omega)
    have hX1 := StX_next hX
    obtain ⟨X2, a1, a2, a3, a4, a5⟩ := StX_code hX1 (by omega) (by omega) 1 30 0
    obtain ⟨M3, e, p3, p4, -⟩ := opd_all (X1 := X2) hC hA hj hM hin h20 hL (by omega) hf hisT hbeg a3 (fun i hi => by rw [a4 i hi, up_k (by omega)])
    have t := turn_opd h42 e (Or.inl p3.2.1.1)
    rw [if_pos p3.2.1.1] at t
    have b1 : b2i true = 1 := rfl
    rw [b1] at t
    obtain ⟨q1, q2⟩ := MS_flag p3 1
    refine ⟨X2, ?_, FrPX_trans (FrPX_up (Or.inl rfl)) a5, Or.inl ⟨1, _, j + 1, [(30, 0)], [], 2, by omega, hj1, by omega, t, FrPM_trans p4 q2, ⟨a2, q1⟩, ?_, ?_, ?_, ?_, Or.inr rfl⟩⟩
    · unfold x_Reader_fact x_Rules_addNumber
      dsimp only [lt]
      rw [a19, bnd_some, ifd, if_neg h19, a91, bnd_some, ifd, if_neg h91, a20, bnd_some, ifd, if_pos h20, hX.1.2.1, a1, bnd_some, bnd_some]
    · simp only [List.length_cons, List.length_nil]; omega
    · exact TL_one rfl (by rw [List.length_cons]; omega)
    · rw [List.length_nil]; omega
    · intro p hp; cases hp
  -- SUM SIGN SUM
  obtain ⟨X3, s1, s2, s3⟩ := hS X M j o L f stk ops st ⟨hSt, hj, ho, hstk, by omega, by omega, hf, hb, hbase⟩ (fun _ _ => ⟨h19, h91, h20⟩) (Or.inl hph) (TopLt_mono htop (by omega)) (by omega)
  have hx : ∀ z, bnd (x_Reader_kind X3) (fun r5 => (if w32 r5 = w32 60 then x_Reader_fact_B151 (x_rec n) r5 X3 else (if w32 r5 = w32 62 then x_Reader_fact_B151 (x_rec n) r5 X3 else (if w32 r5 = w32 61 then x_Reader_fact_B151 (x_rec n) r5 X3 else bnd (x_Reader_refuse 1 X3) (fun M8 => x_Reader_fact_B151 (x_rec n) r5 M8))))) = z → x_Reader_fact (x_rec n) X = z := fun z hz => by
    unfold x_Reader_fact
    dsimp only [lt]
    rw [a19, bnd_some, ifd, if_neg h19, a91, bnd_some, ifd, if_neg h91, a20, bnd_some, ifd, if_neg h20, s1, bnd_some]
    exact hz
  have w60 : w32 60 = 60 := w32_eq (by omega) (by omega)
  have w62 : w32 62 = 62 := w32_eq (by omega) (by omega)
  have w61 : w32 61 = 61 := w32_eq (by omega) (by omega)
  rcases s3 with ⟨k2, M2, j2, l, P2, ph, t1, t2, t3, t4, t5, t6, t7, t8, t9, t10, t11, t12⟩ | hFl
  · rw [hph] at t11
    subst t11
    have hX3 := t6.1
    have hK2 := hC.2.2.1 j2 t2
    have kd := x_kind hC hX3.1 t2
    have wk : w32 (C 0 j2) = C 0 j2 := w32_eq (by omega) (by omega)
    by_cases hc : C 0 j2 = 60 ∨ C 0 j2 = 62 ∨ C 0 j2 = 61
    · obtain ⟨c1, c2, c3, -⟩ := cmpc_f (w := w) (r := st) hc
      have c4 := fun r => (cmpc_f (w := w) (r := r) hc).2.2.2
      obtain ⟨M3, r1, r2, r3, hj3⟩ := goes_cmp hC hA t2 t6 hin ho (by omega) hf hisT rfl hc (TopLt_mono htop (by omega)) (by omega) t10
      have hX4 := StX_ups (StX_next hX3)
      obtain ⟨Xb, hXb⟩ : ∃ Xb, Xb = upM X3 3 4 ((j2 : Int) + 1) := ⟨_, rfl⟩
      rw [← hXb] at hX4
      have e34 : upM X3 3 4 (X3 3 4 + 1) = Xb := by rw [hXb, hX3.1.2.1]
      have r3' : MS C inb w (j2 + 1) o 0 ((L ++ l) ++ ups P2) [] ((f.1, 1, 0, f.2.2.2.1, f.2.2.2.2) :: stk) (cmpc (C 0 j2) :: ops) Xb M3 := ⟨CodOK_of r3.1 (fun i _ => by rw [hXb, up_k (by omega)]) (fun _ _ => ⟨rfl, rfl⟩), r3.2⟩
      have fxb : FrPX X Xb := FrPX_trans s2 (by rw [hXb]; exact FrPX_up (Or.inl rfl))
      obtain ⟨X5, u1, u2, u3⟩ := hS Xb M3 (j2 + 1) o ((L ++ l) ++ ups P2) (f.1, 1, 0, f.2.2.2.1, f.2.2.2.2) stk (cmpc (C 0 j2) :: ops) (false :: st) ⟨⟨hX4, r3'⟩, hj3, ho, hstk, by rw [List.length_cons]; omega, by rw [List.length_cons]; omega, hf, Or.inl rfl, by rw [List.length_cons]; show f.2.2.2.2 ≤ _; omega⟩ (fun _ z => absurd z (by simp)) (Or.inr rfl) (Or.inr ⟨cmpc (C 0 j2), ops, rfl, by rw [c2]; omega, by rw [List.length_cons]; show f.2.2.2.2 < _; omega⟩) (by omega)
      have h31 := hX3.1.1
      have hx' : ∀ z, bnd (x_Rules_addSign 13 (C 0 j2) X5) (fun M7 => some M7) = z → x_Reader_fact (x_rec n) X = z := fun z hz => hx z (by
        have e151 : x_Reader_fact_B151 (x_rec n) (C 0 j2) X3 = z := by
          unfold x_Reader_fact_B151
          dsimp only [lt]
          rw [h31, w32_0, if_pos rfl, e34, u1, bnd_some]
          exact hz
        rw [kd, bnd_some, wk, w60, w62, w61]
        by_cases k1 : C 0 j2 = 60
        · rw [if_pos k1]; exact e151
        by_cases k3 : C 0 j2 = 62
        · rw [if_neg k1, if_pos k3]; exact e151
        rw [if_neg k1, if_neg k3, if_pos (by rcases hc with e | e | e; exact absurd e k1; exact absurd e k3; exact e)]; exact e151)
      have rd3 := RdTo_trans t4 r1
      have fr3 := FrPM_trans t5 r2
      rcases u3 with ⟨k3, M4, j3, l3, P3, ph3, v1, v2, v3, v4, v5, v6, v7, v8, v9, v10, v11, v12⟩ | hFl
      · subst v11
        have hX5 := v6.1
        have hlen5 : ((L ++ l) ++ ups P2 ++ l3).length = L.length + l.length + P2.length + l3.length := by simp only [List.length_append, ups_len]
        obtain ⟨X6, d1, d2, d3, d4, -⟩ := StX_pend hX5 (p := cmpc (C 0 j2)) (s := C 0 j2) (by rw [hlen5]; omega) (by omega) c1
        refine ⟨X6, hx' _ (by rw [d1, bnd_some]), FrPX_trans fxb (FrPX_trans u2 d4), Or.inl ⟨k2 + 1 + k3, M4, j3, l ++ ups P2 ++ l3, P3 ++ [cmpc (C 0 j2)], 1, by omega, v2, by omega, RdTo_trans rd3 v4, FrPM_trans fr3 v5, ?_, ?_, ?_, ?_, ?_, Or.inl ⟨rfl, v12⟩⟩⟩
        · obtain ⟨-, m1, m2, a1, a2, a3, a4, a5, a6, a7, a8, a9⟩ := v6
          have ea : (L ++ (l ++ ups P2 ++ l3)) = ((L ++ l) ++ ups P2 ++ l3) := by simp only [List.append_assoc]
          rw [ea]
          refine ⟨d2, CodOK_of m1 d3 (fun _ _ => ⟨rfl, rfl⟩), m2, a1, a2, a3, a4, a5, ?_, ?_, ?_, a9⟩
          · rw [a6, nots_app, c3]; rfl
          · rw [a7]; simp only [List.length_append, List.length_cons, List.length_nil]; omega
          · rw [List.append_assoc]; exact a8
        · simp only [List.length_append, ups_len, List.length_cons, List.length_nil]; omega
        · have f1 : (l ++ ups P2 ++ l3).map Prod.fst ++ (P3 ++ [cmpc (C 0 j2)]) = (l.map Prod.fst ++ P2) ++ ((l3.map Prod.fst ++ P3) ++ [cmpc (C 0 j2)]) := by
            simp only [List.map_append, ups_fst, List.append_assoc]
          rw [f1]
          exact TL_app t8 (TL_app v8 (TL_one (c4 st) (by rw [List.length_cons]; omega)))
        · rw [List.length_append, List.length_cons, List.length_nil]; omega
        · intro p hp
          rcases List.mem_append.mp hp with e1 | e1
          · have := v10 p e1; omega
          · rw [List.mem_singleton.mp e1, c2]; omega
      · have fo2 := FOut_pre hFl rd3 fr3 (j := j) (by omega) (by omega) (by omega)
        obtain ⟨fs, fl⟩ := FOut_st fo2 (by omega)
        obtain ⟨X6, y1, y2⟩ := f_sign fs (C 0 j2)
        exact ⟨X6, hx' _ (by rw [y1, bnd_some]), FrPX_trans fxb (FrPX_trans u2 (fun q h1 h2 h3 => y2.2.2.2.2.2.2 q h1 h2 h3)), Or.inr (FOut_x fo2 y2 (by omega) (by omega))⟩
    · -- no comparison
      have n1 : C 0 j2 ≠ 60 := fun q => hc (Or.inl q)
      have n2 : C 0 j2 ≠ 62 := fun q => hc (Or.inr (Or.inl q))
      have n3 : C 0 j2 ≠ 61 := fun q => hc (Or.inr (Or.inr q))
      have gb : m_goesOn M2 = some (false, fM C j2 1 M2) := by
        rcases lex_cases t6.2.2.1 with ⟨-, -, el⟩ | ⟨el, e4, e0, hg⟩
        · exact goes_lexbad el
        · exact goes_bad t6.2 el hg e4 (by omega) hf hisT rfl t12 ⟨n1, n2, n3⟩
      have fo := FOut_goes (n := n) hC t2 hX3 t6.2.2.2.2.2.2.2.2.2.2.2 gb (fM_fr (FrPM_refl inb M2)) (by omega) fM_8.1 fM_8.2
      have fo2 := FOut_pre fo t4 t5 (j := j) (by omega) (by omega) (by omega)
      obtain ⟨fs, fl⟩ := FOut_st fo2 (by omega)
      have e0 : ¬ w32 ((fX C j2 1 X3) 3 1) = 0 := by rw [w32_eq (by have := fs.1; have := fs.2.1; omega) (by have := fs.1; have := fs.2.1; omega)]; have := fs.1; omega
      refine ⟨fX C j2 1 X3, hx _ ?_, FrPX_trans s2 (fX_fr C j2 1 X3), Or.inr (FOut_n fo2 (by omega))⟩
      rw [kd, bnd_some, wk, w60, w62, w61, if_neg n1, if_neg n2, if_neg n3, x_refuse hC hX3.1 t2, bnd_some]
      show x_Reader_fact_B151 (x_rec n) (C 0 j2) (fX C j2 1 X3) = _
      unfold x_Reader_fact_B151
      rw [if_neg e0]
  · -- a fault in the first sum
    obtain ⟨fs, fl⟩ := FOut_st hFl (by omega)
    obtain ⟨v, hv⟩ := f_kind fs
    have e0 : ¬ w32 (X3 3 1) = 0 := by rw [w32_eq (by have := fs.1; have := fs.2.1; omega) (by have := fs.1; have := fs.2.1; omega)]; have := fs.1; omega
    have e151 : x_Reader_fact_B151 (x_rec n) v X3 = some X3 := by unfold x_Reader_fact_B151; rw [if_neg e0]
    refine ⟨X3, hx _ ?_, s2, Or.inr (FOut_n hFl (by omega))⟩
    rw [hv, bnd_some, f_refuse fs, bnd_some, e151]
    repeat' split
    all_goals rfl
