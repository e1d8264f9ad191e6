/-! THE PURE PART: town: a sum -/
theorem TopLt_mono {m m' : Int} {b : Nat} {ops : List Int} (h : TopLt m b ops) (hm : m ≤ m') : TopLt m' b ops := by
  rcases h with e | ⟨x, r, e1, e2, e3⟩
  · exact Or.inl e
  · exact Or.inr ⟨x, r, e1, by omega, e3⟩
theorem opc_code {K : Int} (h : opK K) : CodeEq (20000 + K) (opc K) 0 := by
  unfold opK at h
  rcases h with e | e | e | e | e <;> rw [e] <;> unfold CodeEq opc <;> decide
theorem opc_rk {K : Int} (h : opK K) : rk (opc K) = (if K = 43 ∨ K = 45 then 5 else 6) ∧ nots [opc K] = 0 ∧ 31 ≤ opc K ∧ opc K ≤ 35 := by
  unfold opK at h
  rcases h with e | e | e | e | e <;> rw [e] <;> decide
theorem opc_step {w : Nat} {K : Int} {r : List Bool} (h : opK K) : tstep w (opc K) (false :: false :: r) = some (false :: r) := by
  unfold opK at h
  rcases h with e | e | e | e | e <;> rw [e] <;> rfl
theorem sum_flt {cnt : Nat} {X : Mem} (h : FSt cnt X) (rc : Nat → Mem → Option Mem) (N : Nat) (v1 i : Int) : ∃ v' i' X1 X2, itr3 (x_Reader_sum_L8 rc) (N + 1) v1 i X = some (v', i', X1) ∧ (if w32 v' = 0 then some X1 else bnd (x_Rules_addSign 13 v' X1) (fun M7 => some M7)) = some X2 ∧ FFr 0 X X2 := by
  obtain ⟨X2, e1, e2⟩ := f_sign h v1
  have e0 : ¬ w32 (X 3 1) = 0 := by rw [w32_eq (by have := h.1; have := h.2.1; omega) (by have := h.1; have := h.2.1; omega)]; have := h.1; omega
  have key : itr3 (x_Reader_sum_L8 rc) (N + 1) v1 i X = some (v1, i, X) := by
    obtain ⟨rec, hrec⟩ : ∃ r, r = itr3 (x_Reader_sum_L8 rc) N := ⟨_, rfl⟩
    show x_Reader_sum_L8 rc (itr3 (x_Reader_sum_L8 rc) N) v1 i X = _
    rw [← hrec]
    unfold x_Reader_sum_L8
    rw [if_pos e0]
    split <;> rfl
  by_cases e : w32 v1 = 0
  · exact ⟨v1, i, X, X, key, by rw [if_pos e], FFr_refl h⟩
  · exact ⟨v1, i, X, X2, key, by rw [if_neg e, e1, bnd_some], e2⟩
section SUM
variable {C : Mem} {cnt inb w n o : Nat} {stk : List Fr} {ops : List Int} {g : Fr} {st : List Bool}
/-- a sum, behind one of its parts -/
theorem sum_loop (hC : TokC C cnt) (hA : AheadOK C cnt) (hin : inb < 2) (hP : GoalP C cnt inb w n) (hn : n ≤ 80) (ho : o ≤ 7) (hstk : stk.length ≤ o) (hops : ops.length ≤ 5 * o + 3) (hst : st.length ≤ 5 * o + 3) (hg1 : 0 ≤ g.1 ∧ g.1 ≤ 6) (hgb : g.2.2.1 = 0) (hgp : g.2.1 = 0 ∨ g.2.1 = 1) (hbase : g.2.2.2.2 ≤ ops.length) (hs5 : TopLt 5 g.2.2.2.2 ops) (hneed : 1 + 4 * (7 - o) ≤ n) :
    ∀ (d j : Nat) (i : Nat) (v1 : Int) (W P : List Int) (L : List (Int × Int)) (s0 : List Bool) (X M : Mem) (N : Nat), cnt - j ≤ d → d < N → i + 1 ≤ j → j < cnt → ((W = [] ∧ v1 = 0) ∨ (W = [opc v1] ∧ (v1 = 43 ∨ v1 = 45))) → P.length ≤ 1 → (∀ p ∈ P, rk p = 6) → L.length + P.length + W.length ≤ j → TL w P s0 (if W = [] then false :: st else false :: false :: st) →
      St C cnt inb w j o 1 L P (g :: stk) (P ++ (W ++ ops)) X M →
      ∃ v' i' X1 X2, itr3 (x_Reader_sum_L8 (x_rec n)) N v1 (i : Int) X = some (v', i', X1) ∧ (if w32 v' = 0 then some X1 else bnd (x_Rules_addSign 13 v' X1) (fun M7 => some M7)) = some X2 ∧ FrPX X X2 ∧
        ((∃ (k : Nat) (M1 : Mem) (j1 : Nat) (l : List (Int × Int)) (P1 : List Int), j ≤ j1 ∧ j1 < cnt ∧ k ≤ j1 - j ∧ RdTo k M M1 1 ∧ FrPM inb M M1 ∧ St C cnt inb w j1 o 1 (L ++ l) P1 (g :: stk) (P1 ++ ops) X2 M1 ∧ l.length + P1.length ≤ P.length + W.length + (j1 - j) ∧ TL w (l.map Prod.fst ++ P1) s0 (false :: st) ∧ P1.length ≤ 2 ∧ (∀ p ∈ P1, 5 ≤ rk p) ∧ nonOp (C 0 j1)) ∨ FOut cnt inb (n + 1) (1700 - j) X2 M) := by
  have hcn := hC.2.1
  intro d
  induction d with
  | zero => intro j i v1 W P L s0 X M N h1 h2 h3 h4; omega
  | succ d ih =>
    intro j i v1 W P L s0 X M N hd hN hi hj hW hPl hPr hLen hTL hSt
    obtain ⟨G, rfl⟩ : ∃ G, N = G + 1 := ⟨N - 1, by omega⟩
    have hX := hSt.1
    have hK := hC.2.2.1 j hj
    have q : ∀ z : Int, 0 ≤ z → z ≤ 2000 → w32 z = z := fun z h1 h2 => w32_eq (by omega) (by omega)
    have h31 := hX.1.1
    obtain ⟨rec, hrec⟩ : ∃ r, r = itr3 (x_Reader_sum_L8 (x_rec n)) G := ⟨_, rfl⟩
    have step : itr3 (x_Reader_sum_L8 (x_rec n)) (G + 1) v1 (i : Int) X = (if C 0 j = 43 then x_Reader_sum_L8_B72 (x_rec n) rec v1 (i : Int) (C 0 j) 1 X else if C 0 j = 45 then x_Reader_sum_L8_B72 (x_rec n) rec v1 (i : Int) (C 0 j) 1 X else if C 0 j = 42 ∨ C 0 j = 47 ∨ C 0 j = 37 then x_Reader_sum_L8_B72 (x_rec n) rec v1 (i : Int) (C 0 j) 0 X else some (v1, (i : Int), X)) := by
      show x_Reader_sum_L8 (x_rec n) (itr3 (x_Reader_sum_L8 (x_rec n)) G) v1 (i : Int) X = _
      rw [← hrec]
      unfold x_Reader_sum_L8 x_Reader_sum_L8_B39 x_Reader_sum_L8_B44
      rw [h31, x_kind hC hX.1 hj, bnd_some, q 1600 (by omega) (by omega), q i (by omega) (by omega), q 0 (by omega) (by omega), q 1 (by omega) (by omega), q (C 0 j) (by omega) (by omega), q 43 (by omega) (by omega), q 45 (by omega) (by omega), q 42 (by omega) (by omega), q 47 (by omega) (by omega), q 37 (by omega) (by omega), if_neg (by omega), if_neg (by omega)]
      by_cases h43 : C 0 j = 43
      · rw [if_pos h43, if_pos h43, if_pos (by omega)]
      rw [if_neg h43, if_neg h43]
      by_cases h45 : C 0 j = 45
      · rw [if_neg (fun z => z h45), if_pos (by omega), if_pos h45]
      rw [if_pos h45, if_neg h45, if_neg (by omega)]
      by_cases h42 : C 0 j = 42
      · rw [if_pos h42, if_pos (Or.inl h42)]
      rw [if_neg h42]
      by_cases h47 : C 0 j = 47
      · rw [if_pos h47, if_pos (Or.inr (Or.inl h47))]
      rw [if_neg h47]
      by_cases h37 : C 0 j = 37
      · rw [if_pos h37, if_pos (Or.inr (Or.inr h37))]
      rw [if_neg h37, if_neg (by omega)]
    have hWl : W.length ≤ 1 := by rcases hW with ⟨e, -⟩ | ⟨e, -⟩ <;> rw [e] <;> simp
    have hPW : ∀ p ∈ P ++ W, 5 ≤ rk p := fun p hp => by
      rcases List.mem_append.mp hp with e | e
      · rw [hPr p e]; omega
      · rcases hW with ⟨z, -⟩ | ⟨z, z2⟩
        · rw [z] at e; cases e
        · rw [z] at e
          rw [List.mem_singleton.mp e, (opc_rk (by unfold opK; omega)).1, if_pos z2]; omega
    have hTW : TL w (P ++ W) s0 (false :: st) := by
      rcases hW with ⟨z, -⟩ | ⟨z, z2⟩
      · rw [z, List.append_nil]
        rw [if_pos z] at hTL
        exact hTL
      · rw [z]
        rw [if_neg (by rw [z]; simp)] at hTL
        exact TL_app hTL (TL_one (opc_step (by unfold opK; omega)) (by rw [List.length_cons]; omega))
    -- the class lets what waits out
    have out : ∃ Xa, (v1 = 0 → Xa = X) ∧ (v1 ≠ 0 → x_Rules_addSign 13 v1 X = some Xa) ∧ StX C cnt w j o L (P ++ W) Xa ∧ (∀ z, z < L.length → Xa 15 z = X 15 z) ∧ FrPX X Xa := by
      rcases hW with ⟨z, z2⟩ | ⟨z, z2⟩
      · exact ⟨X, fun _ => rfl, fun y => absurd z2 y, by rw [z, List.append_nil]; exact hX, fun _ _ => rfl, FrPX_refl X⟩
      · have wl : W.length = 1 := by rw [z]; rfl
        obtain ⟨Xa, a1, a2, a3, a4, a5⟩ := StX_pend hX (by omega) (by omega) (opc_code (K := v1) (by unfold opK; omega))
        exact ⟨Xa, fun y => by omega, fun _ => a1, by rw [z]; exact a2, a3, a4⟩
    obtain ⟨Xa, xa0, xa1, xa2, xa3, xa4⟩ := out
    have hMa : MS C inb w j o 1 L P (g :: stk) (P ++ (W ++ ops)) Xa M := ⟨CodOK_of hSt.2.1 xa3 (fun _ _ => ⟨rfl, rfl⟩), hSt.2.2⟩
    have hnW : nots (P ++ W) = nots P := by
      rw [nots_app]
      rcases hW with ⟨z, -⟩ | ⟨z, z2⟩
      · rw [z]; rfl
      · rw [z, (opc_rk (by unfold opK; omega)).2.1]; rfl
    have hSta : St C cnt inb w j o 1 L (P ++ W) (g :: stk) ((P ++ W) ++ ops) Xa M := by
      obtain ⟨m1, m2, s1, s2, s3, s4, s5, s6, s7, s8, s9⟩ := hMa
      exact ⟨xa2, m1, m2, s1, s2, s3, s4, s5, by rw [hnW]; exact s6, by rw [List.append_assoc]; exact s7, by rw [List.append_assoc]; exact s8, s9⟩
    have hwv : w32 v1 = 0 ↔ v1 = 0 := by
      rcases hW with ⟨-, z⟩ | ⟨-, z⟩
      · rw [z, w32_0]
      · rw [q v1 (by omega) (by omega)]
    by_cases hop : opK (C 0 j)
    · -- one part more
      have hj1 := tok_next hC hj (by unfold opK at hop; omega) (by unfold opK at hop; omega)
      obtain ⟨hgd, h4, hl⟩ := good_of_cur hSt.2.2.1 (by unfold opK at hop; omega)
      by_cases hadd : C 0 j = 43 ∨ C 0 j = 45
      · -- + or -
        obtain ⟨M1, r1, r2, r3, -⟩ := goes_op hC hA hj hSta hl hgd hin ho (by omega) hg1 hgp hop (by rw [if_pos hadd]; exact hs5) (by rw [List.length_append]; omega) (by rw [if_pos hadd]; exact hPW)
        have hX1 := StX_ups (StX_next xa2)
        obtain ⟨Xb, hXb⟩ : ∃ Xb, Xb = upM Xa 3 4 ((j : Int) + 1) := ⟨_, rfl⟩
        rw [← hXb] at hX1
        have e34 : upM Xa 3 4 (Xa 3 4 + 1) = Xb := by rw [hXb, xa2.1.2.1]
        have r3' : MS C inb w (j + 1) o 0 (L ++ ups (P ++ W)) [] (g :: stk) (opc (C 0 j) :: ops) Xb M1 := ⟨CodOK_of r3.1 (fun z _ => by rw [hXb, up_k (by omega)]) (fun _ _ => ⟨rfl, rfl⟩), r3.2⟩
        have fxb : FrPX X Xb := FrPX_trans xa4 (by rw [hXb]; exact FrPX_up (Or.inl rfl))
        obtain ⟨Xc, s1, s2, s3⟩ := hP Xb M1 (j + 1) o (L ++ ups (P ++ W)) g stk (opc (C 0 j) :: ops) (false :: st) ⟨⟨hX1, r3'⟩, hj1, ho, hstk, by rw [List.length_cons]; omega, by rw [List.length_cons]; omega, hg1, Or.inl hgb, by rw [List.length_cons]; omega⟩ (fun _ z => by omega) hneed
        have hbody : x_Reader_sum_L8_B72 (x_rec n) rec v1 (i : Int) (C 0 j) 1 X = rec (C 0 j) ((i : Int) + 1) Xc := by
          have e92 : x_Reader_sum_L8_B92 (x_rec n) rec v1 (i : Int) (C 0 j) 1 Xa = rec (C 0 j) ((i : Int) + 1) Xc := by
            unfold x_Reader_sum_L8_B92 x_Reader_sum_L8_B99
            dsimp only [lt]
            rw [q 1 (by omega) (by omega), if_neg (by omega), e34, s1, bnd_some, if_pos (by omega)]
          unfold x_Reader_sum_L8_B72
          rw [q 1 (by omega) (by omega), if_neg (by omega)]
          by_cases z : v1 = 0
          · rw [if_pos (hwv.mpr z)]
            rw [xa0 z] at e92
            exact e92
          · rw [if_neg (fun y => z (hwv.mp y)), xa1 z, bnd_some]
            exact e92
        have step' : itr3 (x_Reader_sum_L8 (x_rec n)) (G + 1) v1 (i : Int) X = rec (C 0 j) ((i : Int) + 1) Xc := by
          rw [step, hbody]
          rcases hadd with e | e
          · rw [if_pos e]
          · rw [if_neg (by omega), if_pos e]
        rcases s3 with ⟨k2, M2, j2, l, P2, ph, t1, t2, t3, t4, t5, t6, t7, t8, t9, t10⟩ | hF
        · subst t9
          subst t10
          have eg : ((g.1, g.2.1, 0, g.2.2.2.1, g.2.2.2.2) : Fr) = g := by rw [← hgb]
          rw [eg, List.nil_append] at t6
          rw [List.append_nil] at t8
          rw [List.length_nil] at t7
          obtain ⟨v', i', X1, X2, y1, y2, y3, y4⟩ := ih j2 (i + 1) (C 0 j) [opc (C 0 j)] [] ((L ++ ups (P ++ W)) ++ l) (false :: false :: st) Xc M2 G (by omega) (by omega) (by omega) t2 (Or.inr ⟨rfl, hadd⟩) (by simp) (fun p hp => by cases hp)
            (by simp only [List.length_append, ups_len, List.length_cons, List.length_nil]; omega) (by rw [if_neg (by simp)]; rfl) t6
          rw [← hrec] at y1
          refine ⟨v', i', X1, X2, by rw [step', show (i : Int) + 1 = ((i + 1 : Nat) : Int) by omega]; exact y1, y2, FrPX_trans fxb (FrPX_trans s2 y3), ?_⟩
          rcases y4 with ⟨k3, M3, j3, l3, P3, z1, z2, z3, z4, z5, z6, z7, z8, z9⟩ | hF
          · refine Or.inl ⟨1 + k2 + k3, M3, j3, ups (P ++ W) ++ l ++ l3, P3, by omega, z2, by omega, RdTo_trans (RdTo_trans r1 t4) z4, FrPM_trans (FrPM_trans r2 t5) z5, ?_, ?_, ?_, z9⟩
            · simp only [← List.append_assoc] at z6 ⊢
              exact z6
            · simp only [List.length_append, ups_len, List.length_cons, List.length_nil] at z7 ⊢
              omega
            · have f1 : (ups (P ++ W) ++ l ++ l3).map Prod.fst ++ P3 = (P ++ W) ++ (l.map Prod.fst ++ (l3.map Prod.fst ++ P3)) := by
                simp only [List.map_append, ups_fst, List.append_assoc]
              rw [f1]
              exact TL_app hTW (TL_app t8 z8)
          · exact Or.inr (FOut_pre hF (RdTo_trans r1 t4) (FrPM_trans r2 t5) (by omega) (by omega) (by omega))
        · have fo2 := FOut_pre hF r1 r2 (j := j) (by omega) (by omega) (by omega)
          obtain ⟨fs, fl⟩ := FOut_st fo2 (by omega)
          obtain ⟨G', rfl⟩ : ∃ G', G = G' + 1 := ⟨G - 1, by omega⟩
          obtain ⟨v', i', X1, X2, y1, y2, y3⟩ := sum_flt fs (x_rec n) G' (C 0 j) ((i : Int) + 1)
          rw [← hrec] at y1
          exact ⟨v', i', X1, X2, by rw [step']; exact y1, y2, FrPX_trans fxb (FrPX_trans s2 (fun z h1 h2 h3 => y3.2.2.2.2.2.2 z h1 h2 h3)), Or.inr (FOut_x fo2 y3 (by omega) (by omega))⟩
      · -- * / %
        have hmul : C 0 j = 42 ∨ C 0 j = 47 ∨ C 0 j = 37 := by unfold opK at hop; omega
        have hrk := opc_rk hop
        rw [if_neg hadd] at hrk
        obtain ⟨M1, r1, r2, r3, -⟩ := goes_op hC hA hj hSt hl hgd hin ho (by omega) hg1 hgp hop (by
            rw [if_neg hadd]
            rcases hW with ⟨z, -⟩ | ⟨z, z2⟩
            · rw [z, List.nil_append]; exact TopLt_mono hs5 (by omega)
            · rw [z]
              exact Or.inr ⟨opc v1, ops, rfl, by rw [(opc_rk (by unfold opK; omega)).1, if_pos z2]; omega, by show g.2.2.2.2 < (opc v1 :: ops).length; rw [List.length_cons]; omega⟩) (by rw [List.length_append]; omega) (by rw [if_neg hadd]; exact fun p hp => by rw [hPr p hp]; omega)
        have hX1 := StX_ups (StX_next hX)
        obtain ⟨Xb, hXb⟩ : ∃ Xb, Xb = upM X 3 4 ((j : Int) + 1) := ⟨_, rfl⟩
        rw [← hXb] at hX1
        have e34 : upM X 3 4 (X 3 4 + 1) = Xb := by rw [hXb, hX.1.2.1]
        have r3' : MS C inb w (j + 1) o 0 (L ++ ups P) [] (g :: stk) (opc (C 0 j) :: (W ++ ops)) Xb M1 := ⟨CodOK_of r3.1 (fun z _ => by rw [hXb, up_k (by omega)]) (fun _ _ => ⟨rfl, rfl⟩), r3.2⟩
        have fxb : FrPX X Xb := by rw [hXb]; exact FrPX_up (Or.inl rfl)
        obtain ⟨cur, hcur⟩ : ∃ cur, cur = (if W = [] then false :: st else false :: false :: st) := ⟨_, rfl⟩
        have hcl : cur.length ≤ st.length + 2 ∧ ∃ r, cur = false :: r := by
          rw [hcur]; split
          · exact ⟨by rw [List.length_cons]; omega, _, rfl⟩
          · exact ⟨by rw [List.length_cons, List.length_cons]; omega, _, rfl⟩
        obtain ⟨Xc, s1, s2, s3⟩ := hP Xb M1 (j + 1) o (L ++ ups P) g stk (opc (C 0 j) :: (W ++ ops)) cur ⟨⟨hX1, r3'⟩, hj1, ho, hstk, by rw [List.length_cons, List.length_append]; omega, by omega, hg1, Or.inl hgb, by rw [List.length_cons, List.length_append]; omega⟩ (fun _ z => by omega) hneed
        have hbody : x_Reader_sum_L8_B72 (x_rec n) rec v1 (i : Int) (C 0 j) 0 X = bnd (x_Rules_addSign 13 (C 0 j) Xc) (fun M4 => rec v1 ((i : Int) + 1) M4) := by
          unfold x_Reader_sum_L8_B72 x_Reader_sum_L8_B92 x_Reader_sum_L8_B99
          dsimp only [lt]
          rw [w32_0, if_pos rfl, if_pos rfl, e34, s1, bnd_some, if_neg (by omega)]
        have step' : itr3 (x_Reader_sum_L8 (x_rec n)) (G + 1) v1 (i : Int) X = bnd (x_Rules_addSign 13 (C 0 j) Xc) (fun M4 => rec v1 ((i : Int) + 1) M4) := by
          rw [step, hbody, if_neg (by omega), if_neg (by omega), if_pos hmul]
        rcases s3 with ⟨k2, M2, j2, l, P2, ph, t1, t2, t3, t4, t5, t6, t7, t8, t9, t10⟩ | hF
        · subst t9
          subst t10
          have eg : ((g.1, g.2.1, 0, g.2.2.2.1, g.2.2.2.2) : Fr) = g := by rw [← hgb]
          rw [eg, List.nil_append] at t6
          rw [List.append_nil] at t8
          rw [List.length_nil] at t7
          have hXc := t6.1
          obtain ⟨Xd, d1, d2, d3, d4, -⟩ := StX_pend hXc (p := opc (C 0 j)) (s := C 0 j) (by simp only [List.length_append, ups_len, List.length_nil]; omega) (by omega) (opc_code hop)
          have t6' : St C cnt inb w j2 o 1 ((L ++ ups P) ++ l) [opc (C 0 j)] (g :: stk) ([opc (C 0 j)] ++ (W ++ ops)) Xd M2 := by
            obtain ⟨-, m1, m2, a1, a2, a3, a4, a5, a6, a7, a8, a9⟩ := t6
            exact ⟨d2, CodOK_of m1 d3 (fun _ _ => ⟨rfl, rfl⟩), m2, a1, a2, a3, a4, a5, by rw [hrk.2.1]; exact a6, a7, a8, a9⟩
          obtain ⟨r, hr⟩ := hcl.2
          obtain ⟨v', i', X1, X2, y1, y2, y3, y4⟩ := ih j2 (i + 1) v1 W [opc (C 0 j)] ((L ++ ups P) ++ l) (false :: cur) Xd M2 G (by omega) (by omega) (by omega) t2 hW (by simp) (fun p hp => by rw [List.mem_singleton.mp hp]; exact hrk.1)
            (by simp only [List.length_append, ups_len, List.length_cons, List.length_nil]; omega) (by rw [← hcur, hr]; exact TL_one (opc_step hop) (by rw [hr] at hcl; omega)) t6'
          rw [← hrec] at y1
          refine ⟨v', i', X1, X2, by rw [step', d1, bnd_some, show (i : Int) + 1 = ((i + 1 : Nat) : Int) by omega]; exact y1, y2, FrPX_trans fxb (FrPX_trans s2 (FrPX_trans d4 y3)), ?_⟩
          rcases y4 with ⟨k3, M3, j3, l3, P3, z1, z2, z3, z4, z5, z6, z7, z8, z9⟩ | hF
          · refine Or.inl ⟨1 + k2 + k3, M3, j3, ups P ++ l ++ l3, P3, by omega, z2, by omega, RdTo_trans (RdTo_trans r1 t4) z4, FrPM_trans (FrPM_trans r2 t5) z5, ?_, ?_, ?_, z9⟩
            · simp only [← List.append_assoc] at z6 ⊢
              exact z6
            · simp only [List.length_append, ups_len, List.length_cons, List.length_nil] at z7 ⊢
              omega
            · have f1 : (ups P ++ l ++ l3).map Prod.fst ++ P3 = P ++ (l.map Prod.fst ++ (l3.map Prod.fst ++ P3)) := by
                simp only [List.map_append, ups_fst, List.append_assoc]
              rw [f1]
              rw [← hcur] at hTL
              exact TL_app hTL (TL_app t8 z8)
          · exact Or.inr (FOut_pre hF (RdTo_trans r1 t4) (FrPM_trans r2 t5) (by omega) (by omega) (by omega))
        · have fo2 := FOut_pre hF r1 r2 (j := j) (by omega) (by omega) (by omega)
          obtain ⟨fs, fl⟩ := FOut_st fo2 (by omega)
          obtain ⟨Xd, d1, d2⟩ := f_sign fs (C 0 j)
          have fs1 := FSt_of fs d2 (by omega)
          obtain ⟨G', rfl⟩ : ∃ G', G = G' + 1 := ⟨G - 1, by omega⟩
          obtain ⟨v', i', X1, X2, y1, y2, y3⟩ := sum_flt fs1 (x_rec n) G' v1 ((i : Int) + 1)
          rw [← hrec] at y1
          exact ⟨v', i', X1, X2, by rw [step', d1, bnd_some]; exact y1, y2, FrPX_trans fxb (FrPX_trans s2 (fun z h1 h2 h3 => by rw [y3.2.2.2.2.2.2 z h1 h2 h3, d2.2.2.2.2.2.2 z h1 h2 h3])), Or.inr (FOut_x fo2 (FFr_trans d2 y3) (by omega) (by omega))⟩
    · -- the end of the sum
      have hno : nonOp (C 0 j) := nonOp_iff.mpr hop
      have stop : itr3 (x_Reader_sum_L8 (x_rec n)) (G + 1) v1 (i : Int) X = some (v1, (i : Int), X) := by
        unfold opK at hop
        rw [step, if_neg (by omega), if_neg (by omega), if_neg (by omega)]
      refine ⟨v1, i, X, Xa, stop, ?_, xa4, Or.inl ⟨0, M, j, [], P ++ W, Nat.le_refl _, hj, by omega, RdTo_refl M, FrPM_refl inb M, ?_, ?_, ?_, ?_, hPW, hno⟩⟩
      · by_cases z : v1 = 0
        · rw [if_pos (hwv.mpr z), xa0 z]
        · rw [if_neg (fun y => z (hwv.mp y)), xa1 z, bnd_some]
      · rw [List.append_nil]; exact hSta
      · rw [List.length_append, List.length_nil]; omega
      · exact hTW
      · rw [List.length_append]; omega
end SUM
theorem sum_step {C : Mem} {cnt inb w n : Nat} (hC : TokC C cnt) (hA : AheadOK C cnt) (hin : inb < 2) (hP : GoalP C cnt inb w n) (hn : n ≤ 80) : GoalS C cnt inb w (n + 1) := by
  intro X M j o L f stk ops st hpre hfst hph hs5 hneed
  have hpre' := hpre
  obtain ⟨hSt, hj, ho, hstk, hops, hst, hf, hb, hbase⟩ := hpre
  have hcn := hC.2.1
  show Res C cnt inb w (n + 1) j o L f stk ops false st X M (x_Reader_sum (x_rec n) X) _
  obtain ⟨Xa, s1, s2, s3⟩ := hP X M j o L f stk ops st ⟨hSt, hj, ho, hstk, by omega, by omega, hf, hb, hbase⟩ hfst (by omega)
  have fin : ∀ v' i' X1 X2, itr3 (x_Reader_sum_L8 (x_rec n)) FUEL 0 0 Xa = some (v', i', X1) → (if w32 v' = 0 then some X1 else bnd (x_Rules_addSign 13 v' X1) (fun M7 => some M7)) = some X2 → x_Reader_sum (x_rec n) X = some X2 := fun v' i' X1 X2 e1 e2 => by
    unfold x_Reader_sum
    rw [s1, bnd_some, e1, bnd_some]
    exact e2
  rcases s3 with ⟨k2, M2, j2, l, P2, ph, t1, t2, t3, t4, t5, t6, t7, t8, t9, t10⟩ | hF
  · subst t9
    subst t10
    rw [List.append_nil] at t8
    rw [List.length_nil] at t7
    have hLl : L.length ≤ j := by have := hSt.1.2.2.2.2; simp only [List.length_nil] at this; omega
    obtain ⟨v', i', X1, X2, y1, y2, y3, y4⟩ := sum_loop (st := st) hC hA hin hP hn ho hstk hops hst (g := (f.1, f.2.1, 0, f.2.2.2.1, f.2.2.2.2)) hf rfl hph hbase hs5 (by omega) (cnt - j2) j2 0 0 [] [] (L ++ l) (false :: st) Xa M2 FUEL (by omega) (by unfold FUEL; omega) (by omega) t2 (Or.inl ⟨rfl, rfl⟩) (by simp) (fun p hp => by cases hp) (by simp only [List.length_append, List.length_nil]; omega) rfl t6
    refine ⟨X2, fin _ _ _ _ y1 y2, FrPX_trans s2 y3, ?_⟩
    rcases y4 with ⟨k3, M3, j3, l3, P3, z1, z2, z3, z4, z5, z6, z7, z8, z9, z10, z11⟩ | hF
    · refine Or.inl ⟨k2 + k3, M3, j3, l ++ l3, P3, f.2.1, by omega, z2, by omega, RdTo_trans t4 z4, FrPM_trans t5 z5, ?_, ?_, ?_, z9, z10, rfl, z11⟩
      · rw [← List.append_assoc]; exact z6
      · simp only [List.length_append, List.length_nil] at z7 ⊢; omega
      · rw [List.map_append, List.append_assoc]
        exact TL_app t8 z8
    · exact Or.inr (FOut_pre hF t4 t5 (by omega) (by omega) (by omega))
  · obtain ⟨fs, fl⟩ := FOut_st hF (by omega)
    have : FUEL = 999999 + 1 := rfl
    obtain ⟨v', i', X1, X2, y1, y2, y3⟩ := sum_flt fs (x_rec n) 999999 0 0
    exact ⟨X2, fin _ _ _ _ y1 y2, FrPX_trans s2 (fun z h1 h2 h3 => y3.2.2.2.2.2.2 z h1 h2 h3), Or.inr (FOut_x hF y3 (by omega) (by omega))⟩
