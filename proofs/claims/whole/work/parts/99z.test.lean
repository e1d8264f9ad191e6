/-! THE PURE PART: town: a test -/
theorem test_flt {cnt : Nat} {X : Mem} (h : FSt cnt X) (rc : Nat → Mem → Option Mem) (N : Nat) (v1 i : Int) : ∃ v' i' X1 X2, itr3 (x_Reader_test_L8 rc) (N + 1) v1 i X = some (v', i', X1) ∧ (if w32 v' = 0 then some X1 else bnd (x_Rules_addSign 13 17 X1) (fun M7 => some M7)) = some X2 ∧ FFr 0 X X2 := by
  obtain ⟨X2, e1, e2⟩ := f_sign h 17
  have key : itr3 (x_Reader_test_L8 rc) (N + 1) v1 i X = some (v1, i, X) := by
    obtain ⟨rec, hrec⟩ : ∃ r, r = itr3 (x_Reader_test_L8 rc) N := ⟨_, rfl⟩
    show x_Reader_test_L8 rc (itr3 (x_Reader_test_L8 rc) N) v1 i X = _
    rw [← hrec]
    unfold x_Reader_test_L8
    rw [f_at h, bnd_some, if_neg (c := false = true) (by decide), f_at h, bnd_some, if_neg (c := false = true) (by decide)]
    split <;> rfl
  by_cases e : w32 v1 = 0
  · exact ⟨v1, i, X, X, key, by rw [if_pos e], FFr_refl h⟩
  · exact ⟨v1, i, X, X2, key, by rw [if_neg e, e1, bnd_some], e2⟩
theorem TL_split {w : Nat} : ∀ {l k : List Int} {a c : List Bool}, TL w (l ++ k) a c → ∃ b, TL w l a b ∧ TL w k b c := by
  intro l
  induction l with
  | nil => intro k a c h; exact ⟨a, rfl, h⟩
  | cons s r ih =>
    rintro k a c ⟨d, h1, h2, h3⟩
    obtain ⟨b, g1, g2⟩ := ih h3
    exact ⟨b, ⟨d, h1, h2, g1⟩, g2⟩
section TEST
variable {C : Mem} {cnt inb w n o : Nat} {stk : List Fr} {ops : List Int} {f : Fr} {st : List Bool}
theorem test_loop (hC : TokC C cnt) (hA : AheadOK C cnt) (hin : inb < 2) (hF : GoalF C cnt inb w n) (hn : n ≤ 80) (ho : o ≤ 7) (hstk : stk.length ≤ o) (hops : ops.length ≤ 5 * o) (hst : st.length ≤ 5 * o) (hf : 0 ≤ f.1 ∧ f.1 ≤ 6) (hT : isT f) (hbase : ops.length = f.2.2.2.2) (hneed : 3 + 4 * (7 - o) ≤ n) :
    ∀ (d j : Nat) (i : Nat) (v1 : Int) (W P : List Int) (ph : Int) (L : List (Int × Int)) (s0 : List Bool) (X M : Mem) (N : Nat), cnt - j ≤ d → d < N → i + 1 ≤ j → j < cnt → ((W = [] ∧ v1 = 0) ∨ (W = [42] ∧ v1 = 1)) → P.length ≤ 11 - o → (∀ p ∈ P, 2 ≤ rk p) → ((ph = 1 ∧ nonOp (C 0 j)) ∨ ph = 2) → L.length + P.length + W.length ≤ j → TL w P s0 (if W = [] then true :: st else true :: true :: st) →
      St C cnt inb w j o 1 L P ((f.1, ph, 0, f.2.2.2.1, f.2.2.2.2) :: stk) (P ++ (W ++ ops)) X M →
      ∃ v' i' X1 X2, itr3 (x_Reader_test_L8 (x_rec n)) N v1 (i : Int) X = some (v', i', X1) ∧ (if w32 v' = 0 then some X1 else bnd (x_Rules_addSign 13 17 X1) (fun M7 => some M7)) = some X2 ∧ FrPX X X2 ∧
        ((∃ (k : Nat) (M1 : Mem) (j1 : Nat) (l : List (Int × Int)) (P1 : List Int) (ph1 : Int), j ≤ j1 ∧ j1 < cnt ∧ k ≤ j1 - j ∧ RdTo k M M1 1 ∧ FrPM inb M M1 ∧ St C cnt inb w j1 o 1 (L ++ l) P1 ((f.1, ph1, 0, f.2.2.2.1, f.2.2.2.2) :: stk) (P1 ++ ops) X2 M1 ∧ l.length + P1.length ≤ P.length + W.length + (j1 - j) ∧ TL w (l.map Prod.fst ++ P1) s0 (true :: st) ∧ P1.length ≤ 12 ∧ ((ph1 = 1 ∧ nonOp (C 0 j1)) ∨ ph1 = 2) ∧ C 0 j1 ≠ 17 ∧ C 0 j1 ≠ 18) ∨ FOut cnt inb (n + 1) (1700 - j) X2 M) := by
  have hcn := hC.2.1
  intro d
  induction d with
  | zero => intro j i v1 W P ph L s0 X M N h1 h2 h3 h4; omega
  | succ d ih =>
    intro j i v1 W P ph L s0 X M N hd hN hi hj hW hPl hPr hph hLen hTL hSt
    obtain ⟨G, rfl⟩ : ∃ G, N = G + 1 := ⟨N - 1, by omega⟩
    have hX := hSt.1
    have q : ∀ z : Int, 0 ≤ z → z ≤ 2000 → w32 z = z := fun z h1 h2 => w32_eq (by omega) (by omega)
    have hph' : ph = 1 ∨ ph = 2 := by rcases hph with ⟨e, -⟩ | e; exact Or.inl e; exact Or.inr e
    obtain ⟨rec, hrec⟩ : ∃ r, r = itr3 (x_Reader_test_L8 (x_rec n)) G := ⟨_, rfl⟩
    have b1 : b2i (decide True) = 1 := rfl
    have step : itr3 (x_Reader_test_L8 (x_rec n)) (G + 1) v1 (i : Int) X = (if C 0 j = 17 then (if v1 = 0 then x_Reader_test_L8_B66 (x_rec n) rec 1 (i : Int) 0 X else bnd (x_Rules_addSign 13 17 X) (fun M6 => x_Reader_test_L8_B66 (x_rec n) rec 1 (i : Int) 0 M6)) else if C 0 j = 18 then x_Reader_test_L8_B66 (x_rec n) rec v1 (i : Int) 1 X else some (v1, (i : Int), X)) := by
      show x_Reader_test_L8 (x_rec n) (itr3 (x_Reader_test_L8 (x_rec n)) G) v1 (i : Int) X = _
      rw [← hrec]
      have wv : w32 v1 = v1 := by rcases hW with ⟨-, z⟩ | ⟨-, z⟩ <;> rw [z] <;> exact q _ (by omega) (by omega)
      unfold x_Reader_test_L8 x_Reader_test_L8_B33 x_Reader_test_L8_B60
      dsimp only [lt]
      rw [q 1600 (by omega) (by omega), q i (by omega) (by omega), if_neg (by omega), x_at hC hX.1 hj (by omega), bnd_some, ifd, x_at hC hX.1 hj (by omega), bnd_some, bnd_some, ifd, b2i_d, wv]
      by_cases h17 : C 0 j = 17
      · have h18' : ¬ C 0 j = 18 := by omega
        rw [if_pos h17, if_pos h17, if_neg h18', w32_0]
        simp only [eq_self_iff_true, not_true_eq_false, if_false]
      rw [if_neg h17, if_neg h17]
      by_cases h18 : C 0 j = 18
      · rw [if_pos h18, if_pos h18, if_pos h18, q 1 (by omega) (by omega), if_pos (by omega), if_pos (by omega)]
      rw [if_neg h18, if_neg h18]
    have hWl : W.length ≤ 1 := by rcases hW with ⟨e, -⟩ | ⟨e, -⟩ <;> rw [e] <;> simp
    have hTW : TL w (P ++ W) s0 (true :: st) := by
      rcases hW with ⟨z, -⟩ | ⟨z, z2⟩
      · rw [z, List.append_nil]
        rw [if_pos z] at hTL
        exact hTL
      · rw [z]
        rw [if_neg (by rw [z]; simp)] at hTL
        exact TL_app hTL (TL_one rfl (by rw [List.length_cons]; omega))
    have out : ∃ Xa, (v1 = 0 → Xa = X) ∧ (v1 ≠ 0 → x_Rules_addSign 13 17 X = some Xa) ∧ StX C cnt w j o L (P ++ W) Xa ∧ (∀ z, z < L.length → Xa 15 z = X 15 z) ∧ FrPX X Xa := by
      rcases hW with ⟨z, z2⟩ | ⟨z, z2⟩
      · exact ⟨X, fun _ => rfl, fun y => absurd z2 y, by rw [z, List.append_nil]; exact hX, fun _ _ => rfl, FrPX_refl X⟩
      · have wl : W.length = 1 := by rw [z]; rfl
        obtain ⟨Xa, a1, a2, a3, a4, a5⟩ := StX_pend hX (p := 42) (s := 17) (by omega) (by omega) (by unfold CodeEq; decide)
        exact ⟨Xa, fun y => by omega, fun _ => a1, by rw [z]; exact a2, a3, a4⟩
    obtain ⟨Xa, xa0, xa1, xa2, xa3, xa4⟩ := out
    have hnW : nots (P ++ W) = nots P := by
      rw [nots_app]
      rcases hW with ⟨z, -⟩ | ⟨z, z2⟩ <;> rw [z] <;> rfl
    have hSta : St C cnt inb w j o 1 L (P ++ W) ((f.1, ph, 0, f.2.2.2.1, f.2.2.2.2) :: stk) ((P ++ W) ++ ops) Xa M := by
      obtain ⟨-, m1, m2, s1, s2, s3, s4, s5, s6, s7, s8, s9⟩ := hSt
      exact ⟨xa2, CodOK_of m1 xa3 (fun _ _ => ⟨rfl, rfl⟩), m2, s1, s2, s3, s4, s5, by rw [hnW]; exact s6, by rw [List.append_assoc]; exact s7, by rw [List.append_assoc]; exact s8, s9⟩
    by_cases h17 : C 0 j = 17
    · -- or
      obtain ⟨M1, r1, r2, r3, hj1⟩ := goes_and hC hA hj hSta hin ho (by omega) hf hT hph' (Or.inl h17) (Or.inl hbase) (by rw [List.length_append]; omega) (by rw [if_neg (by omega)]; exact fun p _ => (rk_rng p).1)
      rw [if_neg (by omega)] at r3
      have hX1 := StX_ups (StX_next xa2)
      obtain ⟨Xb, hXb⟩ : ∃ Xb, Xb = upM Xa 3 4 ((j : Int) + 1) := ⟨_, rfl⟩
      rw [← hXb] at hX1
      have e34 : upM Xa 3 4 (Xa 3 4 + 1) = Xb := by rw [hXb, xa2.1.2.1]
      have r3' : MS C inb w (j + 1) o 0 (L ++ ups (P ++ W)) [] ((f.1, 0, 1, f.2.2.2.1, f.2.2.2.2) :: stk) (42 :: ops) Xb M1 := ⟨CodOK_of r3.1 (fun z _ => by rw [hXb, up_k (by omega)]) (fun _ _ => ⟨rfl, rfl⟩), r3.2⟩
      have fxb : FrPX X Xb := FrPX_trans xa4 (by rw [hXb]; exact FrPX_up (Or.inl rfl))
      obtain ⟨Xc, s1, s2, s3⟩ := hF Xb M1 (j + 1) o (L ++ ups (P ++ W)) (f.1, 0, 1, f.2.2.2.1, f.2.2.2.2) stk (42 :: ops) (true :: st) ⟨⟨hX1, r3'⟩, hj1, ho, hstk, by rw [List.length_cons]; omega, by rw [List.length_cons]; omega, hf, Or.inr rfl, by rw [List.length_cons]; show f.2.2.2.2 ≤ _; omega⟩ hT rfl rfl (Or.inr ⟨42, ops, rfl, by decide, by rw [List.length_cons]; show f.2.2.2.2 < _; omega⟩) hneed
      have e66 : x_Reader_test_L8_B66 (x_rec n) rec 1 (i : Int) 0 Xa = rec 1 ((i : Int) + 1) Xc := by
        unfold x_Reader_test_L8_B66
        dsimp only [lt]
        rw [e34, s1, bnd_some, w32_0, if_pos rfl]
      have step' : itr3 (x_Reader_test_L8 (x_rec n)) (G + 1) v1 (i : Int) X = rec 1 ((i : Int) + 1) Xc := by
        rw [step, if_pos h17]
        by_cases z : v1 = 0
        · rw [if_pos z]
          rw [xa0 z] at e66
          exact e66
        · rw [if_neg z, xa1 z, bnd_some]
          exact e66
      rcases s3 with ⟨k2, M2, j2, l, P2, ph2, t1, t2, t3, t4, t5, t6, t7, t8, t9, t10, t11⟩ | hFl
      · obtain ⟨mid, tl1, tl2⟩ := TL_split t8
        obtain ⟨v', i', X1, X2, y1, y2, y3, y4⟩ := ih j2 (i + 1) 1 [42] P2 ph2 ((L ++ ups (P ++ W)) ++ l) mid Xc M2 G (by omega) (by omega) (by omega) t2 (Or.inr ⟨rfl, rfl⟩) (by omega) (fun p hp => by have := t10 p hp; omega) t11
          (by simp only [List.length_append, ups_len, List.length_cons, List.length_nil]; omega) (by rw [if_neg (by simp)]; exact tl2) t6
        rw [← hrec] at y1
        refine ⟨v', i', X1, X2, by rw [step', show (i : Int) + 1 = ((i + 1 : Nat) : Int) by omega]; exact y1, y2, FrPX_trans fxb (FrPX_trans s2 y3), ?_⟩
        rcases y4 with ⟨k3, M3, j3, l3, P3, ph3, z1, z2, z3, z4, z5, z6, z7, z8, z9⟩ | hFl
        · refine Or.inl ⟨1 + k2 + k3, M3, j3, ups (P ++ W) ++ l ++ l3, P3, ph3, by omega, z2, by omega, RdTo_trans (RdTo_trans r1 t4) z4, FrPM_trans (FrPM_trans r2 t5) z5, ?_, ?_, ?_, z9⟩
          · simp only [← List.append_assoc] at z6 ⊢
            exact z6
          · simp only [List.length_append, ups_len, List.length_cons, List.length_nil] at z7 ⊢
            omega
          · have f1 : (ups (P ++ W) ++ l ++ l3).map Prod.fst ++ P3 = (P ++ W) ++ (l.map Prod.fst ++ (l3.map Prod.fst ++ P3)) := by
              simp only [List.map_append, ups_fst, List.append_assoc]
            rw [f1]
            exact TL_app hTW (TL_app tl1 z8)
        · exact Or.inr (FOut_pre hFl (RdTo_trans r1 t4) (FrPM_trans r2 t5) (by omega) (by omega) (by omega))
      · have fo2 := FOut_pre hFl r1 r2 (j := j) (by omega) (by omega) (by omega)
        obtain ⟨fs, fl⟩ := FOut_st fo2 (by omega)
        obtain ⟨G', rfl⟩ : ∃ G', G = G' + 1 := ⟨G - 1, by omega⟩
        obtain ⟨v', i', X1, X2, y1, y2, y3⟩ := test_flt fs (x_rec n) G' 1 ((i : Int) + 1)
        rw [← hrec] at y1
        exact ⟨v', i', X1, X2, by rw [step']; exact y1, y2, FrPX_trans fxb (FrPX_trans s2 (fun z h1 h2 h3 => y3.2.2.2.2.2.2 z h1 h2 h3)), Or.inr (FOut_x fo2 y3 (by omega) (by omega))⟩
    by_cases h18 : C 0 j = 18
    · -- and
      obtain ⟨M1, r1, r2, r3, hj1⟩ := goes_and hC hA hj hSt hin ho (by omega) hf hT hph' (Or.inr h18) (by
          rw [if_pos h18]
          rcases hW with ⟨z, -⟩ | ⟨z, z2⟩
          · rw [z]; exact Or.inl hbase
          · rw [z]
            exact Or.inr ⟨42, ops, rfl, by decide, by show f.2.2.2.2 < (42 :: ops).length; rw [List.length_cons]; omega⟩) (by rw [List.length_append]; omega) (by rw [if_pos h18]; exact hPr)
      rw [if_pos h18] at r3
      have hX1 := StX_ups (StX_next hX)
      obtain ⟨Xb, hXb⟩ : ∃ Xb, Xb = upM X 3 4 ((j : Int) + 1) := ⟨_, rfl⟩
      rw [← hXb] at hX1
      have e34 : upM X 3 4 (X 3 4 + 1) = Xb := by rw [hXb, hX.1.2.1]
      have r3' : MS C inb w (j + 1) o 0 (L ++ ups P) [] ((f.1, 0, 1, f.2.2.2.1, f.2.2.2.2) :: stk) (41 :: (W ++ ops)) Xb M1 := ⟨CodOK_of r3.1 (fun z _ => by rw [hXb, up_k (by omega)]) (fun _ _ => ⟨rfl, rfl⟩), r3.2⟩
      have fxb : FrPX X Xb := by rw [hXb]; exact FrPX_up (Or.inl rfl)
      obtain ⟨cur, hcur⟩ : ∃ cur, cur = (if W = [] then true :: st else true :: true :: st) := ⟨_, rfl⟩
      have hcl : cur.length ≤ st.length + 2 ∧ ∃ r, cur = true :: r := by
        rw [hcur]; split
        · exact ⟨by rw [List.length_cons]; omega, _, rfl⟩
        · exact ⟨by rw [List.length_cons, List.length_cons]; omega, _, rfl⟩
      obtain ⟨r, hr⟩ := hcl.2
      obtain ⟨Xc, s1, s2, s3⟩ := hF Xb M1 (j + 1) o (L ++ ups P) (f.1, 0, 1, f.2.2.2.1, f.2.2.2.2) stk (41 :: (W ++ ops)) cur ⟨⟨hX1, r3'⟩, hj1, ho, hstk, by rw [List.length_cons, List.length_append]; omega, by omega, hf, Or.inr rfl, by rw [List.length_cons, List.length_append]; show f.2.2.2.2 ≤ _; omega⟩ hT rfl rfl (Or.inr ⟨41, W ++ ops, rfl, by decide, by rw [List.length_cons, List.length_append]; show f.2.2.2.2 < _; omega⟩) hneed
      have step' : itr3 (x_Reader_test_L8 (x_rec n)) (G + 1) v1 (i : Int) X = bnd (x_Rules_addSign 13 18 Xc) (fun M5 => rec v1 ((i : Int) + 1) M5) := by
        rw [step, if_neg h17, if_pos h18]
        unfold x_Reader_test_L8_B66
        dsimp only [lt]
        rw [e34, s1, bnd_some, q 1 (by omega) (by omega), if_neg (by omega)]
      rcases s3 with ⟨k2, M2, j2, l, P2, ph2, t1, t2, t3, t4, t5, t6, t7, t8, t9, t10, t11⟩ | hFl
      · obtain ⟨mid, tl1, tl2⟩ := TL_split t8
        have hXc := t6.1
        obtain ⟨Xd, d1, d2, d3, d4, -⟩ := StX_pend hXc (p := 41) (s := 18) (by simp only [List.length_append, ups_len]; omega) (by omega) (by unfold CodeEq; decide)
        have t6' : St C cnt inb w j2 o 1 ((L ++ ups P) ++ l) (P2 ++ [41]) ((f.1, ph2, 0, f.2.2.2.1, f.2.2.2.2) :: stk) ((P2 ++ [41]) ++ (W ++ ops)) Xd M2 := by
          obtain ⟨-, m1, m2, a1, a2, a3, a4, a5, a6, a7, a8, a9⟩ := t6
          refine ⟨d2, CodOK_of m1 d3 (fun _ _ => ⟨rfl, rfl⟩), m2, a1, a2, a3, a4, a5, ?_, ?_, ?_, a9⟩
          · rw [a6, nots_app]; rfl
          · rw [a7]; simp only [List.length_append, List.length_cons, List.length_nil]; omega
          · rw [List.append_assoc]; exact a8
        obtain ⟨v', i', X1, X2, y1, y2, y3, y4⟩ := ih j2 (i + 1) v1 W (P2 ++ [41]) ph2 ((L ++ ups P) ++ l) mid Xd M2 G (by omega) (by omega) (by omega) t2 hW (by rw [List.length_append, List.length_cons, List.length_nil]; omega) (fun p hp => by
            rcases List.mem_append.mp hp with e1 | e1
            · have := t10 p e1; omega
            · rw [List.mem_singleton.mp e1]; decide) t11
          (by simp only [List.length_append, ups_len, List.length_cons, List.length_nil]; omega) (by rw [← hcur]; refine TL_app tl2 (TL_one ?_ (by omega)); rw [hr]; rfl) t6'
        rw [← hrec] at y1
        refine ⟨v', i', X1, X2, by rw [step', d1, bnd_some, show (i : Int) + 1 = ((i + 1 : Nat) : Int) by omega]; exact y1, y2, FrPX_trans fxb (FrPX_trans s2 (FrPX_trans d4 y3)), ?_⟩
        rcases y4 with ⟨k3, M3, j3, l3, P3, ph3, z1, z2, z3, z4, z5, z6, z7, z8, z9⟩ | hFl
        · refine Or.inl ⟨1 + k2 + k3, M3, j3, ups P ++ l ++ l3, P3, ph3, by omega, z2, by omega, RdTo_trans (RdTo_trans r1 t4) z4, FrPM_trans (FrPM_trans r2 t5) z5, ?_, ?_, ?_, z9⟩
          · simp only [← List.append_assoc] at z6 ⊢
            exact z6
          · simp only [List.length_append, ups_len, List.length_cons, List.length_nil] at z7 ⊢
            omega
          · have f1 : (ups P ++ l ++ l3).map Prod.fst ++ P3 = P ++ (l.map Prod.fst ++ (l3.map Prod.fst ++ P3)) := by
              simp only [List.map_append, ups_fst, List.append_assoc]
            rw [f1]
            rw [← hcur] at hTL
            exact TL_app hTL (TL_app tl1 z8)
        · exact Or.inr (FOut_pre hFl (RdTo_trans r1 t4) (FrPM_trans r2 t5) (by omega) (by omega) (by omega))
      · have fo2 := FOut_pre hFl r1 r2 (j := j) (by omega) (by omega) (by omega)
        obtain ⟨fs, fl⟩ := FOut_st fo2 (by omega)
        obtain ⟨Xd, d1, d2⟩ := f_sign fs 18
        have fs1 := FSt_of fs d2 (by omega)
        obtain ⟨G', rfl⟩ : ∃ G', G = G' + 1 := ⟨G - 1, by omega⟩
        obtain ⟨v', i', X1, X2, y1, y2, y3⟩ := test_flt fs1 (x_rec n) G' v1 ((i : Int) + 1)
        rw [← hrec] at y1
        exact ⟨v', i', X1, X2, by rw [step', d1, bnd_some]; exact y1, y2, FrPX_trans fxb (FrPX_trans s2 (fun z h1 h2 h3 => by rw [y3.2.2.2.2.2.2 z h1 h2 h3, d2.2.2.2.2.2.2 z h1 h2 h3])), Or.inr (FOut_x fo2 (FFr_trans d2 y3) (by omega) (by omega))⟩
    · -- the end of the test
      have stop : itr3 (x_Reader_test_L8 (x_rec n)) (G + 1) v1 (i : Int) X = some (v1, (i : Int), X) := by
        rw [step, if_neg h17, if_neg h18]
      have hwv : w32 v1 = 0 ↔ v1 = 0 := by
        rcases hW with ⟨-, z⟩ | ⟨-, z⟩
        · rw [z, w32_0]
        · rw [z, q 1 (by omega) (by omega)]
      refine ⟨v1, i, X, Xa, stop, ?_, xa4, Or.inl ⟨0, M, j, [], P ++ W, ph, Nat.le_refl _, hj, by omega, RdTo_refl M, FrPM_refl inb M, ?_, ?_, ?_, ?_, hph, h17, h18⟩⟩
      · by_cases z : v1 = 0
        · rw [if_pos (hwv.mpr z), xa0 z]
        · rw [if_neg (fun y => z (hwv.mp y)), xa1 z, bnd_some]
      · rw [List.append_nil]; exact hSta
      · rw [List.length_append, List.length_nil]; omega
      · exact hTW
      · rw [List.length_append]; omega
end TEST
theorem test_step {C : Mem} {cnt inb w n : Nat} (hC : TokC C cnt) (hA : AheadOK C cnt) (hin : inb < 2) (hF : GoalF C cnt inb w n) (hn : n ≤ 80) : GoalT C cnt inb w (n + 1) := by
  intro X M j o L f stk ops st hpre hisT hph hbeg hbase hneed
  obtain ⟨hSt, hj, ho, hstk, hops, hst, hf, hb, hbase'⟩ := hpre
  have hcn := hC.2.1
  show Res C cnt inb w (n + 1) j o L f stk ops true st X M (x_Reader_test (x_rec n) X) _
  obtain ⟨Xa, s1, s2, s3⟩ := hF X M j o L f stk ops st ⟨hSt, hj, ho, hstk, by omega, by omega, hf, hb, hbase'⟩ hisT hph hbeg (Or.inl hbase) (by omega)
  have fin : ∀ v' i' X1 X2, itr3 (x_Reader_test_L8 (x_rec n)) FUEL 0 0 Xa = some (v', i', X1) → (if w32 v' = 0 then some X1 else bnd (x_Rules_addSign 13 17 X1) (fun M7 => some M7)) = some X2 → x_Reader_test (x_rec n) X = some X2 := fun v' i' X1 X2 e1 e2 => by
    unfold x_Reader_test
    rw [s1, bnd_some, e1, bnd_some]
    exact e2
  rcases s3 with ⟨k2, M2, j2, l, P2, ph2, t1, t2, t3, t4, t5, t6, t7, t8, t9, t10, t11⟩ | hFl
  · obtain ⟨mid, tl1, tl2⟩ := TL_split t8
    have hLl : L.length ≤ j := by have := hSt.1.2.2.2.2; simp only [List.length_nil] at this; omega
    obtain ⟨v', i', X1, X2, y1, y2, y3, y4⟩ := test_loop (st := st) (f := f) hC hA hin hF hn ho hstk (by omega) (by omega) hf hisT hbase (by omega) (cnt - j2) j2 0 0 [] P2 ph2 (L ++ l) mid Xa M2 FUEL (by omega) (by unfold FUEL; omega) (by omega) t2 (Or.inl ⟨rfl, rfl⟩) (by omega) (fun p hp => by have := t10 p hp; omega) t11 (by simp only [List.length_append, List.length_nil]; omega) tl2 t6
    refine ⟨X2, fin _ _ _ _ y1 y2, FrPX_trans s2 y3, ?_⟩
    rcases y4 with ⟨k3, M3, j3, l3, P3, ph3, z1, z2, z3, z4, z5, z6, z7, z8, z9, z10, z11⟩ | hFl
    · refine Or.inl ⟨k2 + k3, M3, j3, l ++ l3, P3, ph3, by omega, z2, by omega, RdTo_trans t4 z4, FrPM_trans t5 z5, ?_, ?_, ?_, z9, z10, z11⟩
      · rw [← List.append_assoc]; exact z6
      · simp only [List.length_append, List.length_nil] at z7 ⊢; omega
      · rw [List.map_append, List.append_assoc]
        exact TL_app tl1 z8
    · exact Or.inr (FOut_pre hFl t4 t5 (by omega) (by omega) (by omega))
  · obtain ⟨fs, fl⟩ := FOut_st hFl (by omega)
    obtain ⟨v', i', X1, X2, y1, y2, y3⟩ := test_flt fs (x_rec n) 999999 0 0
    exact ⟨X2, fin _ _ _ _ y1 y2, FrPX_trans s2 (fun z h1 h2 h3 => y3.2.2.2.2.2.2 z h1 h2 h3), Or.inr (FOut_x hFl y3 (by omega) (by omega))⟩
/-- all four, at any depth -/
theorem goals_all {C : Mem} {cnt inb w : Nat} (hC : TokC C cnt) (hA : AheadOK C cnt) (hin : inb < 2) (hw : w < 3) : ∀ n, n ≤ 70 → GoalP C cnt inb w n ∧ GoalS C cnt inb w n ∧ GoalF C cnt inb w n ∧ GoalT C cnt inb w n := by
  intro n
  induction n with
  | zero => intro _; exact ⟨fun X M j o L f stk ops st _ _ h => by omega, fun X M j o L f stk ops st _ _ _ _ h => by omega, fun X M j o L f stk ops st _ _ _ _ _ h => by omega, fun X M j o L f stk ops st _ _ _ _ _ h => by omega⟩
  | succ n ih =>
    intro hn
    obtain ⟨h1, h2, h3, h4⟩ := ih (by omega)
    exact ⟨part_step hC hA hin hw h2 h4 (by omega), sum_step hC hA hin h1 (by omega), fact_step hC hA hin h2 h3 h4 (by omega), test_step hC hA hin h3 (by omega)⟩
