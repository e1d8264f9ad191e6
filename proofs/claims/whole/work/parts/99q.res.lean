/-! THE PURE PART: town: the class's steps in a rule; what a stretch of reading leaves -/
def fX (C : Mem) (j : Nat) (a : Int) (X : Mem) : Mem := upM (upM X 3 1 a) 3 2 (C 1 j)
def fM (C : Mem) (j : Nat) (a : Int) (M : Mem) : Mem := upM (upM M 0 8 a) 0 9 (C 1 j)
section CLR
variable {C : Mem} {cnt j o : Nat} {X : Mem}
theorem fX_st (hC : TokC C cnt) (h : Prs C cnt j o X) (hj : j < cnt) {a : Int} (ha : 1 ≤ a ∧ a ≤ 6) (hc : 0 ≤ X 13 5 ∧ X 13 5 ≤ 1600) : FSt cnt (fX C j a X) ∧ (fX C j a X) 3 1 = a ∧ (fX C j a X) 3 2 = C 1 j ∧ (fX C j a X) 3 4 = (j : Int) ∧ (∀ q, q ≠ 3 → (fX C j a X) q = X q) := by
  obtain ⟨a1, a2, a3, a4, a5⟩ := hC
  obtain ⟨h1, h2, h3, h4, h5, h6, h7⟩ := h
  have e1 : (fX C j a X) 3 1 = a := by unfold fX; rw [up_i (by omega), up_e]
  have e4 : (fX C j a X) 3 4 = (j : Int) := by unfold fX; rw [up_i (by omega), up_i (by omega)]; exact h2
  have er : ∀ q, q ≠ 3 → (fX C j a X) q = X q := fun q hq => by unfold fX; rw [upM_row hq, upM_row hq]
  exact ⟨⟨by omega, by omega, by omega, by omega, by rw [er 19 (by omega)]; exact h4, a2, by rw [er 13 (by omega)]; exact hc.1, by rw [er 13 (by omega)]; exact hc.2⟩, e1, by unfold fX; rw [up_e], e4, er⟩
theorem Prs_next (h : Prs C cnt j o X) : Prs C cnt (j + 1) o (upM X 3 4 ((j : Int) + 1)) := by
  obtain ⟨h1, h2, h3, h4, h5, h6, h7⟩ := h
  exact ⟨by rw [up_i (by omega)]; exact h1, by rw [up_e]; omega, by rw [up_i (by omega)]; exact h3, by rw [up_k (by omega)]; exact h4, by rw [upM_row (by omega)]; exact h5, by rw [upM_row (by omega)]; exact h6, ⟨by rw [upM_row (by omega)]; exact h7.1, by rw [up_i (by omega)]; exact h7.2⟩⟩
theorem x_req (hC : TokC C cnt) (h : Prs C cnt j o X) (hj : j < cnt) {c : Int} (hc : 0 ≤ c ∧ c ≤ 255) : (C 0 j = c → x_Reader_require c X = some (upM X 3 4 ((j : Int) + 1))) ∧ (C 0 j ≠ c → x_Reader_require c X = some (fX C j 1 X)) := by
  have h1 := h.1
  have h2 := h.2.1
  refine ⟨fun e => ?_, fun e => ?_⟩
  · unfold x_Reader_require x_Reader_require_B13
    rw [x_at hC h hj hc, bnd_some, ifd, if_pos e, h1, w32_0, if_neg (by omega), h2]
    rfl
  · unfold x_Reader_require x_Reader_require_B13
    have e1 : (fX C j 1 X) 3 1 = 1 := by unfold fX; rw [up_i (by omega), up_e]
    rw [x_at hC h hj hc, bnd_some, ifd, if_neg e, x_refuse hC h hj, bnd_some]
    show (if ¬ w32 ((fX C j 1 X) 3 1) = 0 then _ else _) = _
    rw [e1, w32_eq (x := (1 : Int)) (by omega) (by omega), if_pos (by omega)]
    rfl
theorem x_enter_ok (h : Prs C cnt j o X) (ho : o < 7) : x_Reader_enter X = some (true, upM (upM X 3 5 ((o : Int) + 1)) 3 4 ((j : Int) + 1)) := by
  obtain ⟨h1, h2, h3, h4, h5, h6, h7⟩ := h
  unfold x_Reader_enter x_Reader_enter_B14
  dsimp only [lt]
  rw [h3, w32_eq (x := (o : Int)) (by omega) (by omega), w32_eq (x := (7 : Int)) (by omega) (by omega), if_pos (by omega), h1, w32_0, if_pos rfl, up_i (by omega), h2]
theorem x_enter_f (hC : TokC C cnt) (h : Prs C cnt j 7 X) (hj : j < cnt) : x_Reader_enter X = some (false, fX C j 5 X) := by
  have h' := h
  obtain ⟨h1, h2, h3, h4, h5, h6, h7⟩ := h
  unfold x_Reader_enter x_Reader_enter_B14
  dsimp only [lt]
  have e1 : (fX C j 5 X) 3 1 = 5 := by unfold fX; rw [up_i (by omega), up_e]
  rw [h3, w32_eq (x := ((7 : Nat) : Int)) (by omega) (by omega), w32_eq (x := (7 : Int)) (by omega) (by omega), if_neg (by omega), x_refuse hC h' hj, bnd_some]
  show (if w32 ((fX C j 5 X) 3 1) = 0 then _ else _) = _
  rw [e1, w32_eq (x := (5 : Int)) (by omega) (by omega), if_neg (by omega)]
  rfl
theorem x_num_ok (hC : TokC C cnt) (h : Prs C cnt j o X) (hj : j < cnt) {a b : Int} (hk : C 0 j = 24) (hv : a ≤ C 2 j ∧ C 2 j ≤ b) (ha : 0 ≤ a ∧ b ≤ 9999) : x_Reader_number a b X = some (C 2 j, upM X 3 4 ((j : Int) + 1)) := by
  have h1 := h.1
  have h2 := h.2.1
  unfold x_Reader_number x_Reader_number_B14 x_Reader_number_B34
  rw [x_at hC h hj (by omega), bnd_some, ifd, if_pos hk, x_value hC h hj, bnd_some]
  rw [w32_eq (x := C 2 j) (by omega) (by omega), w32_eq (x := a) (by omega) (by omega), w32_eq (x := b) (by omega) (by omega), if_neg (by omega), if_pos (by omega), h1, w32_0, if_neg (by omega), h2]
  rfl
theorem x_num_4 (hC : TokC C cnt) (h : Prs C cnt j o X) (hj : j < cnt) {a b : Int} (hk : C 0 j = 24) (hv : ¬ (a ≤ C 2 j ∧ C 2 j ≤ b)) (ha : 0 ≤ a ∧ a ≤ 9999 ∧ 0 ≤ b ∧ b ≤ 9999) : x_Reader_number a b X = some (C 2 j, fX C j 4 X) := by
  have hb := hC.2.2.1 j hj
  have e1 : (fX C j 4 X) 3 1 = 4 := by unfold fX; rw [up_i (by omega), up_e]
  have k : x_Reader_number_B29 (C 2 j) X = some (C 2 j, fX C j 4 X) := by
    unfold x_Reader_number_B29 x_Reader_number_B34
    rw [x_refuse hC h hj, bnd_some]
    show (if ¬ w32 ((fX C j 4 X) 3 1) = 0 then _ else _) = _
    rw [e1, w32_eq (x := (4 : Int)) (by omega) (by omega), if_pos (by omega)]
    rfl
  unfold x_Reader_number x_Reader_number_B14
  rw [x_at hC h hj (by omega), bnd_some, ifd, if_pos hk, x_value hC h hj, bnd_some, k]
  rw [w32_eq (x := C 2 j) (by omega) (by omega), w32_eq (x := a) (by omega) (by omega), w32_eq (x := b) (by omega) (by omega)]
  by_cases e : C 2 j < a
  · rw [if_pos e]
  · rw [if_neg e, if_neg (by omega)]
theorem x_num_1 (hC : TokC C cnt) (h : Prs C cnt j o X) (hj : j < cnt) (hc : 0 ≤ X 13 5 ∧ X 13 5 ≤ 1600) {a b : Int} (hk : C 0 j ≠ 24) : ∃ v, x_Reader_number a b X = some (v, fX C j 1 X) := by
  obtain ⟨g1, g2, g3, g4, g5⟩ := fX_st hC h hj (a := 1) (by omega) hc
  obtain ⟨v, hv⟩ := f_number g1 a b
  refine ⟨v, ?_⟩
  have e1 : x_Reader_number a b (fX C j 1 X) = x_Reader_number_B14 a b (fX C j 1 X) := by
    unfold x_Reader_number
    rw [f_at g1, bnd_some, if_neg (by decide), f_refuse g1, bnd_some]
  unfold x_Reader_number
  rw [x_at hC h hj (by omega), bnd_some, ifd, if_neg hk, x_refuse hC h hj, bnd_some]
  exact e1 ▸ hv
theorem x_add_eq {c : Nat} {v : Int} (h : X 13 5 = (c : Int)) (hc : c < 1600) : x_Rules_add 13 v X = some (upM (upM X 15 c v) 13 5 ((c : Int) + 1)) := by
  unfold x_Rules_add chk
  dsimp only [lt]
  rw [h, w32_eq (x := (c : Int)) (by omega) (by omega), w32_eq (x := (1600 : Int)) (by omega) (by omega), if_neg (by omega), if_pos (by omega), up_k (by omega), h, Int.toNat_natCast]
end CLR
section CLS2
variable {C : Mem} {cnt w j o : Nat} {L : List (Int × Int)} {P : List Int} {X : Mem}
theorem StX_of {X1 : Mem} {j' o' : Nat} (h : StX C cnt w j o L P X) (e1 : X1 3 1 = X 3 1) (e4 : X1 3 4 = (j' : Int)) (e5 : X1 3 5 = (o' : Int)) (e6 : X1 3 6 = X 3 6) (er : ∀ q, q ≠ 3 → X1 q = X q) (hj : j ≤ j') (e2 : X1 3 2 = X 3 2 := by simp (disch := omega) only [up_i, up_k]) : StX C cnt w j' o' L P X1 := by
  obtain ⟨⟨h1, h2, h3, h4, h5, h6, h7⟩, g1, g2, g3, g4⟩ := h
  exact ⟨⟨by rw [e1]; exact h1, e4, e5, by rw [er 19 (by omega)]; exact h4, by rw [er 20 (by omega)]; exact h5, by rw [er 21 (by omega)]; exact h6, ⟨by rw [er 22 (by omega)]; exact h7.1, by rw [e2]; exact h7.2⟩⟩, by rw [e6]; exact g1, by rw [er 13 (by omega)]; exact g2, PenOK_of g3 (fun i _ _ => by rw [er 15 (by omega)]), by omega⟩
theorem StX_next (h : StX C cnt w j o L P X) : StX C cnt w (j + 1) o L P (upM X 3 4 ((j : Int) + 1)) :=
  StX_of h (up_i (by omega)) (by rw [up_e]; omega) (by rw [up_i (by omega)]; exact h.1.2.2.1) (up_i (by omega)) (fun q hq => upM_row hq) (by omega)
theorem StX_enter (h : StX C cnt w j o L P X) : StX C cnt w (j + 1) (o + 1) L P (upM (upM X 3 5 ((o : Int) + 1)) 3 4 ((j : Int) + 1)) :=
  StX_of h (by rw [up_i (by omega), up_i (by omega)]) (by rw [up_e]; omega) (by rw [up_i (by omega), up_e]; omega) (by rw [up_i (by omega), up_i (by omega)]) (fun q hq => by rw [upM_row hq, upM_row hq]) (by omega)
theorem StX_cnt (hC : TokC C cnt) (hj : j < cnt) (h : StX C cnt w j o L P X) : 0 ≤ X 13 5 ∧ X 13 5 ≤ 1600 := by
  obtain ⟨-, -, g2, -, g4⟩ := h
  have := hC.2.1
  omega
theorem StX_pend (h : StX C cnt w j o L P X) (hl : L.length + P.length + 1 ≤ j) (hj : j ≤ 1600) {p s : Int} (hc : CodeEq (20000 + s) p 0) : ∃ X1, x_Rules_addSign 13 s X = some X1 ∧ StX C cnt w j o L (P ++ [p]) X1 ∧ (∀ i, i < L.length → X1 15 i = X 15 i) ∧ FrPX X X1 ∧ X1 3 = X 3 := by
  obtain ⟨⟨h1, h2, h3, h4, h5, h6, h7⟩, g1, g2, g3, g4⟩ := h
  refine ⟨_, by unfold x_Rules_addSign; rw [x_add_eq g2 (by omega), bnd_some], ⟨⟨?_, ?_, ?_, ?_, ?_, ?_, ?_⟩, ?_, ?_, ?_, ?_⟩, fun i hi => ?_, FrPX_trans (FrPX_up (by omega)) (FrPX_up (by omega)), ?_⟩
  · rw [up_k (by omega), up_k (by omega)]; exact h1
  · rw [up_k (by omega), up_k (by omega)]; exact h2
  · rw [up_k (by omega), up_k (by omega)]; exact h3
  · rw [up_k (by omega), up_k (by omega)]; exact h4
  · rw [upM_row (by omega), upM_row (by omega)]; exact h5
  · rw [upM_row (by omega), upM_row (by omega)]; exact h6
  · exact ⟨by rw [upM_row (by omega), upM_row (by omega)]; exact h7.1, by rw [up_k (by omega), up_k (by omega)]; exact h7.2⟩
  · rw [up_k (by omega), up_k (by omega)]; exact g1
  · rw [up_e, List.length_append, List.length_cons, List.length_nil]; omega
  · refine PenOK_snoc (PenOK_of g3 (fun i q1 q2 => by rw [up_k (by omega), up_i (by omega)])) ?_
    rw [up_k (by omega), up_e]; exact hc
  · rw [List.length_append, List.length_cons, List.length_nil]; omega
  · rw [up_k (by omega), up_i (by omega)]
  · rw [upM_row (by omega), upM_row (by omega)]
theorem StX_code (h : StX C cnt w j o L [] X) (hl : L.length + 1 ≤ j) (hj : j ≤ 1600) (v p q : Int) : ∃ X1, x_Rules_add 13 v X = some X1 ∧ StX C cnt w j o (L ++ [(p, q)]) [] X1 ∧ X1 15 L.length = v ∧ (∀ i, i < L.length → X1 15 i = X 15 i) ∧ FrPX X X1 := by
  obtain ⟨⟨h1, h2, h3, h4, h5, h6, h7⟩, g1, g2, g3, g4⟩ := h
  have g2' : X 13 5 = (L.length : Int) := g2
  refine ⟨_, x_add_eq g2' (by omega), ⟨⟨?_, ?_, ?_, ?_, ?_, ?_, ?_⟩, ?_, ?_, trivial, ?_⟩, ?_, fun i hi => ?_, FrPX_trans (FrPX_up (by omega)) (FrPX_up (by omega))⟩
  · rw [up_k (by omega), up_k (by omega)]; exact h1
  · rw [up_k (by omega), up_k (by omega)]; exact h2
  · rw [up_k (by omega), up_k (by omega)]; exact h3
  · rw [up_k (by omega), up_k (by omega)]; exact h4
  · rw [upM_row (by omega), upM_row (by omega)]; exact h5
  · rw [upM_row (by omega), upM_row (by omega)]; exact h6
  · exact ⟨by rw [upM_row (by omega), upM_row (by omega)]; exact h7.1, by rw [up_k (by omega), up_k (by omega)]; exact h7.2⟩
  · rw [up_k (by omega), up_k (by omega)]; exact g1
  · rw [up_e, List.length_append, List.length_cons, List.length_nil, List.length_nil]; omega
  · rw [List.length_append, List.length_cons, List.length_nil, List.length_nil]; omega
  · rw [up_k (by omega), up_e]
  · rw [up_k (by omega), up_i (by omega)]
end CLS2
/-- a row of codes' types, never more than 41 high -/
def TL (w : Nat) : List Int → List Bool → List Bool → Prop
  | [], st, st1 => st = st1
  | so :: r, st, st1 => ∃ st2, tstep w so st = some st2 ∧ st2.length ≤ 41 ∧ TL w r st2 st1
theorem TL_app {w : Nat} : ∀ {l k : List Int} {a b c : List Bool}, TL w l a b → TL w k b c → TL w (l ++ k) a c := by
  intro l
  induction l with
  | nil => intro k a b c h1 h2; have : a = b := h1; subst this; exact h2
  | cons s r ih => rintro k a b c ⟨d, h1, h2, h3⟩ h4; exact ⟨d, h1, h2, ih h3 h4⟩
theorem TL_one {w : Nat} {so : Int} {a b : List Bool} (h : tstep w so a = some b) (hb : b.length ≤ 41) : TL w [so] a b := ⟨b, h, hb, rfl⟩
/-- a fault in both: the reference's loop is at its end, the class runs out -/
def FOut (cnt inb n kmax : Nat) (X1 M : Mem) : Prop := ∃ k M1, k ≤ kmax ∧ RdTo k M M1 0 ∧ FrPM inb M M1 ∧ X1 3 1 = M1 0 8 ∧ X1 3 2 = M1 0 9 ∧ 0 ≤ X1 3 2 ∧ X1 3 2 ≤ 1600 ∧ FSt cnt X1 ∧ X1 3 4 ≤ 2000 + 10 * (n : Int)
theorem FOut_pre {cnt inb n j j1 k : Nat} {X1 M M1 : Mem} (h : FOut cnt inb n (1700 - j1) X1 M1) (hr : RdTo k M M1 1) (hf : FrPM inb M M1) (hk : k ≤ j1 - j) (hj : j ≤ j1) (hj1 : j1 ≤ 1650) : FOut cnt inb n (1700 - j) X1 M := by
  obtain ⟨k2, M2, a1, a2, a3, a4⟩ := h
  exact ⟨k + k2, M2, by omega, RdTo_trans hr a2, FrPM_trans hf a3, a4⟩
theorem FOut_x {cnt inb n m kmax a : Nat} {X1 X2 M : Mem} (h : FOut cnt inb n kmax X1 M) (hx : FFr a X1 X2) (hn : 10 * n + a ≤ 10 * m) (hm : m ≤ 100) : FOut cnt inb m kmax X2 M := by
  obtain ⟨k2, M2, a1, a2, a3, a4, a5, a6, a7, a8, a9⟩ := h
  obtain ⟨f1, f2, f3, f4, f5, f6, f7⟩ := hx
  exact ⟨k2, M2, a1, a2, a3, by rw [f1]; exact a4, by rw [f2]; exact a5, by rw [f2]; exact a6, by rw [f2]; exact a7, FSt_of a8 ⟨f1, f2, f3, f4, f5, f6, f7⟩ (by omega), by omega⟩
theorem FOut_st {cnt inb n kmax : Nat} {X1 M : Mem} (h : FOut cnt inb n kmax X1 M) (hn : n ≤ 100) : FSt cnt X1 ∧ X1 3 4 ≤ 3000 := by
  obtain ⟨k2, M2, a1, a2, a3, a4, a5, a6, a7, a8, a9⟩ := h
  exact ⟨a8, by omega⟩
theorem FOut_opd {C : Mem} {cnt inb n w j o : Nat} {L : List (Int × Int)} {P : List Int} {X M M3 : Mem} {b : Bool} {a : Int} (hC : TokC C cnt) (hj : j < cnt) (hX : StX C cnt w j o L P X) (h42 : M 0 42 = 0) (e : m_operand M = some (b, M3)) (hf : FrPM inb M M3) (ha : 1 ≤ a ∧ a ≤ 6) (h8 : M3 0 8 = a) (h9 : M3 0 9 = C 1 j) : FOut cnt inb n (1700 - j) (fX C j a X) M := by
  obtain ⟨g1, g2, g3, g4, g5⟩ := fX_st hC hX.1 hj ha (StX_cnt hC hj hX)
  have hb := hC.2.2.1 j hj
  have hc := hC.2.1
  have t := turn_opd h42 e (by omega)
  rw [if_neg (by omega)] at t
  refine ⟨1, _, by omega, t, FrPM_trans hf (FrPM_up (Or.inl ⟨rfl, by unfold own0; omega⟩)), ?_, ?_, by omega, by omega, g1, by omega⟩
  · rw [up_i (by omega), g2, h8]
  · rw [up_i (by omega), g3, h9]
theorem FOut_goes {C : Mem} {cnt inb n w j o : Nat} {L : List (Int × Int)} {P : List Int} {X M M3 : Mem} {b : Bool} {a : Int} (hC : TokC C cnt) (hj : j < cnt) (hX : StX C cnt w j o L P X) (h42 : M 0 42 = 1) (e : m_goesOn M = some (b, M3)) (hf : FrPM inb M M3) (ha : 1 ≤ a ∧ a ≤ 6) (h8 : M3 0 8 = a) (h9 : M3 0 9 = C 1 j) : FOut cnt inb n (1700 - j) (fX C j a X) M := by
  obtain ⟨g1, g2, g3, g4, g5⟩ := fX_st hC hX.1 hj ha (StX_cnt hC hj hX)
  have hb := hC.2.2.1 j hj
  have hc := hC.2.1
  have t := turn_goes h42 e (by omega)
  rw [if_neg (by omega)] at t
  refine ⟨1, _, by omega, t, hf, ?_, ?_, by omega, by omega, g1, by omega⟩
  · rw [g2, h8]
  · rw [g3, h9]
theorem fM_fr {C : Mem} {inb j : Nat} {a : Int} {M M1 : Mem} (h : FrPM inb M M1) : FrPM inb M (fM C j a M1) := FrPM_trans h (FrPM_trans (FrPM_up (Or.inl ⟨rfl, by unfold own0; omega⟩)) (FrPM_up (Or.inl ⟨rfl, by unfold own0; omega⟩)))
theorem fM_8 {C : Mem} {j : Nat} {a : Int} {M : Mem} : (fM C j a M) 0 8 = a ∧ (fM C j a M) 0 9 = C 1 j := ⟨by unfold fM; rw [up_i (by omega), up_e], by unfold fM; rw [up_e]⟩
/-- what a stretch of reading leaves in both -/
def Res (C : Mem) (cnt inb w n j o : Nat) (L : List (Int × Int)) (f : Fr) (stk : List Fr) (ops : List Int) (ty : Bool) (st : List Bool) (X M : Mem) (x : Option Mem) (E : Nat → List Int → Int → Prop) : Prop :=
  ∃ X1, x = some X1 ∧ FrPX X X1 ∧ ((∃ (k : Nat) (M1 : Mem) (j1 : Nat) (l : List (Int × Int)) (P : List Int) (ph : Int), j < j1 ∧ j1 < cnt ∧ k ≤ j1 - j ∧ RdTo k M M1 1 ∧ FrPM inb M M1 ∧ St C cnt inb w j1 o 1 (L ++ l) P ((f.1, ph, 0, f.2.2.2.1, f.2.2.2.2) :: stk) (P ++ ops) X1 M1 ∧ l.length + P.length ≤ j1 - j ∧ TL w (l.map Prod.fst ++ P) st (ty :: st) ∧ E j1 P ph) ∨ FOut cnt inb n (1700 - j) X1 M)
def Pre (C : Mem) (cnt inb w j o ex : Nat) (L : List (Int × Int)) (f : Fr) (stk : List Fr) (ops : List Int) (st : List Bool) (X M : Mem) : Prop :=
  St C cnt inb w j o 0 L [] (f :: stk) ops X M ∧ j < cnt ∧ o ≤ 7 ∧ stk.length ≤ o ∧ ops.length ≤ 5 * o + ex ∧ st.length ≤ 5 * o + ex ∧ (0 ≤ f.1 ∧ f.1 ≤ 6) ∧ (f.2.2.1 = 0 ∨ f.2.2.1 = 1) ∧ f.2.2.2.2 ≤ ops.length
def nonOp (K : Int) : Prop := K ≠ 43 ∧ K ≠ 45 ∧ K ≠ 42 ∧ K ≠ 47 ∧ K ≠ 37
def GoalP (C : Mem) (cnt inb w n : Nat) : Prop := ∀ (X M : Mem) (j o : Nat) (L : List (Int × Int)) (f : Fr) (stk : List Fr) (ops : List Int) (st : List Bool), Pre C cnt inb w j o 5 L f stk ops st X M → (isT f → f.2.2.1 = 1 → C 0 j ≠ 19 ∧ C 0 j ≠ 91 ∧ C 0 j ≠ 20) → 1 + 4 * (7 - o) ≤ n →
  Res C cnt inb w n j o L f stk ops false st X M (x_rec n 1 X) (fun j1 P ph => P = [] ∧ ph = f.2.1)
def GoalS (C : Mem) (cnt inb w n : Nat) : Prop := ∀ (X M : Mem) (j o : Nat) (L : List (Int × Int)) (f : Fr) (stk : List Fr) (ops : List Int) (st : List Bool), Pre C cnt inb w j o 3 L f stk ops st X M → (isT f → f.2.2.1 = 1 → C 0 j ≠ 19 ∧ C 0 j ≠ 91 ∧ C 0 j ≠ 20) → (f.2.1 = 0 ∨ f.2.1 = 1) →
  TopLt 5 f.2.2.2.2 ops → 2 + 4 * (7 - o) ≤ n →
  Res C cnt inb w n j o L f stk ops false st X M (x_rec n 2 X) (fun j1 P ph => P.length ≤ 2 ∧ (∀ p ∈ P, 5 ≤ rk p) ∧ ph = f.2.1 ∧ nonOp (C 0 j1))
def GoalF (C : Mem) (cnt inb w n : Nat) : Prop := ∀ (X M : Mem) (j o : Nat) (L : List (Int × Int)) (f : Fr) (stk : List Fr) (ops : List Int) (st : List Bool), Pre C cnt inb w j o 2 L f stk ops st X M → isT f → f.2.1 = 0 → f.2.2.1 = 1 →
  TopLt 4 f.2.2.2.2 ops → 3 + 4 * (7 - o) ≤ n →
  Res C cnt inb w n j o L f stk ops true st X M (x_rec n 0 X) (fun j1 P ph => P.length ≤ 10 - o ∧ (∀ p ∈ P, 3 ≤ rk p) ∧ ((ph = 1 ∧ nonOp (C 0 j1)) ∨ ph = 2))
def GoalT (C : Mem) (cnt inb w n : Nat) : Prop := ∀ (X M : Mem) (j o : Nat) (L : List (Int × Int)) (f : Fr) (stk : List Fr) (ops : List Int) (st : List Bool), Pre C cnt inb w j o 0 L f stk ops st X M → isT f → f.2.1 = 0 → f.2.2.1 = 1 →
  ops.length = f.2.2.2.2 → 4 + 4 * (7 - o) ≤ n →
  Res C cnt inb w n j o L f stk ops true st X M (x_rec n 3 X) (fun j1 P ph => P.length ≤ 12 ∧ ((ph = 1 ∧ nonOp (C 0 j1)) ∨ ph = 2) ∧ C 0 j1 ≠ 17 ∧ C 0 j1 ≠ 18)
