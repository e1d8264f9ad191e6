/-! THE PURE PART: town: the reference's picture of a rule being read, change by change -/
def MS (C : Mem) (inb w j o : Nat) (b : Int) (L : List (Int × Int)) (P : List Int) (stk : List Fr) (ops : List Int) (X M : Mem) : Prop := CodOK inb X M L ∧ Cur C j M ∧ StM inb w o b L P stk ops M
theorem Cur_up {C : Mem} {j k i : Nat} {v : Int} {M : Mem} (h : Cur C j M) (hk : k ≠ 1) (hi : k = 0 → 13 ≤ i) : Cur C j (upM M k i v) := by
  obtain ⟨c1, c2, c3, c4, c5⟩ := h
  have e : ∀ q, q < 13 → (upM M k i v) 0 q = M 0 q := fun q hq => by
    by_cases hz : k = 0
    · subst hz; exact up_i (by have := hi rfl; omega)
    · exact up_k (by omega)
  exact ⟨by rw [e 8 (by omega)]; exact c1, ⟨by rw [upM_row (by omega)]; exact c2.1, by rw [e 9 (by omega)]; exact c2.2⟩, by rw [e 2 (by omega)]; exact c3, by rw [e 5 (by omega)]; exact c4, TokM_of c5 (e 3 (by omega)) (e 4 (by omega)) (e 6 (by omega)) (e 7 (by omega)) (e 12 (by omega))⟩
theorem CodOK_up {inb : Nat} {X M : Mem} {L : List (Int × Int)} {k i : Nat} {v : Int} (h : CodOK inb X M L) (hk : k ≠ 14) (hk2 : k ≠ 15) : CodOK inb X (upM M k i v) L := CodOK_of h (fun _ _ => rfl) (fun _ _ => ⟨up_k (by omega), up_k (by omega)⟩)
section MSS
variable {C : Mem} {cnt inb w j o : Nat} {b : Int} {L : List (Int × Int)} {P : List Int} {stk : List Fr} {ops : List Int} {X M : Mem} {f : Fr}
theorem MS_flag (h : MS C inb w j o b L P stk ops X M) (b' : Int) : MS C inb w j o b' L P stk ops X (upM M 0 42 b') ∧ FrPM inb M (upM M 0 42 b') := by
  obtain ⟨h1, h2, s1, s2, s3, s4, s5, s6, s7, s8, s9⟩ := h
  refine ⟨⟨CodOK_up h1 (by omega) (by omega), Cur_up h2 (by omega) (by omega), ?_, ?_, ?_, ?_, ?_, ?_, ?_, ?_, ?_⟩, FrPM_up (Or.inl ⟨rfl, by unfold own0; omega⟩)⟩
  · rw [up_i (by omega)]; exact s1
  · rw [up_i (by omega)]; exact s2
  · rw [up_i (by omega)]; exact s3
  · rw [up_i (by omega)]; exact s4
  · exact FrOK_of s5 (fun a i g1 g2 g3 => up_k (by omega))
  · rw [up_i (by omega)]; exact s6
  · rw [up_i (by omega)]; exact s7
  · exact OpsOK_of s8 (fun i hi => up_k (by omega))
  · exact up_e
theorem MS_open (h : MS C inb w j o b L P stk ops X M) (o' : Nat) {v : Int} (hv : v = ((o' + nots P : Nat) : Int)) : MS C inb w j o' b L P stk ops X (upM M 0 39 v) ∧ FrPM inb M (upM M 0 39 v) := by
  obtain ⟨h1, h2, s1, s2, s3, s4, s5, s6, s7, s8, s9⟩ := h
  refine ⟨⟨CodOK_up h1 (by omega) (by omega), Cur_up h2 (by omega) (by omega), ?_, ?_, ?_, ?_, ?_, ?_, ?_, ?_, ?_⟩, FrPM_up (Or.inl ⟨rfl, by unfold own0; omega⟩)⟩
  · rw [up_i (by omega)]; exact s1
  · rw [up_i (by omega)]; exact s2
  · rw [up_i (by omega)]; exact s3
  · rw [up_i (by omega)]; exact s4
  · exact FrOK_of s5 (fun a i g1 g2 g3 => up_k (by omega))
  · rw [up_e, hv]
  · rw [up_i (by omega)]; exact s7
  · exact OpsOK_of s8 (fun i hi => up_k (by omega))
  · rw [up_i (by omega)]; exact s9
theorem MS_pop (h : MS C inb w j o b L P (f :: stk) ops X M) {v : Int} (hv : v = (stk.length : Int)) : MS C inb w j o b L P stk ops X (upM M 0 38 v) ∧ FrPM inb M (upM M 0 38 v) := by
  obtain ⟨h1, h2, s1, s2, s3, s4, s5, s6, s7, s8, s9⟩ := h
  refine ⟨⟨CodOK_up h1 (by omega) (by omega), Cur_up h2 (by omega) (by omega), ?_, ?_, ?_, ?_, ?_, ?_, ?_, ?_, ?_⟩, FrPM_up (Or.inl ⟨rfl, by unfold own0; omega⟩)⟩
  · rw [up_i (by omega)]; exact s1
  · rw [up_i (by omega)]; exact s2
  · rw [up_i (by omega)]; exact s3
  · rw [up_e, hv]
  · exact FrOK_of s5.2 (fun a i g1 g2 g3 => up_k (by omega))
  · rw [up_i (by omega)]; exact s6
  · rw [up_i (by omega)]; exact s7
  · exact OpsOK_of s8 (fun i hi => up_k (by omega))
  · rw [up_i (by omega)]; exact s9
/-- a change of the frame on top -/
theorem MS_top (h : MS C inb w j o b L P (f :: stk) ops X M) {k : Nat} {v : Int} (hk : 18 ≤ k ∧ k ≤ 21) (g : Fr) (hg : g.2.2.2.2 = f.2.2.2.2) (h18 : g.1 = if k = 18 then v else f.1) (h19 : g.2.1 = if k = 19 then v else f.2.1) (h20 : g.2.2.1 = if k = 20 then v else f.2.2.1) (h21 : g.2.2.2.1 = if k = 21 then v else f.2.2.2.1) :
    MS C inb w j o b L P (g :: stk) ops X (upM M k stk.length v) ∧ FrPM inb M (upM M k stk.length v) := by
  obtain ⟨h1, h2, s1, s2, s3, s4, ⟨⟨f1, f2, f3, f4, f5⟩, f6⟩, s6, s7, s8, s9⟩ := h
  have e0 : ∀ q, (upM M k stk.length v) 0 q = M 0 q := fun q => up_k (by omega)
  have e : ∀ a x y : Int, ∀ r : Nat, M r stk.length = x → y = (if k = r then v else x) → (upM M k stk.length v) r stk.length = y := fun a x y r g1 g2 => by
    by_cases hz : k = r
    · subst hz; rw [up_e, g2, if_pos rfl]
    · rw [up_k (by omega), g1, g2, if_neg hz]
  refine ⟨⟨CodOK_up h1 (by omega) (by omega), Cur_up h2 (by omega) (by omega), by rw [e0]; exact s1, by rw [e0]; exact s2, by rw [e0]; exact s3, by rw [e0]; exact s4, ⟨⟨e 0 _ _ 18 f1 h18, e 0 _ _ 19 f2 h19, e 0 _ _ 20 f3 h20, ?_, ?_⟩, ?_⟩, by rw [e0]; exact s6, by rw [e0]; exact s7, ?_, by rw [e0]; exact s9⟩, FrPM_up (Or.inr (Or.inl (by omega)))⟩
  · intro hn
    by_cases hz : k = 21
    · subst hz; rw [up_e, h21, if_pos rfl]
    · rw [h21, if_neg hz] at hn ⊢
      rw [up_k (by omega)]; exact f4 hn
  · rw [up_k (by omega), hg]; exact f5
  · exact FrOK_of f6 (fun a i g1 g2 g3 => by
      by_cases hz : a = k
      · subst hz; exact up_i (by omega)
      · exact up_k hz)
  · exact OpsOK_of s8 (fun i hi => up_k (by omega))
/-- an op is held back -/
theorem MS_op (h : MS C inb w j o b L P stk ops X M) {x : Int} (hx : 31 ≤ x ∧ x ≤ 43) (hl : ops.length < 400) : ∃ M1, m_holdsBack x M = some M1 ∧ MS C inb w j o b L P stk (x :: ops) X M1 ∧ FrPM inb M M1 ∧ M1 = upM (upM M 23 ops.length x) 0 41 ((ops.length : Int) + 1) := by
  obtain ⟨h1, h2, s1, s2, s3, s4, s5, s6, s7, s8, s9⟩ := h
  refine ⟨upM (upM M 23 ops.length x) 0 41 ((ops.length : Int) + 1), ?_, ⟨CodOK_up (CodOK_up h1 (by omega) (by omega)) (by omega) (by omega), Cur_up (Cur_up h2 (by omega) (by omega)) (by omega) (by omega), ?_, ?_, ?_, ?_, ?_, ?_, ?_, ⟨⟨?_, hx⟩, ?_⟩, ?_⟩, FrPM_trans (FrPM_up (Or.inr (Or.inl (by omega)))) (FrPM_up (Or.inl ⟨rfl, by unfold own0; omega⟩)), rfl⟩
  · unfold m_holdsBack chk
    dsimp only [lt]
    rw [up_k (by omega), s7, Int.toNat_natCast, if_pos (by omega)]
  · rw [up_i (by omega), up_k (by omega)]; exact s1
  · rw [up_i (by omega), up_k (by omega)]; exact s2
  · rw [up_i (by omega), up_k (by omega)]; exact s3
  · rw [up_i (by omega), up_k (by omega)]; exact s4
  · exact FrOK_of s5 (fun a i g1 g2 g3 => by rw [up_k (by omega), up_k (by omega)])
  · rw [up_i (by omega), up_k (by omega)]; exact s6
  · rw [up_e, List.length_cons]; omega
  · rw [up_k (by omega), up_e]
  · exact OpsOK_of s8 (fun i hi => by rw [up_k (by omega), up_i (by omega)])
  · rw [up_i (by omega), up_k (by omega)]; exact s9
/-- a frame is pushed -/
theorem MS_push (h : MS C inb w j o b L P stk ops X M) {kd : Int} (hl : stk.length < 19) : ∃ M1, m_pushes kd M = some M1 ∧ MS C inb w j o b L P ((kd, 0, 1, 0, ops.length) :: stk) ops X M1 ∧ FrPM inb M M1 := by
  obtain ⟨h1, h2, s1, s2, s3, s4, s5, s6, s7, s8, s9⟩ := h
  obtain ⟨M1, hM1⟩ : ∃ M1, M1 = upM (upM (upM (upM (upM M 18 stk.length kd) 19 stk.length 0) 20 stk.length 1) 22 stk.length (ops.length : Int)) 0 38 ((stk.length : Int) + 1) := ⟨_, rfl⟩
  have e0 : ∀ q, q ≠ 38 → M1 0 q = M 0 q := fun q hq => by rw [hM1, up_i hq, up_k (by omega), up_k (by omega), up_k (by omega), up_k (by omega)]
  have er : ∀ a i, a ≠ 0 → i ≠ stk.length → M1 a i = M a i := fun a i h1 h2 => by
    have q : ∀ (Z : Mem) (k : Nat) (v : Int), upM Z k stk.length v a i = Z a i := fun Z k v => by
      by_cases hz : a = k
      · subst hz; exact up_i h2
      · exact up_k hz
    rw [hM1, up_k h1, q, q, q, q]
  have er2 : ∀ a, a ≠ 0 → (a < 18 ∨ 22 < a ∨ a = 21) → M1 a = M a := fun a h1 h2 => by rw [hM1, upM_row h1, upM_row (by omega), upM_row (by omega), upM_row (by omega), upM_row (by omega)]
  refine ⟨M1, ?_, ⟨CodOK_of h1 (fun _ _ => rfl) (fun i hi => ⟨by rw [er2 14 (by omega) (by omega)], by rw [er2 15 (by omega) (by omega)]⟩), ?_, ?_, ?_, ?_, ?_, ⟨⟨?_, ?_, ?_, ?_, ?_⟩, ?_⟩, ?_, ?_, ?_, ?_⟩, ?_⟩
  · unfold m_pushes chk
    dsimp only [lt]
    simp (disch := omega) only [up_k, s4, s7, Int.toNat_natCast, if_pos]
    rw [hM1]
  · rw [hM1]
    exact Cur_up (Cur_up (Cur_up (Cur_up (Cur_up h2 (by omega) (by omega)) (by omega) (by omega)) (by omega) (by omega)) (by omega) (by omega)) (by omega) (by omega)
  · rw [e0 31 (by omega)]; exact s1
  · rw [e0 32 (by omega)]; exact s2
  · rw [e0 30 (by omega)]; exact s3
  · rw [hM1, up_e, List.length_cons]; omega
  · rw [hM1]; simp (disch := omega) only [up_k, up_e]
  · rw [hM1]; simp (disch := omega) only [up_k, up_e]
  · rw [hM1]; simp (disch := omega) only [up_k, up_e]
  · intro q; exact absurd rfl q
  · rw [hM1]; simp (disch := omega) only [up_k, up_e]
  · exact FrOK_of s5 (fun a i g1 g2 g3 => er a i (by omega) (by omega))
  · rw [e0 39 (by omega)]; exact s6
  · rw [e0 41 (by omega)]; exact s7
  · exact OpsOK_of s8 (fun i hi => by rw [er2 23 (by omega) (by omega)])
  · rw [e0 42 (by omega)]; exact s9
  · rw [hM1]
    exact FrPM_trans (FrPM_trans (FrPM_trans (FrPM_trans (FrPM_up (Or.inr (Or.inl (by omega)))) (FrPM_up (Or.inr (Or.inl (by omega))))) (FrPM_up (Or.inr (Or.inl (by omega))))) (FrPM_up (Or.inr (Or.inl (by omega))))) (FrPM_up (Or.inl ⟨rfl, by unfold own0; omega⟩))
/-- the next token -/
theorem MS_ahead (hA : AheadOK C cnt) (h : MS C inb w j o b L P stk ops X M) (hj : j + 1 < cnt) : ∃ M1, m_ahead M = some M1 ∧ MS C inb w (j + 1) o b L P stk ops X M1 ∧ FrPM inb M M1 ∧ FrA M M1 := by
  obtain ⟨h1, ⟨c1, c2, c3, c4, c5⟩, s1, s2, s3, s4, s5, s6, s7, s8, s9⟩ := h
  obtain ⟨M1, e1, e2, e3, e4⟩ := hA j M hj c2.1 c3 c4
  have f1 := e4.1
  have f2 := e4.2
  have e0 : ∀ q, 13 ≤ q → M1 0 q = M 0 q := fun q hq => f2 q (by omega) (by omega) (by omega) (by omega) (by omega) (by omega)
  refine ⟨M1, e1, ⟨CodOK_of h1 (fun _ _ => rfl) (fun i hi => ⟨by rw [f1 14 (by omega)], by rw [f1 15 (by omega)]⟩), ⟨?_, ?_, ?_, e3, e2⟩, ?_, ?_, ?_, ?_, ?_, ?_, ?_, ?_, ?_⟩, FrPM_A e4, e4⟩
  · rw [f2 8 (by omega) (by omega) (by omega) (by omega) (by omega) (by omega)]; exact c1
  · exact ⟨by rw [f1 1 (by omega)]; exact c2.1, by rw [f2 9 (by omega) (by omega) (by omega) (by omega) (by omega) (by omega)]; exact c2.2⟩
  · rw [f2 2 (by omega) (by omega) (by omega) (by omega) (by omega) (by omega)]; exact c3
  · rw [e0 31 (by omega)]; exact s1
  · rw [e0 32 (by omega)]; exact s2
  · rw [e0 30 (by omega)]; exact s3
  · rw [e0 38 (by omega)]; exact s4
  · exact FrOK_of s5 (fun a i g1 g2 g3 => by rw [f1 a (by omega)])
  · rw [e0 39 (by omega)]; exact s6
  · rw [e0 41 (by omega)]; exact s7
  · exact OpsOK_of s8 (fun i hi => by rw [f1 23 (by omega)])
  · rw [e0 42 (by omega)]; exact s9
/-- a code is told by both -/
theorem MS_code {X1 : Mem} (h : MS C inb w j o b L [] stk ops X M) {p q x : Int} (hin : inb < 2) (hL : L.length < 1600) (hc : CodeEq x p q) (hx : X1 15 L.length = x) (hX : ∀ i, i < L.length → X1 15 i = X 15 i) :
    ∃ M1, m_add p q M = some M1 ∧ MS C inb w j o b (L ++ [(p, q)]) [] stk ops X1 M1 ∧ FrPM inb M M1 := by
  obtain ⟨h1, h2, s1, s2, s3, s4, s5, s6, s7, s8, s9⟩ := h
  refine ⟨_, m_add_eq s1 hin s3 hL, ⟨CodOK_snoc (CodOK_of h1 hX (fun i hi => ⟨?_, ?_⟩)) ?_ ?_ (hx ▸ hc), Cur_up (Cur_up (Cur_up h2 (by omega) (by omega)) (by omega) (by omega)) (by omega) (by omega), ?_, ?_, ?_, ?_, ?_, ?_, ?_, ?_, ?_⟩, FrPM_trans (FrPM_trans (FrPM_up (Or.inr (Or.inr ⟨Or.inl rfl, by omega, by omega⟩))) (FrPM_up (Or.inr (Or.inr ⟨Or.inr rfl, by omega, by omega⟩)))) (FrPM_up (Or.inl ⟨rfl, by unfold own0; omega⟩))⟩
  · rw [up_k (by omega), up_k (by omega), up_i (by omega)]
  · rw [up_k (by omega), up_i (by omega), up_k (by omega)]
  · rw [up_k (by omega), up_k (by omega), up_e]
  · rw [up_k (by omega), up_e]
  · rw [up_i (by omega), up_k (by omega), up_k (by omega)]; exact s1
  · rw [up_i (by omega), up_k (by omega), up_k (by omega)]; exact s2
  · rw [up_e, List.length_append, List.length_cons, List.length_nil]; omega
  · rw [up_i (by omega), up_k (by omega), up_k (by omega)]; exact s4
  · exact FrOK_of s5 (fun a i g1 g2 g3 => by rw [up_k (by omega), up_k (by omega), up_k (by omega)])
  · rw [up_i (by omega), up_k (by omega), up_k (by omega)]; exact s6
  · rw [up_i (by omega), up_k (by omega), up_k (by omega)]; exact s7
  · exact OpsOK_of s8 (fun i hi => by rw [up_k (by omega), up_k (by omega), up_k (by omega)])
  · rw [up_i (by omega), up_k (by omega), up_k (by omega)]; exact s9
/-- both open one more -/
theorem MS_opens (hA : AheadOK C cnt) (h : MS C inb w j o b L [] stk ops X M) (hj : j + 1 < cnt) (kd : Int) (hl : stk.length < 19) (ho : o < 7) : ∃ M1, m_opens kd M = some M1 ∧ MS C inb w (j + 1) (o + 1) b L [] ((kd, 0, 1, 0, ops.length) :: stk) ops X M1 ∧ FrPM inb M M1 := by
  have e8 := h.2.1.1
  have e39 : M 0 39 = (o : Int) := h.2.2.2.2.2.2.2.1
  obtain ⟨k1, k2⟩ := MS_open h (o + 1) (v := (o : Int) + 1) (by show (o : Int) + 1 = ((o + 1 + 0 : Nat) : Int); omega)
  obtain ⟨M2, a1, a2, a3, -⟩ := MS_ahead hA k1 hj
  obtain ⟨M3, b1, b2, b3⟩ := MS_push a2 (kd := kd) hl
  refine ⟨M3, ?_, b2, FrPM_trans k2 (FrPM_trans a3 b3)⟩
  unfold m_opens m_opens_B18
  dsimp only [lt]
  rw [e8, e39, w32_eq (x := (o : Int)) (by omega) (by omega), w32_eq (x := (7 : Int)) (by omega) (by omega), if_pos (by omega), w32_0, if_pos (by omega), a1, bnd_some, b1, bnd_some]
theorem m_opens_f (h : MS C inb w j 7 b L [] stk ops X M) (kd : Int) : m_opens kd M = some (upM (upM M 0 8 5) 0 9 (M 0 4)) := by
  have e8 := h.2.1.1
  have e39 : M 0 39 = 7 := h.2.2.2.2.2.2.2.1
  unfold m_opens m_opens_B18 m_blame
  dsimp only [lt]
  rw [e8, e39, if_neg (by omega), w32_0, if_pos (by omega), bnd_some]
  rw [up_i (by omega), up_e, w32_eq (x := (5 : Int)) (by omega) (by omega), if_neg (by omega)]
end MSS
