/-! THE PURE PART: town: a rule being read, in both; what the reference holds back comes out -/
abbrev Fr : Type := Int × Int × Int × Int × Nat
def FrOK (M : Mem) : List Fr → Prop
  | [] => True
  | f :: r => (M 18 r.length = f.1 ∧ M 19 r.length = f.2.1 ∧ M 20 r.length = f.2.2.1 ∧ (f.2.2.2.1 ≠ 0 → M 21 r.length = f.2.2.2.1) ∧ M 22 r.length = (f.2.2.2.2 : Int)) ∧ FrOK M r
def OpsOK (M : Mem) : List Int → Prop
  | [] => True
  | x :: r => (M 23 r.length = x ∧ 31 ≤ x ∧ x ≤ 43) ∧ OpsOK M r
def nots : List Int → Nat
  | [] => 0
  | x :: r => (if x = 43 then 1 else 0) + nots r
def rk (op : Int) : Int := if op = 42 then 1 else if op = 41 then 2 else if op = 43 then 3 else if 38 ≤ op then 4 else if op ≤ 32 then 5 else 6
def CodOK (inb : Nat) (X M : Mem) (L : List (Int × Int)) : Prop := ∀ i, i < L.length → M 14 (1600 * inb + i) = (L.getD i (0, 0)).1 ∧ M 15 (1600 * inb + i) = (L.getD i (0, 0)).2 ∧ CodeEq (X 15 i) (L.getD i (0, 0)).1 (L.getD i (0, 0)).2
def PenOK (X : Mem) : Nat → List Int → Prop
  | _, [] => True
  | c, p :: r => CodeEq (X 15 c) p 0 ∧ PenOK X (c + 1) r
def Cur (C : Mem) (j : Nat) (M : Mem) : Prop := M 0 8 = 0 ∧ (M 1 = C 3 ∧ M 0 9 = -1) ∧ M 0 2 = C 5 0 ∧ M 0 5 = C 4 j ∧ TokM (C 0 j) (C 1 j) (C 2 j) M
def StX (C : Mem) (cnt w j o : Nat) (L : List (Int × Int)) (P : List Int) (X : Mem) : Prop := Prs C cnt j o X ∧ X 3 6 = (w : Int) ∧ X 13 5 = ((L.length + P.length : Nat) : Int) ∧ PenOK X L.length P ∧ L.length + P.length ≤ j
def StM (inb w o : Nat) (b : Int) (L : List (Int × Int)) (P : List Int) (stk : List Fr) (ops : List Int) (M : Mem) : Prop :=
  M 0 31 = (inb : Int) ∧ M 0 32 = (w : Int) ∧ M 0 30 = (L.length : Int) ∧ M 0 38 = (stk.length : Int) ∧ FrOK M stk ∧ M 0 39 = ((o + nots P : Nat) : Int) ∧ M 0 41 = (ops.length : Int) ∧ OpsOK M ops ∧ M 0 42 = b
def St (C : Mem) (cnt inb w j o : Nat) (b : Int) (L : List (Int × Int)) (P : List Int) (stk : List Fr) (ops : List Int) (X M : Mem) : Prop :=
  StX C cnt w j o L P X ∧ CodOK inb X M L ∧ Cur C j M ∧ StM inb w o b L P stk ops M
def FrA (M M1 : Mem) : Prop := (∀ a, a ≠ 0 → M1 a = M a) ∧ (∀ i, i ≠ 3 → i ≠ 4 → i ≠ 5 → i ≠ 6 → i ≠ 7 → i ≠ 12 → M1 0 i = M 0 i)
def AheadOK (C : Mem) (cnt : Nat) : Prop := ∀ (j : Nat) (M : Mem), j + 1 < cnt → M 1 = C 3 → M 0 2 = C 5 0 → M 0 5 = C 4 j → ∃ M1, m_ahead M = some M1 ∧ TokM (C 0 (j + 1)) (C 1 (j + 1)) (C 2 (j + 1)) M1 ∧ M1 0 5 = C 4 (j + 1) ∧ FrA M M1
def own0 (i : Nat) : Prop := i < 3 ∨ i = 10 ∨ i = 11 ∨ (12 < i ∧ i < 30) ∨ (30 < i ∧ i < 38) ∨ i = 40 ∨ 42 < i
def FrPM (inb : Nat) (M M1 : Mem) : Prop := (∀ a, a ≠ 0 → a ≠ 14 → a ≠ 15 → (a < 18 ∨ 23 < a) → M1 a = M a) ∧ (∀ i, (i < 1600 * inb ∨ 1600 * inb + 1600 ≤ i) → M1 14 i = M 14 i ∧ M1 15 i = M 15 i) ∧ (∀ i, own0 i → M1 0 i = M 0 i)
def FrPX (X X1 : Mem) : Prop := ∀ q, q ≠ 3 → q ≠ 13 → q ≠ 15 → X1 q = X q
theorem FrPX_refl (X : Mem) : FrPX X X := fun _ _ _ _ => rfl
theorem FrPX_trans {X Y Z : Mem} (h : FrPX X Y) (k : FrPX Y Z) : FrPX X Z := fun q h1 h2 h3 => (k q h1 h2 h3).trans (h q h1 h2 h3)
theorem FrPX_up {X : Mem} {k i : Nat} {v : Int} (h : k = 3 ∨ k = 13 ∨ k = 15) : FrPX X (upM X k i v) := fun q h1 h2 h3 => upM_row (by omega)
theorem FrPM_refl (inb : Nat) (M : Mem) : FrPM inb M M := ⟨fun _ _ _ _ _ => rfl, fun _ _ => ⟨rfl, rfl⟩, fun _ _ => rfl⟩
theorem FrPM_trans {inb : Nat} {X Y Z : Mem} (h : FrPM inb X Y) (k : FrPM inb Y Z) : FrPM inb X Z :=
  ⟨fun a h1 h2 h3 h4 => (k.1 a h1 h2 h3 h4).trans (h.1 a h1 h2 h3 h4), fun i hi => ⟨((k.2.1 i hi).1).trans (h.2.1 i hi).1, ((k.2.1 i hi).2).trans (h.2.1 i hi).2⟩, fun i hi => (k.2.2 i hi).trans (h.2.2 i hi)⟩
theorem FrPM_up {inb : Nat} {M : Mem} {k i : Nat} {v : Int} (h : (k = 0 ∧ ¬ own0 i) ∨ (18 ≤ k ∧ k ≤ 23) ∨ ((k = 14 ∨ k = 15) ∧ 1600 * inb ≤ i ∧ i < 1600 * inb + 1600)) : FrPM inb M (upM M k i v) := by
  refine ⟨fun a h1 h2 h3 h4 => upM_row (by omega), fun q hq => ⟨?_, ?_⟩, fun q hq => ?_⟩
  · by_cases e : k = 14
    · subst e; exact up_i (by omega)
    · exact up_k (by omega)
  · by_cases e : k = 15
    · subst e; exact up_i (by omega)
    · exact up_k (by omega)
  · by_cases e : k = 0
    · subst e
      refine up_i (fun z => ?_)
      subst z
      rcases h with ⟨-, h⟩ | h | h
      · exact h hq
      · omega
      · omega
    · exact up_k (by omega)
theorem FrPM_A {inb : Nat} {M M1 : Mem} (h : FrA M M1) : FrPM inb M M1 := ⟨fun a h1 _ _ _ => h.1 a h1, fun i _ => ⟨by rw [h.1 14 (by omega)], by rw [h.1 15 (by omega)]⟩, fun i hi => h.2 i (by unfold own0 at hi; omega) (by unfold own0 at hi; omega) (by unfold own0 at hi; omega) (by unfold own0 at hi; omega) (by unfold own0 at hi; omega) (by unfold own0 at hi; omega)⟩
theorem FrOK_of {M M1 : Mem} : ∀ {stk : List Fr}, FrOK M stk → (∀ a i, 18 ≤ a → a ≤ 22 → i < stk.length → M1 a i = M a i) → FrOK M1 stk := by
  intro stk
  induction stk with
  | nil => intro _ _; trivial
  | cons f r ih =>
    rintro ⟨⟨h1, h2, h3, h4, h5⟩, h6⟩ e
    have hl : r.length < (f :: r).length := by rw [List.length_cons]; omega
    exact ⟨⟨by rw [e 18 _ (by omega) (by omega) hl]; exact h1, by rw [e 19 _ (by omega) (by omega) hl]; exact h2, by rw [e 20 _ (by omega) (by omega) hl]; exact h3, by rw [e 21 _ (by omega) (by omega) hl]; exact h4, by rw [e 22 _ (by omega) (by omega) hl]; exact h5⟩, ih h6 (fun a i g1 g2 g3 => e a i g1 g2 (by rw [List.length_cons]; omega))⟩
theorem OpsOK_of {M M1 : Mem} : ∀ {ops : List Int}, OpsOK M ops → (∀ i, i < ops.length → M1 23 i = M 23 i) → OpsOK M1 ops := by
  intro ops
  induction ops with
  | nil => intro _ _; trivial
  | cons x r ih =>
    rintro ⟨⟨h1, h2⟩, h3⟩ e
    have hl : r.length < (x :: r).length := by rw [List.length_cons]; omega
    exact ⟨⟨by rw [e _ hl]; exact h1, h2⟩, ih h3 (fun i hi => e i (by rw [List.length_cons]; omega))⟩
theorem OpsOK_app {M : Mem} : ∀ {P ops : List Int}, OpsOK M (P ++ ops) → OpsOK M ops := by
  intro P
  induction P with
  | nil => intro ops h; exact h
  | cons x r ih => intro ops h; exact ih h.2
theorem CodOK_of {inb : Nat} {X M X1 M1 : Mem} {L : List (Int × Int)} (h : CodOK inb X M L) (hx : ∀ i, i < L.length → X1 15 i = X 15 i) (hm : ∀ i, i < L.length → M1 14 (1600 * inb + i) = M 14 (1600 * inb + i) ∧ M1 15 (1600 * inb + i) = M 15 (1600 * inb + i)) : CodOK inb X1 M1 L := by
  intro i hi
  obtain ⟨h1, h2, h3⟩ := h i hi
  rw [(hm i hi).1, (hm i hi).2, hx i hi]
  exact ⟨h1, h2, h3⟩
theorem CodOK_snoc {inb : Nat} {X M : Mem} {L : List (Int × Int)} {a b : Int} (h : CodOK inb X M L) (h1 : M 14 (1600 * inb + L.length) = a) (h2 : M 15 (1600 * inb + L.length) = b) (h3 : CodeEq (X 15 L.length) a b) : CodOK inb X M (L ++ [(a, b)]) := by
  intro i hi
  rw [List.length_append] at hi
  simp only [List.length_cons, List.length_nil] at hi
  by_cases e : i < L.length
  · have : (L ++ [(a, b)]).getD i (0, 0) = L.getD i (0, 0) := by
      rw [List.getD_eq_getElem?_getD, List.getD_eq_getElem?_getD, List.getElem?_append_left e]
    rw [this]
    exact h i e
  · have e2 : i = L.length := by omega
    have : (L ++ [(a, b)]).getD i (0, 0) = (a, b) := by
      rw [List.getD_eq_getElem?_getD, e2]
      simp
    rw [this, e2]
    exact ⟨h1, h2, h3⟩
theorem PenOK_of {X X1 : Mem} : ∀ {P : List Int} {c : Nat}, PenOK X c P → (∀ i, c ≤ i → i < c + P.length → X1 15 i = X 15 i) → PenOK X1 c P := by
  intro P
  induction P with
  | nil => intro c _ _; trivial
  | cons p r ih =>
    rintro c ⟨h1, h2⟩ e
    rw [List.length_cons] at e
    exact ⟨by rw [e c (by omega) (by omega)]; exact h1, ih h2 (fun i g1 g2 => e i (by omega) (by omega))⟩
theorem PenOK_snoc {X : Mem} {p : Int} : ∀ {P : List Int} {c : Nat}, PenOK X c P → CodeEq (X 15 (c + P.length)) p 0 → PenOK X c (P ++ [p]) := by
  intro P
  induction P with
  | nil => intro c _ h; exact ⟨h, trivial⟩
  | cons q r ih =>
    rintro c ⟨h1, h2⟩ h3
    refine ⟨h1, ih h2 ?_⟩
    rw [List.length_cons] at h3
    rw [show c + 1 + r.length = c + (r.length + 1) by omega]
    exact h3
theorem nots_app : ∀ (P Q : List Int), nots (P ++ Q) = nots P + nots Q := by
  intro P
  induction P with
  | nil => intro Q; show nots Q = 0 + nots Q; omega
  | cons p r ih => intro Q; show (if p = 43 then 1 else 0) + nots (r ++ Q) = (if p = 43 then 1 else 0) + nots r + nots Q; rw [ih Q]; omega
theorem nots_le : ∀ (P : List Int), nots P ≤ P.length := by
  intro P
  induction P with
  | nil => exact Nat.le_refl 0
  | cons p r ih => show (if p = 43 then 1 else 0) + nots r ≤ r.length + 1; split <;> omega
theorem m_rank_eq {x : Int} (h : 31 ≤ x ∧ x ≤ 43) : m_rank x = some (rk x) := by
  have key : ∀ n : Nat, n < 44 → 31 ≤ n → m_rank (n : Int) = some (rk (n : Int)) := by decide +kernel
  obtain ⟨n, rfl⟩ := Int.eq_ofNat_of_zero_le (a := x) (by omega)
  exact key n (by omega) (by omega)
theorem m_add_eq {inb c : Nat} {a b : Int} {M : Mem} (h1 : M 0 31 = (inb : Int)) (hin : inb < 2) (h2 : M 0 30 = (c : Int)) (hc : c < 1600) : m_add a b M = some (upM (upM (upM M 14 (1600 * inb + c) a) 15 (1600 * inb + c) b) 0 30 ((c : Int) + 1)) := by
  unfold m_add chk
  dsimp only [lt]
  rw [h1, h2, tn1600]
  simp (disch := omega) only [up_k, h1, h2, tn1600]
  rw [if_pos (by omega), if_pos (by omega)]
def TopLt (m : Int) (base : Nat) (ops : List Int) : Prop := ops.length = base ∨ (∃ x r, ops = x :: r ∧ rk x < m ∧ base < ops.length)
theorem rk_rng (x : Int) : 1 ≤ rk x ∧ rk x ≤ 6 := by
  unfold rk
  repeat' split
  all_goals omega
/-- what is held back comes out, as far as its rank goes -/
theorem joins_loop {C : Mem} {cnt inb w j o : Nat} {least : Int} {f : Fr} {stk : List Fr} {ops : List Int} {X : Mem} (hl : 1 ≤ least ∧ least ≤ 6) (hin : inb < 2) (hstk : stk.length < 19) (ho : o < 100) (hj : j ≤ 1600)
    (hs : TopLt least f.2.2.2.2 ops) : ∀ (P : List Int) (L : List (Int × Int)) (M : Mem) (N : Nat), P.length < N → P.length + ops.length ≤ 400 → (∀ p ∈ P, least ≤ rk p) → St C cnt inb w j o 1 L P (f :: stk) (P ++ ops) X M →
    ∃ M1, itr1 (m_joins_L0 least) N M = some M1 ∧ St C cnt inb w j o 1 (L ++ P.map (fun p => (p, 0))) [] (f :: stk) ops X M1 ∧ FrPM inb M M1 := by
  intro P
  induction P with
  | nil =>
    intro L M N hN h400 hp h
    obtain ⟨G, rfl⟩ : ∃ G, N = G + 1 := ⟨N - 1, by omega⟩
    have hh := h
    obtain ⟨-, -, -, s1, s2, s3, s4, ⟨⟨f1, f2, f3, f4, f5⟩, f6⟩, s6, s7, s8, s9⟩ := h
    rw [List.nil_append] at s7 s8
    simp only [List.length_cons, List.length_nil, List.nil_append] at s4 h400 hh
    refine ⟨M, ?_, by simpa using hh, FrPM_refl inb M⟩
    show m_joins_L0 least (fun a => itr1 (m_joins_L0 least) G a) M = some M
    unfold m_joins_L0 chk
    have t1 : (((stk.length + 1 : Nat) : Int) - 1).toNat = stk.length := by omega
    rw [s4, s7, t1, f5, if_pos (by omega), w32_eq (x := (ops.length : Int)) (by omega) (by omega)]
    rcases hs with e | ⟨x, r, e, e1, e2⟩
    · rw [w32_eq (x := (f.2.2.2.2 : Int)) (by omega) (by omega), if_pos (by omega)]
    · rw [w32_eq (x := (f.2.2.2.2 : Int)) (by omega) (by omega), if_neg (by omega), if_pos (by omega)]
      subst e
      obtain ⟨⟨u1, u2, u3⟩, -⟩ := s8
      have t2 : (((x :: r).length : Int) - 1).toNat = r.length := by rw [List.length_cons]; omega
      have := rk_rng x
      rw [t2, u1, m_rank_eq ⟨u2, u3⟩, bnd_some, w32_eq (x := rk x) (by omega) (by omega), w32_eq (x := least) (by omega) (by omega), if_pos e1]
  | cons p P ih =>
    intro L M N hN h400 hp h
    rw [List.length_cons] at hN h400
    obtain ⟨G, rfl⟩ : ∃ G, N = G + 1 := ⟨N - 1, by omega⟩
    obtain ⟨⟨x1, x2, x3, ⟨x4, x4'⟩, x5⟩, hcod, ⟨c1, c2, c3, c4, c5⟩, s1, s2, s3, s4, hfr, s6, s7, ⟨⟨u1, u2, u3⟩, u4⟩, s9⟩ := h
    have hfr' := hfr
    obtain ⟨⟨f1, f2, f3, f4, f5⟩, f6⟩ := hfr
    rw [List.length_cons] at x5 x3
    have u1 : M 23 (P ++ ops).length = p := u1
    have u4 : OpsOK M (P ++ ops) := u4
    simp only [List.length_cons, List.cons_append, List.length_append] at s4 s7
    have hrp := hp p List.mem_cons_self
    have hr := rk_rng p
    have hbase : f.2.2.2.2 ≤ ops.length := by rcases hs with e | ⟨x, r, e, e1, e2⟩ <;> omega
    obtain ⟨n, hn⟩ : ∃ n, n = P.length + ops.length := ⟨_, rfl⟩
    rw [List.length_append, ← hn] at u1
    have s7' : M 0 41 = (n : Int) + 1 := by rw [s7]; omega
    obtain ⟨Ma, hMa⟩ : ∃ Ma, Ma = upM M 0 41 (n : Int) := ⟨_, rfl⟩
    have ma : ∀ q, q ≠ 0 → Ma q = M q := fun q hq => by rw [hMa, upM_row hq]
    have ma0 : ∀ q, q ≠ 41 → Ma 0 q = M 0 q := fun q hq => by rw [hMa, up_i hq]
    obtain ⟨Mb, hMb⟩ : ∃ Mb, Mb = upM (upM (upM Ma 14 (1600 * inb + L.length) p) 15 (1600 * inb + L.length) 0) 0 30 ((L.length : Int) + 1) := ⟨_, rfl⟩
    have hadd : m_add p 0 Ma = some Mb := by rw [hMb]; exact m_add_eq (by rw [ma0 31 (by omega)]; exact s1) hin (by rw [ma0 30 (by omega)]; exact s3) (by omega)
    have mb : ∀ q, q ≠ 0 → q ≠ 14 → q ≠ 15 → Mb q = M q := fun q h1 h2 h3 => by rw [hMb, upM_row h1, upM_row h3, upM_row h2, ma q h1]
    have mb0 : ∀ q, q ≠ 41 → q ≠ 30 → Mb 0 q = M 0 q := fun q h1 h2 => by rw [hMb, up_i h2, up_k (by omega), up_k (by omega), ma0 q h1]
    have mb41 : Mb 0 41 = (n : Int) := by rw [hMb, up_i (by omega), up_k (by omega), up_k (by omega), hMa, up_e]
    have mb30 : Mb 0 30 = (L.length : Int) + 1 := by rw [hMb, up_e]
    have mb14 : ∀ i, i ≠ 1600 * inb + L.length → Mb 14 i = M 14 i ∧ Mb 15 i = M 15 i := fun i hi => ⟨by rw [hMb, up_k (by omega), up_k (by omega), up_i hi, ma 14 (by omega)], by rw [hMb, up_k (by omega), up_i hi, up_k (by omega), ma 15 (by omega)]⟩
    have mb14e : Mb 14 (1600 * inb + L.length) = p := by rw [hMb, up_k (by omega), up_k (by omega), up_e]
    have mb15e : Mb 15 (1600 * inb + L.length) = 0 := by rw [hMb, up_k (by omega), up_e]
    obtain ⟨Mc, hMc⟩ : ∃ Mc, Mc = (if p = 43 then upM Mb 0 39 (Mb 0 39 - 1) else Mb) := ⟨_, rfl⟩
    have mc : ∀ q, q ≠ 0 → Mc q = Mb q := fun q hq => by
      rw [hMc]; split
      · exact upM_row hq
      · rfl
    have mc0 : ∀ q, q ≠ 39 → Mc 0 q = Mb 0 q := fun q hq => by
      rw [hMc]; split
      · exact up_i hq
      · rfl
    have mc39 : Mc 0 39 = ((o + nots P : Nat) : Int) := by
      have e : Mb 0 39 = ((o + ((if p = 43 then 1 else 0) + nots P) : Nat) : Int) := by rw [mb0 39 (by omega) (by omega)]; exact s6
      rw [hMc]
      split
      · rw [if_pos (by assumption)] at e
        rw [up_e, e]; omega
      · rw [if_neg (by assumption)] at e
        rw [e]; omega
    have hnext : St C cnt inb w j o 1 (L ++ [(p, 0)]) P (f :: stk) (P ++ ops) X Mc := by
      refine ⟨⟨x1, x2, ?_, ?_, ?_⟩, ?_, ⟨?_, ?_, ?_, ?_, ?_⟩, ?_, ?_, ?_, ?_, ?_, mc39, ?_, ?_, ?_⟩
      · rw [x3, List.length_append, List.length_cons, List.length_nil]; omega
      · rw [List.length_append, List.length_cons, List.length_nil]; exact x4'
      · rw [List.length_append, List.length_cons, List.length_nil]; omega
      · refine CodOK_snoc (CodOK_of hcod (fun _ _ => rfl) (fun i hi => ?_)) ?_ ?_ x4
        · rw [mc 14 (by omega), mc 15 (by omega)]; exact mb14 _ (by omega)
        · rw [mc 14 (by omega)]; exact mb14e
        · rw [mc 15 (by omega)]; exact mb15e
      · rw [mc0 8 (by omega), mb0 8 (by omega) (by omega)]; exact c1
      · exact ⟨by rw [mc 1 (by omega), mb 1 (by omega) (by omega) (by omega)]; exact c2.1, by rw [mc0 9 (by omega), mb0 9 (by omega) (by omega)]; exact c2.2⟩
      · rw [mc0 2 (by omega), mb0 2 (by omega) (by omega)]; exact c3
      · rw [mc0 5 (by omega), mb0 5 (by omega) (by omega)]; exact c4
      · exact TokM_of c5 (by rw [mc0 3 (by omega), mb0 3 (by omega) (by omega)]) (by rw [mc0 4 (by omega), mb0 4 (by omega) (by omega)]) (by rw [mc0 6 (by omega), mb0 6 (by omega) (by omega)]) (by rw [mc0 7 (by omega), mb0 7 (by omega) (by omega)]) (by rw [mc0 12 (by omega), mb0 12 (by omega) (by omega)])
      · rw [mc0 31 (by omega), mb0 31 (by omega) (by omega)]; exact s1
      · rw [mc0 32 (by omega), mb0 32 (by omega) (by omega)]; exact s2
      · rw [mc0 30 (by omega), mb30, List.length_append, List.length_cons, List.length_nil]; omega
      · rw [mc0 38 (by omega), mb0 38 (by omega) (by omega)]; exact s4
      · exact FrOK_of hfr' (fun a i g1 g2 g3 => by rw [mc a (by omega), mb a (by omega) (by omega) (by omega)])
      · rw [mc0 41 (by omega), mb41, hn, List.length_append]
      · exact OpsOK_of u4 (fun i hi => by rw [mc 23 (by omega), mb 23 (by omega) (by omega) (by omega)])
      · rw [mc0 42 (by omega), mb0 42 (by omega) (by omega)]; exact s9
    obtain ⟨M1, e1, e2, e3⟩ := ih (L ++ [(p, 0)]) Mc G (by omega) (by omega) (fun q hq => hp q (List.mem_cons_of_mem _ hq)) hnext
    have hfrm : FrPM inb M Mc := by
      have a1 : FrPM inb M Ma := by rw [hMa]; exact FrPM_up (Or.inl ⟨rfl, by unfold own0; omega⟩)
      have a2 : FrPM inb Ma Mb := by
        rw [hMb]
        exact FrPM_trans (FrPM_trans (FrPM_up (Or.inr (Or.inr ⟨Or.inl rfl, by omega, by omega⟩))) (FrPM_up (Or.inr (Or.inr ⟨Or.inr rfl, by omega, by omega⟩)))) (FrPM_up (Or.inl ⟨rfl, by unfold own0; omega⟩))
      have a3 : FrPM inb Mb Mc := by
        rw [hMc]; split
        · exact FrPM_up (Or.inl ⟨rfl, by unfold own0; omega⟩)
        · exact FrPM_refl inb Mb
      exact FrPM_trans a1 (FrPM_trans a2 a3)
    refine ⟨M1, ?_, ?_, FrPM_trans hfrm e3⟩
    · obtain ⟨rec, hrec⟩ : ∃ r, r = itr1 (m_joins_L0 least) G := ⟨_, rfl⟩
      show m_joins_L0 least (itr1 (m_joins_L0 least) G) M = some M1
      rw [← hrec] at e1 ⊢
      unfold m_joins_L0 chk
      dsimp only [lt]
      have t1 : (((stk.length + 1 : Nat) : Int) - 1).toNat = stk.length := by omega
      have t2 : ((n : Int) + 1 - 1) = (n : Int) := by omega
      rw [s4, s7', t1, f5, t2, ← hMa]
      have a41 : Ma 0 41 = (n : Int) := by rw [hMa, up_e]
      have a23 : Ma 23 n = p := by rw [ma 23 (by omega)]; exact u1
      have b23 : Mb 23 n = p := by rw [mb 23 (by omega) (by omega) (by omega)]; exact u1
      rw [a41, Int.toNat_natCast, u1, a23, m_rank_eq ⟨u2, u3⟩, bnd_some, hadd, bnd_some]
      rw [mb41, Int.toNat_natCast, b23]
      rw [w32_eq (x := (n : Int) + 1) (by omega) (by omega), w32_eq (x := (f.2.2.2.2 : Int)) (by omega) (by omega), w32_eq (x := rk p) (by omega) (by omega), w32_eq (x := least) (by omega) (by omega), w32_eq (x := p) (by omega) (by omega), w32_eq (x := (43 : Int)) (by omega) (by omega)]
      rw [if_pos (by omega), if_neg (by omega), if_pos (by omega), if_neg (by omega), if_pos (by omega), if_pos (by omega)]
      by_cases e : p = 43
      · rw [if_neg (by omega)]
        rw [hMc, if_pos e] at e1
        exact e1
      · rw [if_pos e]
        rw [hMc, if_neg e] at e1
        exact e1
    · rw [List.append_assoc] at e2
      exact e2
theorem joins_ok {C : Mem} {cnt inb w j o : Nat} {least : Int} {f : Fr} {stk : List Fr} {P ops : List Int} {L : List (Int × Int)} {X M : Mem} (h : St C cnt inb w j o 1 L P (f :: stk) (P ++ ops) X M) (hl : 1 ≤ least ∧ least ≤ 6) (hin : inb < 2) (hstk : stk.length < 19) (ho : o < 100) (hj : j ≤ 1600)
    (hs : TopLt least f.2.2.2.2 ops) (h400 : P.length + ops.length ≤ 400) (hp : ∀ p ∈ P, least ≤ rk p) :
    ∃ M1, m_joins least M = some M1 ∧ St C cnt inb w j o 1 (L ++ P.map (fun p => (p, 0))) [] (f :: stk) ops X M1 ∧ FrPM inb M M1 := by
  obtain ⟨M1, e1, e2, e3⟩ := joins_loop hl hin hstk ho hj hs P L M FUEL (fuel_lt (by omega)) h400 hp h
  exact ⟨M1, by unfold m_joins; rw [e1, bnd_some], e2, e3⟩
