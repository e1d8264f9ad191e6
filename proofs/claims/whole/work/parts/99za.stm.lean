/-! THE PURE PART: town: words, signs, numbers and names of a statement -/
/-- both stand at token j -/
def PB (C : Mem) (cnt j : Nat) (X M : Mem) : Prop := Prs C cnt j 0 X ∧ Cur C j M ∧ j < cnt ∧ (0 ≤ X 13 5 ∧ X 13 5 ≤ 1600)
def FMs8 (M : Mem) : Prop := 1 ≤ M 0 8 ∧ M 0 8 ≤ 6
theorem m_lex_f {M : Mem} (h : FMs8 M) : m_lex M = some M := by
  unfold m_lex
  rw [m_blame_f h, bnd_some]
  split <;> rfl
theorem m_must_f {M : Mem} (h : FMs8 M) (w : Int) : m_must_ w M = some M := by
  have e0 : ¬ w32 (M 0 8) ≤ 0 := by rw [w32_eq (by have := h.1; have := h.2; omega) (by have := h.1; have := h.2; omega)]; have := h.1; omega
  unfold m_must_
  rw [m_lex_f h, bnd_some, if_neg e0]
theorem m_musts_f {M : Mem} (h : FMs8 M) (c : Int) : m_must c M = some M := by
  have e0 : ¬ w32 (M 0 8) = 0 := by rw [w32_eq (by have := h.1; have := h.2; omega) (by have := h.1; have := h.2; omega)]; have := h.1; omega
  obtain ⟨r, hr⟩ : ∃ r, m_isSign c M = some r := by
    unfold m_isSign
    split
    · exact ⟨_, rfl⟩
    · split <;> exact ⟨_, rfl⟩
  unfold m_must m_must_B21
  rw [m_lex_f h, bnd_some, hr, bnd_some, m_blame_f h, bnd_some, if_pos e0]
  split <;> rfl
theorem m_number_f {M : Mem} (h : FMs8 M) (a b : Int) : m_number a b M = some (0, M) := by
  have e0 : ¬ w32 (M 0 8) ≤ 0 := by rw [w32_eq (by have := h.1; have := h.2; omega) (by have := h.1; have := h.2; omega)]; have := h.1; omega
  unfold m_number
  rw [m_lex_f h, bnd_some, if_neg e0]
theorem fM_f {C : Mem} {j : Nat} {a : Int} {M : Mem} (ha : 1 ≤ a ∧ a ≤ 6) : FMs8 (fM C j a M) := by
  unfold FMs8
  rw [fM_8.1]; exact ha
section STM
variable {C : Mem} {cnt inb j : Nat} {X M : Mem}
theorem PB_next (hC : TokC C cnt) (hA : AheadOK C cnt) (h : PB C cnt j X M) (h1 : C 0 j ≠ 25) (h2 : C 0 j ≠ 26) : ∃ M1, m_ahead M = some M1 ∧ PB C cnt (j + 1) (upM X 3 4 ((j : Int) + 1)) M1 ∧ FrA M M1 := by
  obtain ⟨p1, ⟨c1, c2, c3, c4, c5⟩, p3, p4⟩ := h
  have hj1 := tok_next hC p3 h1 h2
  obtain ⟨M1, e1, e2, e3, e4⟩ := hA j M hj1 c2.1 c3 c4
  refine ⟨M1, e1, ⟨Prs_next p1, ⟨?_, ?_, ?_, e3, e2⟩, hj1, ?_⟩, e4⟩
  · rw [e4.2 8 (by omega) (by omega) (by omega) (by omega) (by omega) (by omega)]; exact c1
  · exact ⟨by rw [e4.1 1 (by omega)]; exact c2.1, by rw [e4.2 9 (by omega) (by omega) (by omega) (by omega) (by omega) (by omega)]; exact c2.2⟩
  · rw [e4.2 2 (by omega) (by omega) (by omega) (by omega) (by omega) (by omega)]; exact c3
  · rw [up_k (by omega)]; exact p4
theorem PB_flt (hC : TokC C cnt) (h : PB C cnt j X M) {a : Int} (ha : 1 ≤ a ∧ a ≤ 6) : FSt cnt (fX C j a X) ∧ (fX C j a X) 3 1 = (fM C j a M) 0 8 ∧ (fX C j a X) 3 2 = (fM C j a M) 0 9 ∧ (fX C j a X) 3 4 = (j : Int) ∧ 0 ≤ (fX C j a X) 3 2 ∧ (fX C j a X) 3 2 ≤ 1600 ∧ FMs8 (fM C j a M) := by
  obtain ⟨g1, g2, g3, g4, g5⟩ := fX_st hC h.1 h.2.2.1 ha h.2.2.2
  have hb := hC.2.2.1 j h.2.2.1
  exact ⟨g1, by rw [g2, fM_8.1], by rw [g3, fM_8.2], g4, by omega, by omega, fM_f ha⟩
/-- a word that must be -/
theorem sim_must (hC : TokC C cnt) (hA : AheadOK C cnt) (h : PB C cnt j X M) (t : Nat) (ht : t < 23) :
    (C 0 j = (t : Int) → ∃ M1, x_Reader_require (t : Int) X = some (upM X 3 4 ((j : Int) + 1)) ∧ m_must_ (ownW t) M = some M1 ∧ PB C cnt (j + 1) (upM X 3 4 ((j : Int) + 1)) M1 ∧ FrA M M1) ∧
    (C 0 j ≠ (t : Int) → x_Reader_require (t : Int) X = some (fX C j 1 X) ∧ m_must_ (ownW t) M = some (fM C j 1 M)) := by
  have h8 := h.2.1.1
  have req := x_req hC h.1 h.2.2.1 (c := (t : Int)) (by omega)
  refine ⟨fun e => ?_, fun e => ?_⟩
  · obtain ⟨hg, h4, hl⟩ := good_of_cur h.2.1 (by omega)
    obtain ⟨M1, a1, a2, a3⟩ := PB_next hC hA h (by omega) (by omega)
    refine ⟨M1, req.1 e, ?_, a2, a3⟩
    unfold m_must_ m_must__B29
    rw [hl, bnd_some, h8, w32_0, if_pos (by omega), tok_word hg t ht, bnd_some, ifd, if_pos e, if_neg (by omega), a1, bnd_some]
  · refine ⟨req.2 e, ?_⟩
    rcases lex_cases h.2.1 with ⟨e26, e0, el⟩ | ⟨el, e4, e0, hg⟩
    · have el : m_lex M = some (fM C j 1 M) := el
      have e8 : (fM C j 1 M) 0 8 = 1 := fM_8.1
      unfold m_must_
      rw [el, bnd_some, e8, w32_eq (x := (1 : Int)) (by omega) (by omega), if_neg (by omega)]
    · have hbl : m_blame 1 (C 1 j) M = some (fM C j 1 M) := m_blame_eq h8
      have e8 : (fM C j 1 M) 0 8 = 1 := fM_8.1
      unfold m_must_ m_must__B29
      rw [el, bnd_some, h8, w32_0, if_pos (by omega), tok_word hg t ht, bnd_some, ifd, if_neg e, e4, hbl, bnd_some, e8, w32_eq (x := (1 : Int)) (by omega) (by omega), if_pos (by omega)]
/-- ; -/
theorem sim_semi (hC : TokC C cnt) (hA : AheadOK C cnt) (h : PB C cnt j X M) :
    (C 0 j = 59 → ∃ M1, x_Reader_require 59 X = some (upM X 3 4 ((j : Int) + 1)) ∧ m_must 59 M = some M1 ∧ PB C cnt (j + 1) (upM X 3 4 ((j : Int) + 1)) M1 ∧ FrA M M1) ∧
    (C 0 j ≠ 59 → x_Reader_require 59 X = some (fX C j 1 X) ∧ m_must 59 M = some (fM C j 1 M)) := by
  have h8 := h.2.1.1
  have req := x_req hC h.1 h.2.2.1 (c := 59) (by omega)
  refine ⟨fun e => ?_, fun e => ?_⟩
  · obtain ⟨hg, h4, hl⟩ := good_of_cur h.2.1 (by omega)
    obtain ⟨M1, a1, a2, a3⟩ := PB_next hC hA h (by omega) (by omega)
    refine ⟨M1, req.1 e, ?_, a2, a3⟩
    unfold m_must m_must_B21
    rw [hl, bnd_some, tok_sign hg (by unfold signK; omega), bnd_some, ifd, if_pos e, h8, w32_0, if_neg (by omega), a1, bnd_some]
  · refine ⟨req.2 e, ?_⟩
    rcases lex_cases h.2.1 with ⟨e26, e0, el⟩ | ⟨el, e4, e0, hg⟩
    · have el : m_lex M = some (fM C j 1 M) := el
      have hf : FMs8 (fM C j 1 M) := fM_f (by omega)
      have := m_musts_f hf 59
      unfold m_must at this
      rw [m_lex_f hf, bnd_some] at this
      unfold m_must
      rw [el, bnd_some]
      exact this
    · have hbl : m_blame 1 (C 1 j) M = some (fM C j 1 M) := m_blame_eq h8
      have e8 : (fM C j 1 M) 0 8 = 1 := fM_8.1
      unfold m_must m_must_B21
      rw [el, bnd_some, tok_sign hg (by unfold signK; omega), bnd_some, ifd, if_neg e, e4, hbl, bnd_some, e8, w32_eq (x := (1 : Int)) (by omega) (by omega), if_pos (by omega)]
/-- a number -/
theorem sim_num (hC : TokC C cnt) (hA : AheadOK C cnt) (h : PB C cnt j X M) (a b : Int) (ha : 0 ≤ a ∧ a ≤ b ∧ b ≤ 9999) :
    (∃ v M1, x_Reader_number a b X = some (v, upM X 3 4 ((j : Int) + 1)) ∧ m_number a b M = some (v, M1) ∧ a ≤ v ∧ v ≤ b ∧ PB C cnt (j + 1) (upM X 3 4 ((j : Int) + 1)) M1 ∧ FrA M M1) ∨
    (∃ z v v', 1 ≤ z ∧ z ≤ 6 ∧ x_Reader_number a b X = some (v, fX C j z X) ∧ m_number a b M = some (v', fM C j z M)) := by
  have h8 := h.2.1.1
  have hcr := hC.2.2.1 j h.2.2.1
  by_cases h24 : C 0 j = 24
  · obtain ⟨hg, h4, hl⟩ := good_of_cur h.2.1 (by omega)
    obtain ⟨tn, tv⟩ := tok_num hg
    obtain ⟨t1, t2, t3⟩ := tv h24
    by_cases hr : a ≤ C 2 j ∧ C 2 j ≤ b
    · obtain ⟨M1, a1, a2, a3⟩ := PB_next hC hA h (by omega) (by omega)
      refine Or.inl ⟨C 2 j, M1, x_num_ok hC h.1 h.2.2.1 h24 hr (by omega), ?_, hr.1, hr.2, a2, a3⟩
      unfold m_number m_number_B30 m_number_B58
      dsimp only [lt]
      rw [hl, bnd_some, h8, w32_0, if_pos (by omega), if_pos (tn ▸ h24), if_neg (by omega), m_is_eq (by omega) (by omega) (by omega), bnd_some, ifd, t1, if_pos hr, if_neg (by omega), a1, bnd_some]
    · refine Or.inr ⟨4, C 2 j, C 2 j, by omega, by omega, x_num_4 hC h.1 h.2.2.1 h24 hr (by omega), ?_⟩
      have hbl : m_blame 4 (C 1 j) M = some (fM C j 4 M) := m_blame_eq h8
      have e8 : (fM C j 4 M) 0 8 = 4 := fM_8.1
      have e6 : (fM C j 4 M) 0 6 = M 0 6 := by unfold fM; rw [up_i (by omega), up_i (by omega)]
      unfold m_number m_number_B30 m_number_B58
      dsimp only [lt]
      rw [hl, bnd_some, h8, w32_0, if_pos (by omega), if_pos (tn ▸ h24), if_neg (by omega), m_is_eq (by omega) (by omega) (by omega), bnd_some, ifd, t1, if_neg hr, h4, hbl, bnd_some, e8, e6, t1, w32_eq (x := (4 : Int)) (by omega) (by omega), if_pos (by omega)]
  · obtain ⟨v, hv⟩ := x_num_1 hC h.1 h.2.2.1 h.2.2.2 (a := a) (b := b) h24
    rcases lex_cases h.2.1 with ⟨e26, e0, el⟩ | ⟨el, e4, e0, hg⟩
    · have el : m_lex M = some (fM C j 1 M) := el
      have e8 : (fM C j 1 M) 0 8 = 1 := fM_8.1
      refine Or.inr ⟨1, v, 0, by omega, by omega, hv, ?_⟩
      unfold m_number
      rw [el, bnd_some, e8, w32_eq (x := (1 : Int)) (by omega) (by omega), if_neg (by omega)]
    · obtain ⟨tn, tv⟩ := tok_num hg
      have hbl : m_blame 1 (C 1 j) M = some (fM C j 1 M) := m_blame_eq h8
      have e8 : (fM C j 1 M) 0 8 = 1 := fM_8.1
      refine Or.inr ⟨1, v, (fM C j 1 M) 0 6, by omega, by omega, hv, ?_⟩
      unfold m_number m_number_B30 m_number_B58
      dsimp only [lt]
      rw [el, bnd_some, h8, w32_0, if_pos (by omega), if_neg (fun q => h24 (tn ▸ q)), e4, hbl, bnd_some, e8, w32_eq (x := (1 : Int)) (by omega) (by omega), if_pos (by omega), if_pos (by omega)]
end STM
/-- the first below d + k from k on -/
def fsI (p : Nat → Bool) : Nat → Nat → Int
  | 0, _ => -1
  | d + 1, k => if p k = true then (k : Int) else fsI p d (k + 1)
theorem fsI_ext {p q : Nat → Bool} : ∀ d k, (∀ i, k ≤ i → i < k + d → p i = q i) → fsI p d k = fsI q d k := by
  intro d
  induction d with
  | zero => intro k _; rfl
  | succ d ih =>
    intro k h
    show (if p k = true then (k : Int) else fsI p d (k + 1)) = (if q k = true then (k : Int) else fsI q d (k + 1))
    rw [h k (by omega) (by omega), ih (k + 1) (fun i h1 h2 => h i (by omega) (by omega))]
theorem fsI_rng {p : Nat → Bool} : ∀ d k, (fsI p d k = -1 ∧ ∀ i, k ≤ i → i < k + d → p i = false) ∨ ((k : Int) ≤ fsI p d k ∧ fsI p d k < (k : Int) + d ∧ p (fsI p d k).toNat = true) := by
  intro d
  induction d with
  | zero => intro k; exact Or.inl ⟨rfl, fun i h1 h2 => by omega⟩
  | succ d ih =>
    intro k
    by_cases h : p k = true
    · have : fsI p (d + 1) k = (k : Int) := by show (if p k = true then (k : Int) else _) = _; rw [if_pos h]
      rw [this]
      exact Or.inr ⟨by omega, by omega, by rw [Int.toNat_natCast]; exact h⟩
    · have e : fsI p (d + 1) k = fsI p d (k + 1) := by show (if p k = true then (k : Int) else _) = _; rw [if_neg h]
      rw [e]
      rcases ih (k + 1) with ⟨h1, h2⟩ | ⟨h1, h2, h3⟩
      · refine Or.inl ⟨h1, fun i g1 g2 => ?_⟩
        by_cases z : i = k
        · subst z; simpa using h
        · exact h2 i (by omega) (by omega)
      · exact Or.inr ⟨by omega, by omega, h3⟩
theorem vx_inj : ∀ (ls ks : List Nat), (∀ c ∈ ls, 1 ≤ c ∧ c ≤ 26) → (∀ c ∈ ks, 1 ≤ c ∧ c ≤ 26) → vx ls = vx ks → ls = ks := by
  intro ls
  induction ls with
  | nil =>
    intro ks _ h2 e
    cases ks with
    | nil => rfl
    | cons c k =>
      have := h2 c List.mem_cons_self
      have e : 0 = c + 32 * vx k := e
      omega
  | cons c l ih =>
    intro ks h1 h2 e
    have hc := h1 c List.mem_cons_self
    cases ks with
    | nil =>
      have e : c + 32 * vx l = 0 := e
      omega
    | cons d k =>
      have hd := h2 d List.mem_cons_self
      have e : c + 32 * vx l = d + 32 * vx k := e
      have e1 : c = d := by omega
      have e2 : vx l = vx k := by omega
      rw [e1, ih k (fun x hx => h1 x (List.mem_cons_of_mem _ hx)) (fun x hx => h2 x (List.mem_cons_of_mem _ hx)) e2]
theorem vb_inj : ∀ (ls ks : List Nat), (∀ c ∈ ls, 1 ≤ c ∧ c ≤ 26) → (∀ c ∈ ks, 1 ≤ c ∧ c ≤ 26) → vb ls = vb ks → ls = ks := by
  intro ls
  induction ls with
  | nil =>
    intro ks _ h2 e
    cases ks with
    | nil => rfl
    | cons c k =>
      have := h2 c List.mem_cons_self
      have e : 0 = c + 96 + 256 * vb k := e
      omega
  | cons c l ih =>
    intro ks h1 h2 e
    have hc := h1 c List.mem_cons_self
    cases ks with
    | nil =>
      have e : c + 96 + 256 * vb l = 0 := e
      omega
    | cons d k =>
      have hd := h2 d List.mem_cons_self
      have e : c + 96 + 256 * vb l = d + 96 + 256 * vb k := e
      have e1 : c = d := by omega
      have e2 : vb l = vb k := by omega
      rw [e1, ih k (fun x hx => h1 x (List.mem_cons_of_mem _ hx)) (fun x hx => h2 x (List.mem_cons_of_mem _ hx)) e2]
theorem NameEq_nat {x m : Int} (h : NameEq x m) : ∃ ls : List Nat, ls.length ≤ 6 ∧ 1 ≤ ls.length ∧ (∀ c ∈ ls, 1 ≤ c ∧ c ≤ 26) ∧ x = ((vx ls : Nat) : Int) ∧ m = ((vb ls.reverse : Nat) : Int) := by
  obtain ⟨ls, h1, h2, h3, h4, h5⟩ := h
  rw [vx_eq] at h4
  refine ⟨ls, h1, h2, h3, h4, ?_⟩
  rw [h5, ← vb_eq, List.foldr_reverse]
theorem NameEq_iff {x m x' m' : Int} (h : NameEq x m) (h' : NameEq x' m') : x = x' ↔ m = m' := by
  obtain ⟨ls, -, -, h3, rfl, rfl⟩ := NameEq_nat h
  obtain ⟨ks, -, -, k3, rfl, rfl⟩ := NameEq_nat h'
  refine ⟨fun e => ?_, fun e => ?_⟩
  · have := vx_inj ls ks h3 k3 (by omega)
    rw [this]
  · have := vb_inj ls.reverse ks.reverse (fun c hc => h3 c (List.mem_reverse.mp hc)) (fun c hc => k3 c (List.mem_reverse.mp hc)) (by omega)
    rw [List.reverse_inj.mp this]
theorem NameEq_rng {x m : Int} (h : NameEq x m) : 0 ≤ x ∧ x < 1073741824 ∧ 0 ≤ m ∧ m < 281474976710656 := by
  obtain ⟨ls, h1, h2, h3, rfl, rfl⟩ := NameEq_nat h
  have bx := vx_lt ls h3
  have bb := vb_lt ls.reverse (fun c hc => h3 c (List.mem_reverse.mp hc))
  rw [List.length_reverse] at bb
  have px := pow_le6 (b := 32) (by omega) h1
  have pb := pow_le6 (b := 256) (by omega) h1
  have e32 : (32 : Nat) ^ 6 = 1073741824 := by decide +kernel
  have e256 : (256 : Nat) ^ 6 = 281474976710656 := by decide +kernel
  omega
