/-! THE PURE PART: town: the tokens of both held together -/
section TOKS
variable {T : Nat → Int} {S : Nat}
theorem tk_pos {e a : Nat} {M : Mem} (hT : Tp T S) (he : e ≤ a) (haS : a < S) (hb : ∀ p, e ≤ p → p < a → blk (T p)) (hstop : ¬ blk (T a)) (h1 : M 1 = T) (h2 : M 0 2 = (S : Int)) (x1 : Int) : itr1 (m_finishes_L17 x1 M) FUEL (e : Int) = some (a : Int) := by
  have hS := hT.1
  exact (skip_loop hT h1 h2 (by omega) (Or.inr hstop) (a - e) e FUEL rfl he (by unfold FUEL; omega) hb).2 x1
theorem tk_step {e e' : Nat} {K P V : Int} (hT : Tp T S) (h : Tk T S e K P V e') :
    (∀ M : Mem, M 1 = T → M 0 2 = (S : Int) → M 0 5 = (e : Int) → ∃ M1, m_ahead M = some M1 ∧ TokM K P V M1 ∧ M1 0 5 = (e' : Int) ∧ FrA M M1) ∧ (0 ≤ P ∧ P < (S : Int) ∧ ∀ (M : Mem) (x1 : Int), M 1 = T → M 0 2 = (S : Int) → itr1 (m_finishes_L17 x1 M) FUEL (e : Int) = some P) ∧ (0 ≤ K ∧ K ≤ 255 ∧ 0 ≤ V ∧ V < 2147483648 ∧ K ≠ 25 ∧ K ≠ 26) ∧ e' ≤ S := by
  have hS := hT.1
  obtain ⟨a, a1, a2, rfl, a4, a5, a6⟩ := h
  have hbt := hT.2 a (by omega)
  rcases a6 with ⟨b1, rfl, rfl, rfl⟩ | ⟨b1, b2, b3, b4, rfl, k1, k2, k3⟩ | ⟨b1, b2, b3, b4, rfl, rfl⟩
  · have b1' := b1
    unfold signK at b1'
    have hnb : ¬ blk (T a) := by unfold blk; omega
    refine ⟨fun M m1 m2 m5 => ?_, ⟨by omega, by omega, fun M x1 m1 m2 => tk_pos hT a1 (by omega) a2 hnb m1 m2 x1⟩, by omega, a5⟩
    obtain ⟨M1, c1, c2, c3, c4, c5, c6, c7⟩ := ahead_sign hT m1 m2 m5 a1 (by omega) a2 hnb (by unfold ltr; omega) (by unfold dgt; omega)
    exact ⟨M1, c1, Or.inr ⟨c7, c4, by omega, by omega, Or.inr (Or.inr (Or.inl ⟨b1, c3, c6⟩))⟩, c5, c2⟩
  · have hl := b3 a (by omega) a4
    have hnb : ¬ blk (T a) := by unfold blk; unfold ltr at hl; omega
    have ho := lsT_ok (T := T) (a := a) (n := e' - a) (fun p g1 g2 => b3 p g1 (by omega))
    have hn : NameEq ((vx (lsT T a (e' - a)) : Nat) : Int) (wv (lsT T a (e' - a))) := ⟨lsT T a (e' - a), by rw [lsT_len]; omega, by rw [lsT_len]; omega, ho, (vx_eq _).symm, rfl⟩
    have hr := NameEq_rng hn
    refine ⟨fun M m1 m2 m5 => ?_, ⟨by omega, by omega, fun M x1 m1 m2 => tk_pos hT a1 (by omega) a2 hnb m1 m2 x1⟩, by omega, a5⟩
    obtain ⟨M1, c1, c2, c3, c4, c5, c6, c7, c8⟩ := ahead_ltr hT m1 m2 m5 a1 a4 a5 a2 b3 b2
    have e6 : min (e' - a) 6 = e' - a := by omega
    rw [e6] at c7
    have e12 : M1 0 12 = -1 := by rw [c8]; unfold lexW; rw [if_neg b1, if_neg (by omega)]
    refine ⟨M1, c1, Or.inr ⟨e12, c4, by omega, by omega, Or.inr (Or.inr (Or.inr (Or.inr ⟨k1, k2, c3, c6, by rw [c7]; exact hn, by rw [c7]; omega, by rw [c7]; omega, fun t ht => ?_⟩)))⟩, c5, c2⟩
    rw [c7, k3 t ht]
    exact NameEq_iff hn (xW_name t ht)
  · have hd := b3 a (by omega) a4
    have hnb : ¬ blk (T a) := by unfold blk; unfold dgt at hd; omega
    have hr := nT_rng (T := T) (a := a) (e' - a) (by omega) (fun p g1 g2 => b3 p g1 (by omega))
    have h10 : (10 : Int) ^ (e' - a) ≤ 10000 := by
      have : ∀ n : Nat, n < 5 → (10 : Int) ^ n ≤ 10000 := by decide
      exact this (e' - a) (by omega)
    refine ⟨fun M m1 m2 m5 => ?_, ⟨by omega, by omega, fun M x1 m1 m2 => tk_pos hT a1 (by omega) a2 hnb m1 m2 x1⟩, by omega, a5⟩
    obtain ⟨M1, c1, c2, c3, c4, c5, c6, c7⟩ := ahead_dgt hT m1 m2 m5 a1 a4 a5 a2 b3 b2
    have e6 : min (e' - a) 4 = e' - a := by omega
    rw [e6] at c6
    have e12 : M1 0 12 = -1 := by rw [c7]; unfold lexW; rw [if_neg b1, if_neg (by omega)]
    exact ⟨M1, c1, Or.inr ⟨e12, c4, by omega, by omega, Or.inr (Or.inr (Or.inr (Or.inl ⟨rfl, c3, c6, by omega, by omega⟩)))⟩, c5, c2⟩
theorem last_step {e : Nat} {K P V : Int} (hT : Tp T S) (h : LastT T S e K P V) : ∃ e' : Nat, e' ≤ S ∧
    (∀ M : Mem, M 1 = T → M 0 2 = (S : Int) → M 0 5 = (e : Int) → ∃ M1, m_ahead M = some M1 ∧ TokM K P V M1 ∧ M1 0 5 = (e' : Int) ∧ FrA M M1) ∧ (0 ≤ (if K = 26 then V else P) ∧ (if K = 26 then V else P) ≤ 1600 ∧ ((S : Int) ≤ (if K = 26 then V else P) ↔ K = 25) ∧ ∀ (M : Mem) (x1 : Int), M 1 = T → M 0 2 = (S : Int) → itr1 (m_finishes_L17 x1 M) FUEL (e : Int) = some (if K = 26 then V else P)) ∧ (K = 25 ∨ K = 26) ∧ (0 ≤ P ∧ P ≤ 1600 ∧ 0 ≤ V ∧ V < 2147483648) := by
  have hS := hT.1
  rcases h with ⟨rfl, rfl, a3, a4, rfl⟩ | ⟨rfl, a, a1, a2, a3, a4, a5, a6, a7, rfl, rfl⟩ | ⟨rfl, a1, a2, a3, rfl, rfl⟩ | ⟨rfl, a, a1, a2, a3, rfl, a5⟩
  · refine ⟨S, Nat.le_refl S, fun M m1 m2 m5 => ?_, ⟨by rw [if_neg (by omega)]; omega, by rw [if_neg (by omega)]; omega, by rw [if_neg (by omega)]; omega, fun M x1 m1 m2 => ?_⟩, Or.inl rfl, by omega⟩
    · obtain ⟨M1, c1, c2, c3, c4, c5, c6⟩ := ahead_end hT m1 m2 m5 a3 a4
      exact ⟨M1, c1, Or.inr ⟨c6, c4, by omega, by omega, Or.inl ⟨rfl, c3⟩⟩, c5, c2⟩
    · rw [if_neg (by omega)]
      exact (skip_loop hT m1 m2 (Nat.le_refl S) (Or.inl rfl) (S - e) e FUEL rfl a3 (by unfold FUEL; omega) a4).2 x1
  · have hbt := hT.2 a a2
    refine ⟨a + 1, by omega, fun M m1 m2 m5 => ?_, ⟨by rw [if_pos rfl]; omega, by rw [if_pos rfl]; omega, by rw [if_pos rfl]; omega, fun M x1 m1 m2 => by rw [if_pos rfl]; exact tk_pos hT a1 a2 a3 a4 m1 m2 x1⟩, Or.inr rfl, by omega⟩
    obtain ⟨M1, c1, c2, c3, c4, c5, c6, c7⟩ := ahead_sign hT m1 m2 m5 a1 a2 a3 a4 a5 a6
    exact ⟨M1, c1, Or.inr ⟨c7, c4, by omega, by omega, Or.inr (Or.inl ⟨rfl, c3, by omega, by omega, by rw [c6]; exact a7⟩)⟩, c5, c2⟩
  · have hnb : ¬ blk (T e) := by
      unfold blk
      rcases a2 with z | z
      · unfold ltr at z; omega
      · unfold dgt at z; omega
    have pos : ∀ (M : Mem) (x1 : Int), M 1 = T → M 0 2 = (S : Int) → itr1 (m_finishes_L17 x1 M) FUEL (e : Int) = some (if (26 : Int) = 26 then (e : Int) else (e : Int)) := fun M x1 m1 m2 => by rw [if_pos rfl]; exact tk_pos hT (Nat.le_refl e) a1 (fun p g1 g2 => by omega) hnb m1 m2 x1
    have rest : (0 ≤ (if (26 : Int) = 26 then (e : Int) else (e : Int)) ∧ (if (26 : Int) = 26 then (e : Int) else (e : Int)) ≤ 1600 ∧ ((S : Int) ≤ (if (26 : Int) = 26 then (e : Int) else (e : Int)) ↔ (26 : Int) = 25)) := by rw [if_pos rfl]; omega
    rcases a2 with hl | hd
    · obtain ⟨b, b1, b2, b3, b4⟩ := run_end ltr (fun c => Decidable.em _) (S - e) e rfl a1 hl
      refine ⟨b, b2, fun M m1 m2 m5 => ?_, ⟨rest.1, rest.2.1, rest.2.2, pos⟩, Or.inr rfl, by omega⟩
      obtain ⟨M1, c1, c2, c3, c4, c5, c6, c7, c8⟩ := ahead_ltr hT m1 m2 m5 (Nat.le_refl e) b1 b2 (fun p g1 g2 => by omega) b3 b4
      have e12 : M1 0 12 = (e : Int) := by rw [c8]; unfold lexW; rw [if_pos a3]
      exact ⟨M1, c1, Or.inl ⟨rfl, e12, by omega, by omega, Or.inl c3⟩, c5, c2⟩
    · obtain ⟨b, b1, b2, b3, b4⟩ := run_end dgt (fun c => Decidable.em _) (S - e) e rfl a1 hd
      refine ⟨b, b2, fun M m1 m2 m5 => ?_, ⟨rest.1, rest.2.1, rest.2.2, pos⟩, Or.inr rfl, by omega⟩
      obtain ⟨M1, c1, c2, c3, c4, c5, c6, c7⟩ := ahead_dgt hT m1 m2 m5 (Nat.le_refl e) b1 b2 (fun p g1 g2 => by omega) b3 b4
      have e12 : M1 0 12 = (e : Int) := by rw [c7]; unfold lexW; rw [if_pos a3]
      exact ⟨M1, c1, Or.inl ⟨rfl, e12, by omega, by omega, Or.inr c3⟩, c5, c2⟩
  · rcases a5 with ⟨b1, b2, rfl⟩ | ⟨b1, b2, rfl⟩
    · have hl := b2 a (by omega) (by omega)
      have hnb : ¬ blk (T a) := by unfold blk; unfold ltr at hl; omega
      obtain ⟨b, d1, d2, d3, d4⟩ := run_end ltr (fun c => Decidable.em _) (S - a) a rfl (by omega) hl
      have hb7 : a + 7 ≤ b := by
        rcases d4 with z | z
        · omega
        · by_cases y : a + 7 ≤ b
          · exact y
          · exact absurd (b2 b (by omega) (by omega)) z
      refine ⟨b, d2, fun M m1 m2 m5 => ?_, ⟨by rw [if_pos rfl]; omega, by rw [if_pos rfl]; omega, by rw [if_pos rfl]; omega, fun M x1 m1 m2 => by rw [if_pos rfl]; exact tk_pos hT a1 (by omega) a2 hnb m1 m2 x1⟩, Or.inr rfl, by omega⟩
      obtain ⟨M1, c1, c2, c3, c4, c5, c6, c7, c8⟩ := ahead_ltr hT m1 m2 m5 a1 d1 d2 a2 d3 d4
      have e12 : M1 0 12 = ((a + 6 : Nat) : Int) := by rw [c8]; unfold lexW; rw [if_neg a3, if_pos (by omega)]
      exact ⟨M1, c1, Or.inl ⟨rfl, e12, by omega, by omega, Or.inl c3⟩, c5, c2⟩
    · have hd := b2 a (by omega) (by omega)
      have hnb : ¬ blk (T a) := by unfold blk; unfold dgt at hd; omega
      obtain ⟨b, d1, d2, d3, d4⟩ := run_end dgt (fun c => Decidable.em _) (S - a) a rfl (by omega) hd
      have hb7 : a + 5 ≤ b := by
        rcases d4 with z | z
        · omega
        · by_cases y : a + 5 ≤ b
          · exact y
          · exact absurd (b2 b (by omega) (by omega)) z
      refine ⟨b, d2, fun M m1 m2 m5 => ?_, ⟨by rw [if_pos rfl]; omega, by rw [if_pos rfl]; omega, by rw [if_pos rfl]; omega, fun M x1 m1 m2 => by rw [if_pos rfl]; exact tk_pos hT a1 (by omega) a2 hnb m1 m2 x1⟩, Or.inr rfl, by omega⟩
      obtain ⟨M1, c1, c2, c3, c4, c5, c6, c7⟩ := ahead_dgt hT m1 m2 m5 a1 d1 d2 a2 d3 d4
      have e12 : M1 0 12 = ((a + 4 : Nat) : Int) := by rw [c7]; unfold lexW; rw [if_neg a3, if_pos (by omega)]
      exact ⟨M1, c1, Or.inl ⟨rfl, e12, by omega, by omega, Or.inr c3⟩, c5, c2⟩
/-- all that the readers need of the tokens -/
theorem toks_all {X : Mem} (hT : Tp T S) (h : SpE T S X) : ∃ (C : Mem) (cnt : Nat), TokC C cnt ∧ AheadOK C cnt ∧ SkipOK C cnt ∧ X 19 3 = (cnt : Int) ∧ C 0 = X 20 ∧ C 1 = X 21 ∧ C 2 = X 22 ∧ C 3 = T ∧ C 5 0 = (S : Int) ∧
    (∀ M : Mem, M 1 = T → M 0 2 = (S : Int) → M 0 5 = 0 → ∃ M1, m_ahead M = some M1 ∧ TokM (C 0 0) (C 1 0) (C 2 0) M1 ∧ M1 0 5 = C 4 0 ∧ FrA M M1) := by
  have hS := hT.1
  obtain ⟨c, E, h1, h2, ⟨h3, h4⟩, h5, h6⟩ := h
  obtain ⟨e', l1, l2, ⟨l3, l4, l5, l6⟩, l7, l8⟩ := last_step hT h5
  obtain ⟨En, hEn⟩ : ∃ En : Nat → Nat, En = fun t => if t = c + 1 then e' else E t := ⟨_, rfl⟩
  obtain ⟨C, hC⟩ : ∃ C : Mem, C = fun r j => if r = 0 then X 20 j else if r = 1 then X 21 j else if r = 2 then X 22 j else if r = 3 then T j else if r = 4 then (En (j + 1) : Int) else (S : Int) := ⟨_, rfl⟩
  have c0 : C 0 = X 20 := by rw [hC]; rfl
  have c1 : C 1 = X 21 := by rw [hC]; rfl
  have c2 : C 2 = X 22 := by rw [hC]; rfl
  have c3 : C 3 = T := by rw [hC]; rfl
  have c4 : ∀ j, C 4 j = (En (j + 1) : Int) := fun j => by rw [hC]; rfl
  have c5 : C 5 0 = (S : Int) := by rw [hC]; rfl
  have en : ∀ t, t ≠ c + 1 → En t = E t := fun t ht => by rw [hEn]; show (if t = c + 1 then e' else E t) = _; rw [if_neg ht]
  have enl : En (c + 1) = e' := by rw [hEn]; show (if c + 1 = c + 1 then e' else E (c + 1)) = _; rw [if_pos rfl]
  -- a token at a time
  have step : ∀ t, t ≤ c → ∀ M : Mem, M 1 = T → M 0 2 = (S : Int) → M 0 5 = (En t : Int) → ∃ M1, m_ahead M = some M1 ∧ TokM (C 0 t) (C 1 t) (C 2 t) M1 ∧ M1 0 5 = C 4 t ∧ FrA M M1 := by
    intro t ht M m1 m2 m5
    rw [c0, c1, c2, c4]
    rw [en t (by omega)] at m5
    by_cases z : t = c
    · subst z
      rw [enl]
      exact l2 M m1 m2 m5
    · rw [en (t + 1) (by omega)]
      exact (tk_step hT (h4 t (by omega))).1 M m1 m2 m5
  have hcnt : ∀ t, t < c + 1 → E t ≤ S := fun t ht => by
    by_cases z : t = c
    · rw [z]; exact h6
    · by_cases y : t = 0
      · rw [y, h3]; omega
      · have := (tk_step hT (h4 (t - 1) (by omega))).2.2.2
        rw [show t - 1 + 1 = t by omega] at this
        exact this
  refine ⟨C, c + 1, ⟨by omega, by omega, fun j hj => ?_, fun j hj => ?_, ?_⟩, fun j M hj m1 m2 m5 => ?_, ⟨fun j hj => ?_, fun j hj => ?_⟩, h2, c0, c1, c2, c3, c5, fun M m1 m2 m5 => ?_⟩
  · rw [c0, c1, c2]
    by_cases z : j = c
    · subst z; omega
    · obtain ⟨-, ⟨q1, q2, -⟩, q3, -⟩ := tk_step hT (h4 j (by omega))
      omega
  · rw [c0]
    obtain ⟨-, -, q3, -⟩ := tk_step hT (h4 j (by omega))
    exact ⟨q3.2.2.2.2.1, q3.2.2.2.2.2⟩
  · rw [c0, show c + 1 - 1 = c by omega]; exact l7
  · rw [c3] at m1
    rw [c5] at m2
    rw [c4] at m5
    exact step (j + 1) (by omega) M m1 m2 m5
  · rw [c4, c5]
    by_cases z : j = c
    · rw [z, enl]; omega
    · rw [en (j + 1) (by omega)]
      have := hcnt (j + 1) (by omega)
      omega
  · rw [c4, c5, c3, en (j + 1) (by omega)]
    unfold plT
    rw [c0, c1, c2]
    by_cases z : j + 1 = c
    · rw [z]
      exact ⟨l3, l4, l5, fun M x1 m1 m2 => l6 M x1 m1 m2⟩
    · obtain ⟨-, ⟨q1, q2, q4⟩, q3, -⟩ := tk_step hT (h4 (j + 1) (by omega))
      rw [if_neg q3.2.2.2.2.2]
      exact ⟨q1, by omega, by omega, fun M x1 m1 m2 => q4 M x1 m1 m2⟩
  · refine step 0 (by omega) M m1 m2 ?_
    rw [en 0 (by omega), h3, m5]; rfl
end TOKS
