/-! THE PURE PART: town: the reference reads a token ahead -/
section AH2
variable {T : Nat → Int} {S : Nat} {M : Mem}
/-- as far as the token's first byte -/
theorem ahead_to (hT : Tp T S) (h1 : M 1 = T) (h2 : M 0 2 = (S : Int)) {e a : Nat} (h5 : M 0 5 = (e : Int)) (he : e ≤ a) (haS : a ≤ S) (hb : ∀ p, e ≤ p → p < a → blk (T p)) (hstop : a = S ∨ ¬ blk (T a)) :
    ∃ M0, M0 = upM (upM (upM (upM M 0 4 (a : Int)) 0 5 (a : Int)) 0 3 0) 0 12 (-1) ∧ FrA M M0 ∧ (a = S → m_ahead M = some M0) ∧
      (a < S → m_ahead M = (if ltr (T a) ∨ dgt (T a) then m_ahead_B98 (a : Int) (if ltr (T a) then 1 else 0) (if dgt (T a) then 1 else 0) M0 else m_ahead_B135 (a : Int) 0 0 M0)) := by
  obtain ⟨M0, hM0⟩ : ∃ M0, M0 = upM (upM (upM (upM M 0 4 (a : Int)) 0 5 (a : Int)) 0 3 0) 0 12 (-1) := ⟨_, rfl⟩
  have hS := hT.1
  have l := (skip_loop hT h1 h2 haS hstop (a - e) e FUEL rfl he (by unfold FUEL; omega) hb).1
  have m01 : M0 1 = T := by rw [hM0, upM_row (by omega), upM_row (by omega), upM_row (by omega), upM_row (by omega)]; exact h1
  have m02 : M0 0 2 = (S : Int) := by rw [hM0]; simp (disch := omega) only [up_i]; exact h2
  refine ⟨M0, hM0, ⟨fun q hq => by rw [hM0, upM_row hq, upM_row hq, upM_row hq, upM_row hq], fun i g1 g2 g3 g4 g5 g6 => by rw [hM0, up_i g6, up_i g1, up_i g3, up_i g2]⟩, fun hz => ?_, fun hz => ?_⟩
  · unfold m_ahead
    dsimp only [lt]
    rw [h5, l, bnd_some, ← hM0, m02, w32_eq (x := (a : Int)) (by omega) (by omega), w32_eq (x := (S : Int)) (by omega) (by omega), if_neg (by omega)]
  · have hbt := hT.2 a hz
    have w1 : w32 1 = 1 := w32_eq (by omega) (by omega)
    unfold m_ahead chk
    dsimp only [lt]
    rw [h5, l, bnd_some, ← hM0, m02, w32_eq (x := (a : Int)) (by omega) (by omega), w32_eq (x := (S : Int)) (by omega) (by omega), if_pos (by omega), if_pos (by omega), m01, Int.toNat_natCast, m_ltr hbt, bnd_some, if_pos (by omega), m_dgt hbt, bnd_some, b2i_d, b2i_d]
    by_cases z : ltr (T a)
    · rw [if_pos z, w1, if_pos (by omega), if_pos (Or.inl z)]
    · rw [if_neg z, w32_0, if_neg (by omega)]
      by_cases y : dgt (T a)
      · rw [if_pos y, w1, if_neg (by omega), if_pos (Or.inr y)]
      · rw [if_neg y, w32_0, if_pos rfl, if_neg (fun x => by rcases x with x | x; exact z x; exact y x)]
/-- what stands ahead of a word or number -/
theorem ahead_98 {S a : Nat} {v2 v3 : Int} {M0 : Mem} (hT : Tp T S) (haS : a < S) (h1 : M0 1 = T) (h12 : M0 0 12 = -1) : ∃ M1, m_ahead_B98 (a : Int) v2 v3 M0 = m_ahead_B135 (a : Int) v2 v3 M1 ∧ M1 0 12 = (if adj T a then (a : Int) else -1) ∧ (∀ q, q ≠ 0 → M1 q = M0 q) ∧ (∀ i, i ≠ 12 → M1 0 i = M0 0 i) := by
  have hS := hT.1
  by_cases h0 : a = 0
  · refine ⟨M0, ?_, by rw [if_neg (fun q => by have := q.1; omega)]; exact h12, fun _ _ => rfl, fun _ _ => rfl⟩
    unfold m_ahead_B98
    rw [w32_eq (x := (a : Int)) (by omega) (by omega), if_pos (by omega)]
  · have hbt := hT.2 (a - 1) (by omega)
    have e1 : ((a : Int) - 1).toNat = a - 1 := by omega
    have hlt : 0 ≤ (a : Int) - 1 ∧ (a : Int) - 1 < 1800 := by omega
    by_cases z : ltr (T (a - 1)) ∨ dgt (T (a - 1))
    · refine ⟨upM M0 0 12 (a : Int), ?_, by rw [up_e, if_pos ⟨by omega, z⟩], fun q hq => upM_row hq, fun i hi => up_i hi⟩
      unfold m_ahead_B98 m_ahead_B130 chk
      dsimp only [lt]
      rw [w32_eq (x := (a : Int)) (by omega) (by omega), if_neg (by omega), if_pos hlt, h1, e1, m_ltr hbt, bnd_some, ifd, if_pos hlt, m_dgt hbt, bnd_some, ifd]
      by_cases y : ltr (T (a - 1))
      · rw [if_pos y]
      · rw [if_neg y, if_pos (by rcases z with x | x; exact absurd x y; exact x)]
    · refine ⟨M0, ?_, by rw [if_neg (fun q => z q.2)]; exact h12, fun _ _ => rfl, fun _ _ => rfl⟩
      unfold m_ahead_B98 chk
      rw [w32_eq (x := (a : Int)) (by omega) (by omega), if_neg (by omega), if_pos hlt, h1, e1, m_ltr hbt, bnd_some, ifd, if_pos hlt, m_dgt hbt, bnd_some, ifd, if_neg (fun q => z (Or.inl q)), if_neg (fun q => z (Or.inr q))]
theorem ahead_sign (hT : Tp T S) (h1 : M 1 = T) (h2 : M 0 2 = (S : Int)) {e a : Nat} (h5 : M 0 5 = (e : Int)) (he : e ≤ a) (haS : a < S) (hb : ∀ p, e ≤ p → p < a → blk (T p)) (hstop : ¬ blk (T a)) (hl : ¬ ltr (T a)) (hd : ¬ dgt (T a)) :
    ∃ M1, m_ahead M = some M1 ∧ FrA M M1 ∧ M1 0 3 = 3 ∧ M1 0 4 = (a : Int) ∧ M1 0 5 = ((a + 1 : Nat) : Int) ∧ M1 0 6 = T a ∧ M1 0 12 = -1 := by
  obtain ⟨M0, hM0, f0, -, k⟩ := ahead_to hT h1 h2 h5 he (by omega) hb (Or.inr hstop)
  have hS := hT.1
  have m01 : M0 1 = T := by rw [f0.1 1 (by omega)]; exact h1
  obtain ⟨M1, hM1⟩ : ∃ M1, M1 = upM (upM (upM (upM (upM M0 0 6 0) 0 7 0) 0 3 3) 0 5 ((a : Int) + 1)) 0 6 (T a) := ⟨_, rfl⟩
  refine ⟨M1, ?_, ⟨fun q hq => ?_, fun i g1 g2 g3 g4 g5 g6 => ?_⟩, ?_, ?_, ?_, ?_, ?_⟩
  · rw [k haS, if_neg (fun x => by rcases x with x | x; exact hl x; exact hd x)]
    unfold m_ahead_B135 chk
    dsimp only [lt]
    rw [w32_0, if_neg (by omega), if_neg (by omega), if_pos (by omega), upM_row (by omega), upM_row (by omega), upM_row (by omega), upM_row (by omega), m01, Int.toNat_natCast, hM1]
  · rw [hM1, upM_row hq, upM_row hq, upM_row hq, upM_row hq, upM_row hq]; exact f0.1 q hq
  · rw [hM1, up_i g4, up_i g3, up_i g1, up_i g5, up_i g4]; exact f0.2 i g1 g2 g3 g4 g5 g6
  · rw [hM1]; simp (disch := omega) only [up_i, up_e]
  · rw [hM1, hM0]; simp (disch := omega) only [up_i, up_e]
  · rw [hM1]; simp (disch := omega) only [up_i, up_e]; omega
  · rw [hM1, up_e]
  · rw [hM1, hM0]; simp (disch := omega) only [up_i, up_e]
theorem ahead_end (hT : Tp T S) (h1 : M 1 = T) (h2 : M 0 2 = (S : Int)) {e : Nat} (h5 : M 0 5 = (e : Int)) (he : e ≤ S) (hb : ∀ p, e ≤ p → p < S → blk (T p)) :
    ∃ M1, m_ahead M = some M1 ∧ FrA M M1 ∧ M1 0 3 = 0 ∧ M1 0 4 = (S : Int) ∧ M1 0 5 = (S : Int) ∧ M1 0 12 = -1 := by
  obtain ⟨M0, hM0, f0, k, -⟩ := ahead_to hT h1 h2 h5 he (Nat.le_refl S) hb (Or.inl rfl)
  refine ⟨M0, k rfl, f0, ?_, ?_, ?_, ?_⟩
  · rw [hM0]; simp (disch := omega) only [up_i, up_e]
  · rw [hM0]; simp (disch := omega) only [up_i, up_e]
  · rw [hM0]; simp (disch := omega) only [up_i, up_e]
  · rw [hM0, up_e]
theorem ahead_ltr (hT : Tp T S) (h1 : M 1 = T) (h2 : M 0 2 = (S : Int)) {e a b : Nat} (h5 : M 0 5 = (e : Int)) (he : e ≤ a) (hab : a < b) (hbS : b ≤ S) (hb : ∀ p, e ≤ p → p < a → blk (T p)) (hl : ∀ p, a ≤ p → p < b → ltr (T p)) (hend : b = S ∨ ¬ ltr (T b)) :
    ∃ M1, m_ahead M = some M1 ∧ FrA M M1 ∧ M1 0 3 = 1 ∧ M1 0 4 = (a : Int) ∧ M1 0 5 = (b : Int) ∧ M1 0 6 = 0 ∧ M1 0 7 = wv (lsT T a (min (b - a) 6)) ∧ M1 0 12 = lexW T a (b - a) 6 := by
  have hla := hl a (by omega) hab
  obtain ⟨M0, hM0, f0, -, k⟩ := ahead_to hT h1 h2 h5 he (by omega) hb (Or.inr (by unfold blk; unfold ltr at hla; omega))
  have hS := hT.1
  have m01 : M0 1 = T := by rw [f0.1 1 (by omega)]; exact h1
  have m012 : M0 0 12 = -1 := by rw [hM0, up_e]
  obtain ⟨Ma, a1, a2, a3, a4⟩ := ahead_98 (S := S) (v2 := 1) (v3 := 0) hT (Nat.lt_of_lt_of_le hab hbS) m01 m012
  obtain ⟨Mb, hMb⟩ : ∃ Mb, Mb = upM (upM (upM (upM (upM Ma 0 6 0) 0 7 0) 0 3 3) 0 5 ((a : Int) + 1)) 0 3 1 := ⟨_, rfl⟩
  have mb : ∀ q, q ≠ 0 → Mb q = M0 q := fun q hq => by rw [hMb, upM_row hq, upM_row hq, upM_row hq, upM_row hq, upM_row hq]; exact a3 q hq
  have mb0 : ∀ i, i ≠ 3 → i ≠ 5 → i ≠ 6 → i ≠ 7 → Mb 0 i = Ma 0 i := fun i g1 g2 g3 g4 => by rw [hMb, up_i g1, up_i g2, up_i g1, up_i g4, up_i g3]
  have e2 : Mb 0 2 = (S : Int) := by rw [mb0 2 (by omega) (by omega) (by omega) (by omega), a4 2 (by omega), f0.2 2 (by omega) (by omega) (by omega) (by omega) (by omega) (by omega)]; exact h2
  have e7 : Mb 0 7 = wv (lsT T a (min 0 6)) := by rw [hMb]; simp (disch := omega) only [up_i, up_e]; rfl
  have e12 : Mb 0 12 = lexW T a 0 6 := by rw [mb0 12 (by omega) (by omega) (by omega) (by omega), a2]; unfold lexW; split; rfl; rw [if_neg (by omega)]
  obtain ⟨Mc, c1, c2, c3, c4, c5⟩ := run_ltr hT hbS hend (b - (a + 0)) 0 FUEL Mb rfl (by omega) (by unfold FUEL; omega) hl (by rw [mb 1 (by omega)]; exact m01) e2 e7 e12
  have c1 : itr3 (m_ahead_L204 1 0 6) FUEL (a : Int) 0 Mb = some ((b : Int), ((b - a : Nat) : Int), Mc) := c1
  have w1 : w32 1 = 1 := w32_eq (by omega) (by omega)
  refine ⟨upM Mc 0 5 (b : Int), ?_, ⟨fun q hq => ?_, fun i g1 g2 g3 g4 g5 g6 => ?_⟩, ?_, ?_, up_e, ?_, ?_, ?_⟩
  · have hnd : ¬ dgt (T a) := by unfold dgt; unfold ltr at hla; omega
    rw [k (by omega), if_pos (Or.inl hla), if_pos hla, if_neg hnd, a1]
    unfold m_ahead_B135 m_ahead_B176 m_ahead_B186 m_ahead_B199
    dsimp only [lt]
    rw [w1, if_pos (by omega), if_neg (by omega), if_neg (by omega), ← hMb, c1, bnd_some]
  · rw [upM_row hq, c4 q hq, mb q hq]; exact f0.1 q hq
  · rw [up_i g3, c5 i g5 g6, mb0 i g1 g3 g4 g5, a4 i g6]; exact f0.2 i g1 g2 g3 g4 g5 g6
  · rw [up_i (by omega), c5 3 (by omega) (by omega), hMb, up_e]
  · rw [up_i (by omega), c5 4 (by omega) (by omega), mb0 4 (by omega) (by omega) (by omega) (by omega), a4 4 (by omega), hM0]; simp (disch := omega) only [up_i, up_e]
  · rw [up_i (by omega), c5 6 (by omega) (by omega), hMb]; simp (disch := omega) only [up_i, up_e]
  · rw [up_i (by omega)]; exact c2
  · rw [up_i (by omega)]; exact c3
theorem ahead_dgt (hT : Tp T S) (h1 : M 1 = T) (h2 : M 0 2 = (S : Int)) {e a b : Nat} (h5 : M 0 5 = (e : Int)) (he : e ≤ a) (hab : a < b) (hbS : b ≤ S) (hb : ∀ p, e ≤ p → p < a → blk (T p)) (hl : ∀ p, a ≤ p → p < b → dgt (T p)) (hend : b = S ∨ ¬ dgt (T b)) :
    ∃ M1, m_ahead M = some M1 ∧ FrA M M1 ∧ M1 0 3 = 2 ∧ M1 0 4 = (a : Int) ∧ M1 0 5 = (b : Int) ∧ M1 0 6 = nT T a (min (b - a) 4) ∧ M1 0 12 = lexW T a (b - a) 4 := by
  have hla := hl a (by omega) hab
  obtain ⟨M0, hM0, f0, -, k⟩ := ahead_to hT h1 h2 h5 he (by omega) hb (Or.inr (by unfold blk; unfold dgt at hla; omega))
  have hS := hT.1
  have m01 : M0 1 = T := by rw [f0.1 1 (by omega)]; exact h1
  have m012 : M0 0 12 = -1 := by rw [hM0, up_e]
  obtain ⟨Ma, a1, a2, a3, a4⟩ := ahead_98 (S := S) (v2 := 0) (v3 := 1) hT (Nat.lt_of_lt_of_le hab hbS) m01 m012
  obtain ⟨Mb, hMb⟩ : ∃ Mb, Mb = upM (upM (upM (upM (upM Ma 0 6 0) 0 7 0) 0 3 3) 0 5 ((a : Int) + 1)) 0 3 2 := ⟨_, rfl⟩
  have mb : ∀ q, q ≠ 0 → Mb q = M0 q := fun q hq => by rw [hMb, upM_row hq, upM_row hq, upM_row hq, upM_row hq, upM_row hq]; exact a3 q hq
  have mb0 : ∀ i, i ≠ 3 → i ≠ 5 → i ≠ 6 → i ≠ 7 → Mb 0 i = Ma 0 i := fun i g1 g2 g3 g4 => by rw [hMb, up_i g1, up_i g2, up_i g1, up_i g4, up_i g3]
  have e2 : Mb 0 2 = (S : Int) := by rw [mb0 2 (by omega) (by omega) (by omega) (by omega), a4 2 (by omega), f0.2 2 (by omega) (by omega) (by omega) (by omega) (by omega) (by omega)]; exact h2
  have e6 : Mb 0 6 = nT T a (min 0 4) := by rw [hMb]; simp (disch := omega) only [up_i, up_e]; rfl
  have e12 : Mb 0 12 = lexW T a 0 4 := by rw [mb0 12 (by omega) (by omega) (by omega) (by omega), a2]; unfold lexW; split; rfl; rw [if_neg (by omega)]
  obtain ⟨Mc, c1, c2, c3, c4, c5⟩ := run_dgt hT hbS hend (b - (a + 0)) 0 FUEL Mb rfl (by omega) (by unfold FUEL; omega) hl (by rw [mb 1 (by omega)]; exact m01) e2 e6 e12
  have c1 : itr3 (m_ahead_L204 0 1 4) FUEL (a : Int) 0 Mb = some ((b : Int), ((b - a : Nat) : Int), Mc) := c1
  have w1 : w32 1 = 1 := w32_eq (by omega) (by omega)
  refine ⟨upM Mc 0 5 (b : Int), ?_, ⟨fun q hq => ?_, fun i g1 g2 g3 g4 g5 g6 => ?_⟩, ?_, ?_, up_e, ?_, ?_⟩
  · have hnd : ¬ ltr (T a) := by unfold ltr; unfold dgt at hla; omega
    rw [k (by omega), if_pos (Or.inr hla), if_neg hnd, if_pos hla, a1]
    unfold m_ahead_B135 m_ahead_B176 m_ahead_B186 m_ahead_B199
    dsimp only [lt]
    rw [w1, w32_0, if_neg (by omega), if_pos (by omega), if_pos rfl, if_pos rfl, ← hMb, c1, bnd_some]
  · rw [upM_row hq, c4 q hq, mb q hq]; exact f0.1 q hq
  · rw [up_i g3, c5 i g4 g6, mb0 i g1 g3 g4 g5, a4 i g6]; exact f0.2 i g1 g2 g3 g4 g5 g6
  · rw [up_i (by omega), c5 3 (by omega) (by omega), hMb, up_e]
  · rw [up_i (by omega), c5 4 (by omega) (by omega), mb0 4 (by omega) (by omega) (by omega) (by omega), a4 4 (by omega), hM0]; simp (disch := omega) only [up_i, up_e]
  · rw [up_i (by omega)]; exact c2
  · rw [up_i (by omega)]; exact c3
end AH2
/-- a run's end -/
theorem run_end {T : Nat → Int} {S : Nat} (p : Int → Prop) (hp : ∀ c, p c ∨ ¬ p c) : ∀ (d a : Nat), S - a = d → a < S → p (T a) → ∃ b, a < b ∧ b ≤ S ∧ (∀ q, a ≤ q → q < b → p (T q)) ∧ (b = S ∨ ¬ p (T b)) := by
  intro d
  induction d with
  | zero => intro a h1 h2; omega
  | succ d ih =>
    intro a h1 h2 h3
    by_cases e : a + 1 = S
    · exact ⟨a + 1, by omega, by omega, fun q g1 g2 => by rw [show q = a by omega]; exact h3, Or.inl e⟩
    · rcases hp (T (a + 1)) with h | h
      · obtain ⟨b, b1, b2, b3, b4⟩ := ih (a + 1) (by omega) (by omega) h
        refine ⟨b, by omega, b2, fun q g1 g2 => ?_, b4⟩
        by_cases z : q = a
        · rw [z]; exact h3
        · exact b3 q (by omega) g2
      · exact ⟨a + 1, by omega, by omega, fun q g1 g2 => by rw [show q = a by omega]; exact h3, Or.inr h⟩
/-- the own words in the class's packing -/
def lsW : Nat → List Nat
  | 0 => [22, 15, 9, 3, 5]
  | 1 => [16, 5, 18, 19, 15, 14]
  | 2 => [23, 1, 14, 20, 19]
  | 3 => [16, 9, 3, 11, 19]
  | 4 => [13, 9, 24, 5, 19]
  | 5 => [8, 21, 19, 8]
  | 6 => [19, 20, 18, 15, 11, 5]
  | 7 => [16, 9, 20, 3, 8]
  | 8 => [3, 1, 12, 13]
  | 9 => [1, 20]
  | 10 => [12, 15, 14, 7]
  | 11 => [20, 15, 14, 5]
  | 12 => [23, 1, 9, 20, 19]
  | 13 => [13, 9, 14, 21, 20, 5]
  | 14 => [12, 15, 1, 4]
  | 15 => [2, 21, 19, 25]
  | 16 => [9, 6]
  | 17 => [15, 18]
  | 18 => [1, 14, 4]
  | 19 => [14, 15, 20]
  | 20 => [1, 12, 12]
  | 21 => [13, 9, 14]
  | 22 => [13, 1, 24]
  | _ => [1]
def xW (t : Nat) : Int := ((vx (lsW t) : Nat) : Int)
theorem lsW_ok : ∀ t, t < 23 → (lsW t).length ≤ 6 ∧ 1 ≤ (lsW t).length ∧ (∀ c ∈ lsW t, 1 ≤ c ∧ c ≤ 26) ∧ ownW t = (lsW t).foldl (fun (a : Int) (c : Nat) => 256 * a + ((c : Int) + 96)) 0 := by decide +kernel
theorem xW_name (t : Nat) (ht : t < 23) : NameEq (xW t) (ownW t) := by
  obtain ⟨h1, h2, h3, h4⟩ := lsW_ok t ht
  exact ⟨lsW t, h1, h2, h3, (vx_eq (lsW t)).symm, h4⟩
theorem kind_in (M : Mem) (v0 : Int) : ∀ t : Nat, t < 23 → itr2 (x_Word_kindOf_L12 v0 (t : Int) M) FUEL 0 0 = some (xW t, 6) := by
  have key : ∀ t : Nat, t < 23 → itr2 (x_Word_kindOf_L12 0 (t : Int) (fun _ _ => 0)) FUEL 0 0 = some (xW t, 6) := by decide +kernel
  intro t ht
  exact key t ht
theorem x_kindOf {V : Int} {X : Mem} (hV : 0 ≤ V ∧ V < 1073741824) : ∃ K : Int, x_Word_kindOf V X = some K ∧ 0 ≤ K ∧ K ≤ 23 ∧ ∀ t : Nat, t < 23 → (K = (t : Int) ↔ V = xW t) := by
  have xr : ∀ t, t < 23 → 0 ≤ xW t ∧ xW t < 1073741824 := fun t ht => by
    have := NameEq_rng (xW_name t ht); omega
  have inj : ∀ t u, t < 23 → u < 23 → xW t = xW u → t = u := fun t u ht hu e => ownW_inj t ht u hu ((NameEq_iff (xW_name t ht) (xW_name u hu)).mp e)
  have loop : ∀ d k N, 23 - k = d → k ≤ 23 → d < N → (∀ t, t < k → V ≠ xW t) → ∃ r, itr1 (x_Word_kindOf_L2 V X) N (k : Int) = some r ∧ ((r = .inr 23 ∧ ∀ t, t < 23 → V ≠ xW t) ∨ (∃ t : Nat, t < 23 ∧ r = .inl (t : Int) ∧ V = xW t)) := by
    intro d
    induction d with
    | zero =>
      intro k N h1 h2 h3 h4
      obtain ⟨G, rfl⟩ : ∃ G, N = G + 1 := ⟨N - 1, by omega⟩
      have e : k = 23 := by omega
      subst e
      refine ⟨.inr 23, ?_, Or.inl ⟨rfl, h4⟩⟩
      show x_Word_kindOf_L2 V X (itr1 (x_Word_kindOf_L2 V X) G) ((23 : Nat) : Int) = _
      unfold x_Word_kindOf_L2
      rw [if_pos (by rw [w32_eq (by omega) (by omega), w32_eq (by omega) (by omega)]; omega)]
      rfl
    | succ d ih =>
      intro k N h1 h2 h3 h4
      obtain ⟨G, rfl⟩ : ∃ G, N = G + 1 := ⟨N - 1, by omega⟩
      have hk := kind_in X V k (by omega)
      have hkr := xr k (by omega)
      by_cases e : V = xW k
      · refine ⟨.inl (k : Int), ?_, Or.inr ⟨k, by omega, rfl, e⟩⟩
        show x_Word_kindOf_L2 V X (itr1 (x_Word_kindOf_L2 V X) G) (k : Int) = _
        unfold x_Word_kindOf_L2
        rw [w32_eq (x := (k : Int)) (by omega) (by omega), w32_eq (x := (23 : Int)) (by omega) (by omega), if_neg (by omega), hk, bnd_some]
        show (if ¬ w32 (xW k) = w32 V then _ else _) = _
        rw [e, if_neg (fun z => z rfl)]
      · obtain ⟨r, r1, r2⟩ := ih (k + 1) G (by omega) (by omega) (by omega) (fun t ht => by
          by_cases z : t = k
          · rw [z]; exact e
          · exact h4 t (by omega))
        refine ⟨r, ?_, r2⟩
        obtain ⟨rec, hrec⟩ : ∃ r, r = itr1 (x_Word_kindOf_L2 V X) G := ⟨_, rfl⟩
        show x_Word_kindOf_L2 V X (itr1 (x_Word_kindOf_L2 V X) G) (k : Int) = _
        rw [← hrec] at r1 ⊢
        unfold x_Word_kindOf_L2
        dsimp only [lt]
        rw [w32_eq (x := (k : Int)) (by omega) (by omega), w32_eq (x := (23 : Int)) (by omega) (by omega), if_neg (by omega), hk, bnd_some]
        show (if ¬ w32 (xW k) = w32 V then rec ((k : Int) + 1) else _) = _
        rw [w32_eq (x := xW k) (by omega) (by omega), w32_eq (x := V) (by omega) (by omega), if_pos (fun z => e z.symm), show (k : Int) + 1 = ((k + 1 : Nat) : Int) by omega]
        exact r1
  obtain ⟨r, r1, r2⟩ := loop 23 0 FUEL (by omega) (by omega) (by unfold FUEL; omega) (fun t ht => by omega)
  have r1 : itr1 (x_Word_kindOf_L2 V X) FUEL 0 = some r := r1
  rcases r2 with ⟨rfl, h⟩ | ⟨t, ht, rfl, h⟩
  · refine ⟨23, by unfold x_Word_kindOf; rw [r1, bnd_some], by omega, by omega, fun u hu => ⟨fun z => by omega, fun z => absurd z (h u hu)⟩⟩
  · refine ⟨(t : Int), by unfold x_Word_kindOf; rw [r1, bnd_some], by omega, by omega, fun u hu => ⟨fun z => by rw [show u = t by omega]; exact h, fun z => by rw [inj t u ht hu (by rw [← h]; exact z)]⟩⟩
