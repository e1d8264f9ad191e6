/-! THE PURE PART: town: letters packed; what the reference reads ahead -/
theorem shl64_8 {n : Nat} (hn : n < 1099511627776) : shl64 (n : Int) 8 = ((n * 256 : Nat) : Int) := by
  unfold shl64
  rw [Int64.ofInt_eq_ofNat (n := n)]
  have k : ((Int32.ofInt 8).toInt64 &&& 63).toBitVec.smod 64 = 8 := by decide +kernel
  have e : Int64.ofNat n <<< ((Int32.ofInt 8).toInt64 &&& 63) = Int64.ofNat (n * 256) := by
    apply Int64.toBitVec_inj.mp
    rw [Int64.toBitVec_shiftLeft, k]
    apply BitVec.eq_of_toNat_eq
    rw [BitVec.shiftLeft_eq', BitVec.toNat_shiftLeft, Nat.shiftLeft_eq]
    show (BitVec.ofNat 64 n).toNat * 2 ^ 8 % 2 ^ 64 = (BitVec.ofNat 64 (n * 256)).toNat
    rw [BitVec.toNat_ofNat, BitVec.toNat_ofNat, Nat.mod_eq_of_lt (a := n) (by omega)]
  rw [e, Int64.toInt_ofNat_of_lt]
  omega
theorem or64_nat {n m : Nat} (hn : n < 9223372036854775808) (hm : m < 9223372036854775808) : or64 (n : Int) (m : Int) = ((n ||| m : Nat) : Int) := by
  unfold or64
  rw [Int64.ofInt_eq_ofNat, Int64.ofInt_eq_ofNat]
  have e : Int64.ofNat n ||| Int64.ofNat m = Int64.ofNat (n ||| m) := by
    apply Int64.toBitVec_inj.mp
    rw [Int64.toBitVec_or]
    exact (BitVec.ofNat_or).symm
  rw [e, Int64.toInt_ofNat_of_lt]
  exact Nat.or_lt_two_pow (n := 63) (by omega) (by omega)
theorem pack64 {n t : Nat} (hn : n < 1099511627776) (ht : t < 256) : or64 (shl64 (n : Int) 8) (w32 (t : Int)) = ((256 * n + t : Nat) : Int) := by
  rw [shl64_8 hn, w32_eq (by omega) (by omega), or64_nat (by omega) (by omega)]
  have : n * 256 ||| t = n * 256 + t := by
    have h := Nat.shiftLeft_add_eq_or_of_lt (i := 8) (b := t) (by omega) n
    rw [Nat.shiftLeft_eq] at h
    exact h.symm
  rw [this]
  omega
theorem shl32_5 : ∀ c : Nat, c < 32 → ∀ s : Nat, s < 6 → shl32 (c : Int) (5 * (s : Int)) = ((c * 32 ^ s : Nat) : Int) := by decide +kernel
theorem pack32 {p c s : Nat} (hc : c < 32) (hs : s < 6) (hp : p < 32 ^ s) : or32 (p : Int) (shl32 (c : Int) (5 * (s : Int))) = ((p + 32 ^ s * c : Nat) : Int) := by
  rw [shl32_5 c hc s hs]
  have p5 : (32 : Nat) ^ s ≤ 32 ^ 5 := Nat.pow_le_pow_right (by omega) (by omega)
  have e5 : (32 : Nat) ^ 5 = 33554432 := by decide +kernel
  have hb : c * 32 ^ s ≤ 31 * 33554432 := Nat.mul_le_mul (by omega) (by omega)
  rw [or32_nat (by omega) (by omega)]
  have e2 : (2 : Nat) ^ (5 * s) = 32 ^ s := by rw [Nat.pow_mul]
  have : p ||| c * 32 ^ s = p + 32 ^ s * c := by
    have h := Nat.shiftLeft_add_eq_or_of_lt (i := 5 * s) (b := p) (by rw [e2]; exact hp) c
    rw [Nat.shiftLeft_eq, e2] at h
    rw [Nat.or_comm, ← h, Nat.mul_comm]
    omega
  rw [this]
abbrev blk (c : Int) : Prop := c = 32 ∨ c = 10
abbrev ltr (c : Int) : Prop := 97 ≤ c ∧ c ≤ 122
abbrev dgt (c : Int) : Prop := 48 ≤ c ∧ c ≤ 57
abbrev adj (T : Nat → Int) (a : Nat) : Prop := 0 < a ∧ (ltr (T (a - 1)) ∨ dgt (T (a - 1)))
def lsT (T : Nat → Int) (a n : Nat) : List Nat := (List.range n).map (fun k => (T (a + k) - 96).toNat)
theorem lsT_succ (T : Nat → Int) (a n : Nat) : lsT T a (n + 1) = lsT T a n ++ [(T (a + n) - 96).toNat] := by
  unfold lsT
  rw [List.range_succ, List.map_append]
  rfl
theorem lsT_len (T : Nat → Int) (a n : Nat) : (lsT T a n).length = n := by
  unfold lsT
  rw [List.length_map, List.length_range]
theorem lsT_ok {T : Nat → Int} {a n : Nat} (h : ∀ p, a ≤ p → p < a + n → ltr (T p)) : ∀ c ∈ lsT T a n, 1 ≤ c ∧ c ≤ 26 := by
  intro c hc
  unfold lsT at hc
  obtain ⟨k, hk, rfl⟩ := List.mem_map.mp hc
  have := h (a + k) (by omega) (by have := List.mem_range.mp hk; omega)
  unfold ltr at this
  omega
def wv (ls : List Nat) : Int := ls.foldl (fun (a : Int) (c : Nat) => 256 * a + ((c : Int) + 96)) 0
theorem wv_vb (ls : List Nat) : wv ls = ((vb ls.reverse : Nat) : Int) := by
  unfold wv
  rw [← vb_eq, List.foldr_reverse]
theorem wv_snoc (ls : List Nat) (c : Nat) : wv (ls ++ [c]) = 256 * wv ls + ((c : Int) + 96) := by
  unfold wv
  rw [List.foldl_append]
  rfl
theorem vx_snoc : ∀ (ls : List Nat) (c : Nat), vx (ls ++ [c]) = vx ls + 32 ^ ls.length * c := by
  intro ls
  induction ls with
  | nil => intro c; show c + 32 * 0 = 0 + 32 ^ 0 * c; omega
  | cons d l ih =>
    intro c
    show d + 32 * vx (l ++ [c]) = d + 32 * vx l + 32 ^ (l.length + 1) * c
    rw [ih, Nat.pow_succ, Nat.mul_add, Nat.mul_comm (32 ^ l.length) 32, Nat.mul_assoc]
    omega
def nT (T : Nat → Int) (a : Nat) : Nat → Int
  | 0 => 0
  | k + 1 => 10 * nT T a k + T (a + k) - 48
theorem nT_rng {T : Nat → Int} {a : Nat} : ∀ n, n ≤ 4 → (∀ p, a ≤ p → p < a + n → dgt (T p)) → 0 ≤ nT T a n ∧ nT T a n < 10 ^ n := by
  intro n
  induction n with
  | zero => intro _ _; exact ⟨Int.le_refl 0, by show (0 : Int) < 10 ^ 0; decide⟩
  | succ n ih =>
    intro hn h
    obtain ⟨h1, h2⟩ := ih (by omega) (fun p g1 g2 => h p g1 (by omega))
    have := h (a + n) (by omega) (by omega)
    unfold dgt at this
    have e : nT T a (n + 1) = 10 * nT T a n + T (a + n) - 48 := rfl
    have e10 : (10 : Int) ^ (n + 1) = 10 ^ n * 10 := Int.pow_succ 10 n
    rw [e, e10]
    omega
/-- bytes on the tape -/
def Tp (T : Nat → Int) (S : Nat) : Prop := S ≤ 1600 ∧ ∀ j, j < S → 0 ≤ T j ∧ T j ≤ 255
section AH
variable {T : Nat → Int} {S : Nat} {M : Mem}
theorem m_ltr {c : Int} (h : 0 ≤ c ∧ c ≤ 255) : m_isLetter c = some (decide (ltr c)) := by
  unfold m_isLetter
  rw [w32_eq (x := c) (by omega) (by omega), w32_eq (x := (97 : Int)) (by omega) (by omega), w32_eq (x := (122 : Int)) (by omega) (by omega)]
  by_cases h1 : c < 97
  · rw [if_pos h1, decide_eq_false (by omega)]
  · rw [if_neg h1]
    by_cases h2 : 122 < c
    · rw [if_pos h2, decide_eq_false (by omega)]
    · rw [if_neg h2, decide_eq_true (by omega)]
theorem m_dgt {c : Int} (h : 0 ≤ c ∧ c ≤ 255) : m_isDigit c = some (decide (dgt c)) := by
  unfold m_isDigit
  rw [w32_eq (x := c) (by omega) (by omega), w32_eq (x := (48 : Int)) (by omega) (by omega), w32_eq (x := (57 : Int)) (by omega) (by omega)]
  by_cases h1 : c < 48
  · rw [if_pos h1, decide_eq_false (by omega)]
  · rw [if_neg h1]
    by_cases h2 : 57 < c
    · rw [if_pos h2, decide_eq_false (by omega)]
    · rw [if_neg h2, decide_eq_true (by omega)]
/-- the blanks ahead -/
theorem skip_loop (hT : Tp T S) (h1 : M 1 = T) (h2 : M 0 2 = (S : Int)) {a : Nat} (haS : a ≤ S) (hstop : a = S ∨ ¬ blk (T a)) : ∀ (d e N : Nat), a - e = d → e ≤ a → d < N → (∀ p, e ≤ p → p < a → blk (T p)) → itr1 (m_ahead_L5 M) N (e : Int) = some (a : Int) ∧ ∀ x1, itr1 (m_finishes_L17 x1 M) N (e : Int) = some (a : Int) := by
  intro d
  induction d with
  | zero =>
    intro e N hd he hN hb
    obtain ⟨G, rfl⟩ : ∃ G, N = G + 1 := ⟨N - 1, by omega⟩
    have ea : e = a := by omega
    subst ea
    have hS := hT.1
    refine ⟨?_, fun x1 => ?_⟩
    · show m_ahead_L5 M (itr1 (m_ahead_L5 M) G) (e : Int) = _
      unfold m_ahead_L5 chk
      rw [h2, h1, w32_eq (x := (S : Int)) (by omega) (by omega), w32_eq (x := (e : Int)) (by omega) (by omega)]
      by_cases z : e = S
      · rw [if_pos (by omega)]
      · have hbt := hT.2 e (by omega)
        have hs : ¬ blk (T e) := by rcases hstop with q | q; exact absurd q z; exact q
        rw [if_neg (by omega), Int.toNat_natCast, w32_eq (x := T e) (by omega) (by omega), w32_eq (x := (32 : Int)) (by omega) (by omega), w32_eq (x := (10 : Int)) (by omega) (by omega), if_pos (by omega), if_neg (fun q => hs (Or.inl q)), if_pos (by omega), if_pos (fun q => hs (Or.inr q))]
    · show m_finishes_L17 x1 M (itr1 (m_finishes_L17 x1 M) G) (e : Int) = _
      unfold m_finishes_L17 chk
      rw [h2, h1, w32_eq (x := (S : Int)) (by omega) (by omega), w32_eq (x := (e : Int)) (by omega) (by omega)]
      by_cases z : e = S
      · rw [if_pos (by omega)]
      · have hbt := hT.2 e (by omega)
        have hs : ¬ blk (T e) := by rcases hstop with q | q; exact absurd q z; exact q
        rw [if_neg (by omega), Int.toNat_natCast, w32_eq (x := T e) (by omega) (by omega), w32_eq (x := (32 : Int)) (by omega) (by omega), w32_eq (x := (10 : Int)) (by omega) (by omega), if_pos (by omega), if_neg (fun q => hs (Or.inl q)), if_pos (by omega), if_pos (fun q => hs (Or.inr q))]
  | succ d ih =>
    intro e N hd he hN hb
    obtain ⟨G, rfl⟩ : ∃ G, N = G + 1 := ⟨N - 1, by omega⟩
    obtain ⟨i1, i2⟩ := ih (e + 1) G (by omega) (by omega) (by omega) (fun p g1 g2 => hb p (by omega) g2)
    have hS := hT.1
    have hbt := hT.2 e (by omega)
    have hbl := hb e (by omega) (by omega)
    refine ⟨?_, fun x1 => ?_⟩
    · obtain ⟨rec, hrec⟩ : ∃ r, r = itr1 (m_ahead_L5 M) G := ⟨_, rfl⟩
      show m_ahead_L5 M (itr1 (m_ahead_L5 M) G) (e : Int) = _
      rw [← hrec] at i1 ⊢
      unfold m_ahead_L5 chk
      dsimp only [lt]
      rw [h2, h1, w32_eq (x := (S : Int)) (by omega) (by omega), w32_eq (x := (e : Int)) (by omega) (by omega), if_neg (by omega), Int.toNat_natCast, w32_eq (x := T e) (by omega) (by omega), w32_eq (x := (32 : Int)) (by omega) (by omega), w32_eq (x := (10 : Int)) (by omega) (by omega), if_pos (by omega), show (e : Int) + 1 = ((e + 1 : Nat) : Int) by omega, i1]
      by_cases z : T e = 32
      · rw [if_pos z]
      · rw [if_neg z, if_pos (by omega), if_neg (fun q => q (by rcases hbl with y | y; exact absurd y z; exact y))]
    · have i2 := i2 x1
      obtain ⟨rec, hrec⟩ : ∃ r, r = itr1 (m_finishes_L17 x1 M) G := ⟨_, rfl⟩
      show m_finishes_L17 x1 M (itr1 (m_finishes_L17 x1 M) G) (e : Int) = _
      rw [← hrec] at i2 ⊢
      unfold m_finishes_L17 chk
      dsimp only [lt]
      rw [h2, h1, w32_eq (x := (S : Int)) (by omega) (by omega), w32_eq (x := (e : Int)) (by omega) (by omega), if_neg (by omega), Int.toNat_natCast, w32_eq (x := T e) (by omega) (by omega), w32_eq (x := (32 : Int)) (by omega) (by omega), w32_eq (x := (10 : Int)) (by omega) (by omega), if_pos (by omega), show (e : Int) + 1 = ((e + 1 : Nat) : Int) by omega, i2]
      by_cases z : T e = 32
      · rw [if_pos z]
      · rw [if_neg z, if_pos (by omega), if_neg (fun q => q (by rcases hbl with y | y; exact absurd y z; exact y))]
/-- what is wrong with a run of letters (6) or digits (4) -/
def lexW (T : Nat → Int) (a n most : Nat) : Int := if adj T a then (a : Int) else if most < n then ((a + most : Nat) : Int) else -1
/-- a run of letters -/
theorem run_ltr (hT : Tp T S) {a b : Nat} (hbS : b ≤ S) (hend : b = S ∨ ¬ ltr (T b)) : ∀ (d n N : Nat) (M : Mem), b - (a + n) = d → a + n ≤ b → d < N → (∀ p, a ≤ p → p < b → ltr (T p)) → M 1 = T → M 0 2 = (S : Int) → M 0 7 = wv (lsT T a (min n 6)) → M 0 12 = lexW T a n 6 →
    ∃ M1, itr3 (m_ahead_L204 1 0 6) N ((a + n : Nat) : Int) (n : Int) M = some ((b : Int), ((b - a : Nat) : Int), M1) ∧ M1 0 7 = wv (lsT T a (min (b - a) 6)) ∧ M1 0 12 = lexW T a (b - a) 6 ∧ (∀ q, q ≠ 0 → M1 q = M q) ∧ (∀ i, i ≠ 7 → i ≠ 12 → M1 0 i = M 0 i) := by
  intro d
  induction d with
  | zero =>
    intro n N M hd hle hN hl h1 h2 h7 h12
    obtain ⟨G, rfl⟩ : ∃ G, N = G + 1 := ⟨N - 1, by omega⟩
    have e1 : b = a + n := by omega
    have e2 : b - a = n := by omega
    have hS := hT.1
    refine ⟨M, ?_, by rw [e2]; exact h7, by rw [e2]; exact h12, fun _ _ => rfl, fun _ _ _ => rfl⟩
    show m_ahead_L204 1 0 6 (itr3 (m_ahead_L204 1 0 6) G) _ _ M = _
    unfold m_ahead_L204 chk
    rw [h2, w32_eq (x := (S : Int)) (by omega) (by omega), w32_eq (x := ((a + n : Nat) : Int)) (by omega) (by omega), e2, ← e1]
    by_cases z : b = S
    · rw [if_pos (by omega)]
    · have hbt := hT.2 b (by omega)
      have hs : ¬ ltr (T b) := by rcases hend with q | q; exact absurd q z; exact q
      rw [if_neg (by omega), w32_eq (x := (1 : Int)) (by omega) (by omega), if_neg (by omega), if_pos (by omega), h1, Int.toNat_natCast, m_ltr hbt, bnd_some, ifd, if_neg hs]
  | succ d ih =>
    intro n N M hd hle hN hl h1 h2 h7 h12
    obtain ⟨G, rfl⟩ : ∃ G, N = G + 1 := ⟨N - 1, by omega⟩
    have hS := hT.1
    have hbt := hT.2 (a + n) (by omega)
    have hlt := hl (a + n) (by omega) (by omega)
    -- the seventh is marked
    obtain ⟨Ma, hMa⟩ : ∃ Ma, Ma = (if n = 6 ∧ M 0 12 = -1 then upM M 0 12 ((a + n : Nat) : Int) else M) := ⟨_, rfl⟩
    have ma : ∀ q, q ≠ 0 → Ma q = M q := fun q hq => by rw [hMa]; split; exact upM_row hq; rfl
    have ma0 : ∀ i, i ≠ 12 → Ma 0 i = M 0 i := fun i hi => by rw [hMa]; split; exact up_i hi; rfl
    have ma12 : Ma 0 12 = lexW T a (n + 1) 6 := by
      unfold lexW at h12 ⊢
      rw [hMa]
      by_cases z : adj T a
      · rw [if_pos z] at h12 ⊢
        rw [if_neg (by omega)]; exact h12
      · rw [if_neg z] at h12 ⊢
        by_cases y : n = 6
        · rw [if_neg (by omega)] at h12
          rw [if_pos ⟨y, h12⟩, up_e, if_pos (by omega), y]
        · rw [if_neg (by omega), h12]
          by_cases x : 6 < n
          · rw [if_pos x, if_pos (by omega)]
          · rw [if_neg x, if_neg (by omega)]
    obtain ⟨Mb, hMb⟩ : ∃ Mb, Mb = (if n < 6 then upM Ma 0 7 (or64 (shl64 (Ma 0 7) 8) (w32 (T (a + n)))) else Ma) := ⟨_, rfl⟩
    have mb : ∀ q, q ≠ 0 → Mb q = M q := fun q hq => by rw [hMb]; split; rw [upM_row hq]; exact ma q hq; exact ma q hq
    have mb0 : ∀ i, i ≠ 7 → i ≠ 12 → Mb 0 i = M 0 i := fun i hi h2 => by rw [hMb]; split; rw [up_i hi]; exact ma0 i h2; exact ma0 i h2
    have mb12 : Mb 0 12 = lexW T a (n + 1) 6 := by rw [hMb]; split; rw [up_i (by omega)]; exact ma12; exact ma12
    have mb7 : Mb 0 7 = wv (lsT T a (min (n + 1) 6)) := by
      rw [hMb]
      by_cases z : n < 6
      · have e1 : min n 6 = n := by omega
        have e2 : min (n + 1) 6 = n + 1 := by omega
        have ho := lsT_ok (T := T) (a := a) (n := n) (fun p g1 g2 => hl p g1 (by omega))
        have hv := vb_lt (lsT T a n).reverse (fun c hc => ho c (List.mem_reverse.mp hc))
        rw [List.length_reverse, lsT_len] at hv
        have p5 : (256 : Nat) ^ n ≤ 256 ^ 5 := Nat.pow_le_pow_right (by omega) (by omega)
        have e5 : (256 : Nat) ^ 5 = 1099511627776 := by decide +kernel
        have hw := wv_vb (lsT T a n)
        obtain ⟨t, ht⟩ := Int.eq_ofNat_of_zero_le (a := T (a + n)) (by omega)
        rw [if_pos z, up_e, ma0 7 (by omega), h7, e1, e2, lsT_succ, wv_snoc, hw, ht, pack64 (by omega) (by omega)]
        unfold ltr at hlt
        omega
      · have e1 : min n 6 = 6 := by omega
        have e2 : min (n + 1) 6 = 6 := by omega
        rw [if_neg z, ma0 7 (by omega), h7, e1, e2]
    obtain ⟨M1, y1, y2, y3, y4, y5⟩ := ih (n + 1) G Mb (by omega) (by omega) (by omega) hl (by rw [mb 1 (by omega)]; exact h1) (by rw [mb0 2 (by omega) (by omega)]; exact h2) mb7 mb12
    refine ⟨M1, ?_, y2, y3, fun q hq => by rw [y4 q hq, mb q hq], fun i g1 g2 => by rw [y5 i g1 g2, mb0 i g1 g2]⟩
    obtain ⟨rec, hrec⟩ : ∃ r, r = itr3 (m_ahead_L204 1 0 6) G := ⟨_, rfl⟩
    show m_ahead_L204 1 0 6 (itr3 (m_ahead_L204 1 0 6) G) _ _ M = _
    rw [← hrec] at y1 ⊢
    have w6 : w32 6 = 6 := w32_eq (by omega) (by omega)
    have w1 : w32 1 = 1 := w32_eq (by omega) (by omega)
    have wn : w32 (n : Int) = (n : Int) := w32_eq (by omega) (by omega)
    have hlx : -1 ≤ M 0 12 ∧ M 0 12 ≤ 2000 := by rw [h12]; unfold lexW; split; omega; split <;> omega
    have e293 : m_ahead_L204_B293 rec ((a + n : Nat) : Int) 1 0 6 (n : Int) Mb = some ((b : Int), ((b - a : Nat) : Int), M1) := by
      unfold m_ahead_L204_B293
      dsimp only [lt]
      rw [w6, wn, w32_0, show ((a + n : Nat) : Int) + 1 = ((a + (n + 1) : Nat) : Int) by omega, show (n : Int) + 1 = ((n + 1 : Nat) : Int) by omega, y1]
      split
      · rfl
      · rw [if_pos rfl]
    have e263 : m_ahead_L204_B263 rec ((a + n : Nat) : Int) 1 0 6 (n : Int) Ma = some ((b : Int), ((b - a : Nat) : Int), M1) := by
      unfold m_ahead_L204_B263 chk
      dsimp only [lt]
      rw [w6, wn, w1, ma 1 (by omega), h1, Int.toNat_natCast]
      by_cases z : n < 6
      · rw [if_pos z] at hMb
        rw [if_neg (by omega), if_neg (by omega), if_pos (by omega), ← hMb]
        exact e293
      · rw [if_neg z] at hMb
        rw [if_pos (by omega), ← hMb]
        exact e293
    unfold m_ahead_L204 m_ahead_L204_B243 chk
    dsimp only [lt]
    rw [h2, w32_eq (x := (S : Int)) (by omega) (by omega), w32_eq (x := ((a + n : Nat) : Int)) (by omega) (by omega), if_neg (by omega), w1, if_neg (by omega), if_pos (by omega), h1, Int.toNat_natCast, m_ltr hbt, bnd_some, ifd, if_pos hlt, w6, wn, w32_eq (x := M 0 12) (by omega) (by omega), w32_eq (x := (-1 : Int)) (by omega) (by omega)]
    by_cases z : n = 6
    · rw [if_neg (by omega)]
      by_cases y : M 0 12 = -1
      · rw [if_pos ⟨z, y⟩] at hMa
        rw [if_neg (by omega), ← hMa]
        exact e263
      · rw [if_neg (fun x => y x.2)] at hMa
        rw [if_pos y, ← hMa]
        exact e263
    · rw [if_neg (fun x => z x.1)] at hMa
      rw [if_pos (by omega), ← hMa]
      exact e263
/-- a run of digits -/
theorem run_dgt (hT : Tp T S) {a b : Nat} (hbS : b ≤ S) (hend : b = S ∨ ¬ dgt (T b)) : ∀ (d n N : Nat) (M : Mem), b - (a + n) = d → a + n ≤ b → d < N → (∀ p, a ≤ p → p < b → dgt (T p)) → M 1 = T → M 0 2 = (S : Int) → M 0 6 = nT T a (min n 4) → M 0 12 = lexW T a n 4 →
    ∃ M1, itr3 (m_ahead_L204 0 1 4) N ((a + n : Nat) : Int) (n : Int) M = some ((b : Int), ((b - a : Nat) : Int), M1) ∧ M1 0 6 = nT T a (min (b - a) 4) ∧ M1 0 12 = lexW T a (b - a) 4 ∧ (∀ q, q ≠ 0 → M1 q = M q) ∧ (∀ i, i ≠ 6 → i ≠ 12 → M1 0 i = M 0 i) := by
  intro d
  induction d with
  | zero =>
    intro n N M hd hle hN hl h1 h2 h7 h12
    obtain ⟨G, rfl⟩ : ∃ G, N = G + 1 := ⟨N - 1, by omega⟩
    have e1 : b = a + n := by omega
    have e2 : b - a = n := by omega
    have hS := hT.1
    refine ⟨M, ?_, by rw [e2]; exact h7, by rw [e2]; exact h12, fun _ _ => rfl, fun _ _ _ => rfl⟩
    show m_ahead_L204 0 1 4 (itr3 (m_ahead_L204 0 1 4) G) _ _ M = _
    unfold m_ahead_L204 chk
    rw [h2, w32_eq (x := (S : Int)) (by omega) (by omega), w32_eq (x := ((a + n : Nat) : Int)) (by omega) (by omega), e2, ← e1]
    by_cases z : b = S
    · rw [if_pos (by omega)]
    · have hbt := hT.2 b (by omega)
      have hs : ¬ dgt (T b) := by rcases hend with q | q; exact absurd q z; exact q
      rw [if_neg (by omega), w32_0, if_pos rfl, if_pos (by omega), h1, Int.toNat_natCast, m_dgt hbt, bnd_some, ifd, if_neg hs]
  | succ d ih =>
    intro n N M hd hle hN hl h1 h2 h7 h12
    obtain ⟨G, rfl⟩ : ∃ G, N = G + 1 := ⟨N - 1, by omega⟩
    have hS := hT.1
    have hbt := hT.2 (a + n) (by omega)
    have hlt := hl (a + n) (by omega) (by omega)
    obtain ⟨Ma, hMa⟩ : ∃ Ma, Ma = (if n = 4 ∧ M 0 12 = -1 then upM M 0 12 ((a + n : Nat) : Int) else M) := ⟨_, rfl⟩
    have ma : ∀ q, q ≠ 0 → Ma q = M q := fun q hq => by rw [hMa]; split; exact upM_row hq; rfl
    have ma0 : ∀ i, i ≠ 12 → Ma 0 i = M 0 i := fun i hi => by rw [hMa]; split; exact up_i hi; rfl
    have ma12 : Ma 0 12 = lexW T a (n + 1) 4 := by
      unfold lexW at h12 ⊢
      rw [hMa]
      by_cases z : adj T a
      · rw [if_pos z] at h12 ⊢
        rw [if_neg (by omega)]; exact h12
      · rw [if_neg z] at h12 ⊢
        by_cases y : n = 4
        · rw [if_neg (by omega)] at h12
          rw [if_pos ⟨y, h12⟩, up_e, if_pos (by omega), y]
        · rw [if_neg (by omega), h12]
          by_cases x : 4 < n
          · rw [if_pos x, if_pos (by omega)]
          · rw [if_neg x, if_neg (by omega)]
    obtain ⟨Mb, hMb⟩ : ∃ Mb, Mb = (if n < 4 then upM Ma 0 6 (((10 * (Ma 0 6)) + (T (a + n))) - 48) else Ma) := ⟨_, rfl⟩
    have mb : ∀ q, q ≠ 0 → Mb q = M q := fun q hq => by rw [hMb]; split; rw [upM_row hq]; exact ma q hq; exact ma q hq
    have mb0 : ∀ i, i ≠ 6 → i ≠ 12 → Mb 0 i = M 0 i := fun i hi h2 => by rw [hMb]; split; rw [up_i hi]; exact ma0 i h2; exact ma0 i h2
    have mb12 : Mb 0 12 = lexW T a (n + 1) 4 := by rw [hMb]; split; rw [up_i (by omega)]; exact ma12; exact ma12
    have mb6 : Mb 0 6 = nT T a (min (n + 1) 4) := by
      rw [hMb]
      by_cases z : n < 4
      · have e1 : min n 4 = n := by omega
        have e2 : min (n + 1) 4 = n + 1 := by omega
        rw [if_pos z, up_e, ma0 6 (by omega), h7, e1, e2]
        rfl
      · have e1 : min n 4 = 4 := by omega
        have e2 : min (n + 1) 4 = 4 := by omega
        rw [if_neg z, ma0 6 (by omega), h7, e1, e2]
    obtain ⟨M1, y1, y2, y3, y4, y5⟩ := ih (n + 1) G Mb (by omega) (by omega) (by omega) hl (by rw [mb 1 (by omega)]; exact h1) (by rw [mb0 2 (by omega) (by omega)]; exact h2) mb6 mb12
    refine ⟨M1, ?_, y2, y3, fun q hq => by rw [y4 q hq, mb q hq], fun i g1 g2 => by rw [y5 i g1 g2, mb0 i g1 g2]⟩
    obtain ⟨rec, hrec⟩ : ∃ r, r = itr3 (m_ahead_L204 0 1 4) G := ⟨_, rfl⟩
    show m_ahead_L204 0 1 4 (itr3 (m_ahead_L204 0 1 4) G) _ _ M = _
    rw [← hrec] at y1 ⊢
    have w4 : w32 4 = 4 := w32_eq (by omega) (by omega)
    have w1 : w32 1 = 1 := w32_eq (by omega) (by omega)
    have wn : w32 (n : Int) = (n : Int) := w32_eq (by omega) (by omega)
    have hlx : -1 ≤ M 0 12 ∧ M 0 12 ≤ 2000 := by rw [h12]; unfold lexW; split; omega; split <;> omega
    have e293 : m_ahead_L204_B293 rec ((a + n : Nat) : Int) 0 1 4 (n : Int) Ma = some ((b : Int), ((b - a : Nat) : Int), M1) := by
      unfold m_ahead_L204_B293 chk
      dsimp only [lt]
      rw [w4, wn, w1, ma 1 (by omega), h1, Int.toNat_natCast, show ((a + n : Nat) : Int) + 1 = ((a + (n + 1) : Nat) : Int) by omega, show (n : Int) + 1 = ((n + 1 : Nat) : Int) by omega]
      by_cases z : n < 4
      · rw [if_pos z] at hMb
        rw [if_neg (by omega), if_neg (by omega), if_pos (by omega), ← hMb]
        exact y1
      · rw [if_neg z] at hMb
        rw [if_pos (by omega), ← hMb]
        exact y1
    have e263 : m_ahead_L204_B263 rec ((a + n : Nat) : Int) 0 1 4 (n : Int) Ma = some ((b : Int), ((b - a : Nat) : Int), M1) := by
      unfold m_ahead_L204_B263
      rw [w4, wn, w32_0, if_pos rfl, e293]
      split <;> rfl
    unfold m_ahead_L204 m_ahead_L204_B243 chk
    dsimp only [lt]
    rw [h2, w32_eq (x := (S : Int)) (by omega) (by omega), w32_eq (x := ((a + n : Nat) : Int)) (by omega) (by omega), if_neg (by omega), w32_0, if_pos rfl, if_pos (by omega), h1, Int.toNat_natCast, m_dgt hbt, bnd_some, ifd, if_pos hlt, w4, wn, w32_eq (x := M 0 12) (by omega) (by omega), w32_eq (x := (-1 : Int)) (by omega) (by omega)]
    by_cases z : n = 4
    · rw [if_neg (by omega)]
      by_cases y : M 0 12 = -1
      · rw [if_pos ⟨z, y⟩] at hMa
        rw [if_neg (by omega), ← hMa]
        exact e263
      · rw [if_neg (fun x => y x.2)] at hMa
        rw [if_pos y, ← hMa]
        exact e263
    · rw [if_neg (fun x => z x.1)] at hMa
      rw [if_pos (by omega), ← hMa]
      exact e263
end AH
