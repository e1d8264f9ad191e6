/-! THE PURE PART: town: the class splits the tape into tokens -/
def KindW (K V : Int) : Prop := 0 ≤ K ∧ K ≤ 23 ∧ ∀ t : Nat, t < 23 → (K = (t : Int) ↔ V = xW t)
def Tk (T : Nat → Int) (S e : Nat) (K P V : Int) (e' : Nat) : Prop := ∃ a : Nat, e ≤ a ∧ (∀ p, e ≤ p → p < a → blk (T p)) ∧ P = (a : Int) ∧ a < e' ∧ e' ≤ S ∧
  ((signK (T a) ∧ K = T a ∧ V = 0 ∧ e' = a + 1) ∨
   (¬ adj T a ∧ (e' = S ∨ ¬ ltr (T e')) ∧ (∀ p, a ≤ p → p < e' → ltr (T p)) ∧ e' ≤ a + 6 ∧ V = ((vx (lsT T a (e' - a)) : Nat) : Int) ∧ KindW K V) ∨
   (¬ adj T a ∧ (e' = S ∨ ¬ dgt (T e')) ∧ (∀ p, a ≤ p → p < e' → dgt (T p)) ∧ e' ≤ a + 4 ∧ V = nT T a (e' - a) ∧ K = 24))
def LastT (T : Nat → Int) (S e : Nat) (K P V : Int) : Prop :=
  (K = 25 ∧ P = (S : Int) ∧ e ≤ S ∧ (∀ p, e ≤ p → p < S → blk (T p)) ∧ V = 0) ∨
  (K = 26 ∧ ∃ a : Nat, e ≤ a ∧ a < S ∧ (∀ p, e ≤ p → p < a → blk (T p)) ∧ ¬ blk (T a) ∧ ¬ ltr (T a) ∧ ¬ dgt (T a) ∧ ¬ signK (T a) ∧ P = (a : Int) ∧ V = (a : Int)) ∨
  (K = 26 ∧ e < S ∧ (ltr (T e) ∨ dgt (T e)) ∧ adj T e ∧ P = (e : Int) ∧ V = (e : Int)) ∨
  (K = 26 ∧ ∃ a : Nat, e ≤ a ∧ (∀ p, e ≤ p → p < a → blk (T p)) ∧ ¬ adj T a ∧ V = (a : Int) ∧ ((a + 7 ≤ S ∧ (∀ p, a ≤ p → p < a + 7 → ltr (T p)) ∧ P = ((a + 6 : Nat) : Int)) ∨ (a + 5 ≤ S ∧ (∀ p, a ≤ p → p < a + 5 → dgt (T p)) ∧ P = ((a + 4 : Nat) : Int))))
def Chn (T : Nat → Int) (S : Nat) (E : Nat → Nat) (c : Nat) (X : Mem) : Prop := E 0 = 0 ∧ ∀ t, t < c → Tk T S (E t) (X 20 t) (X 21 t) (X 22 t) (E (t + 1))
def SpF (T : Nat → Int) (S i c : Nat) (E : Nat → Nat) (X : Mem) : Prop := X 19 3 = (c : Int) ∧ X 19 6 = 0 ∧ c ≤ i ∧ Chn T S E c X ∧ E c ≤ i ∧ (∀ p, E c ≤ p → p < i → blk (T p))
def SpB (T : Nat → Int) (S i c : Nat) (E : Nat → Nat) (st : Nat) (X : Mem) : Prop := X 19 3 = (c : Int) ∧ st < i ∧ X 19 6 = ((i - st : Nat) : Int) ∧ X 19 5 = (st : Int) ∧ c ≤ st ∧ Chn T S E c X ∧ E c ≤ st ∧ (∀ p, E c ≤ p → p < st → blk (T p)) ∧ ¬ adj T st ∧
  ((X 19 4 = 1 ∧ i ≤ st + 6 ∧ (∀ p, st ≤ p → p < i → ltr (T p)) ∧ X 19 7 = ((vx (lsT T st (i - st)) : Nat) : Int)) ∨ (X 19 4 = 0 ∧ i ≤ st + 4 ∧ (∀ p, st ≤ p → p < i → dgt (T p)) ∧ X 19 7 = nT T st (i - st)))
def FrT (X X1 : Mem) : Prop := ∀ q, (q < 19 ∨ 22 < q) → X1 q = X q
theorem FrT_refl (X : Mem) : FrT X X := fun _ _ => rfl
theorem FrT_trans {X Y Z : Mem} (h : FrT X Y) (k : FrT Y Z) : FrT X Z := fun q hq => (k q hq).trans (h q hq)
theorem FrT_up {X : Mem} {k i : Nat} {v : Int} (h : 19 ≤ k ∧ k ≤ 22) : FrT X (upM X k i v) := fun q hq => upM_row (by omega)
section SPLIT
variable {T : Nat → Int} {S i c st : Nat} {E : Nat → Nat} {X : Mem}
theorem x_addT {K P V : Int} (h : X 19 3 = (c : Int)) (hc : c ≤ 1600) : ∃ X1, x_Tokens_add K P V X = some X1 ∧ FrT X X1 ∧ X1 19 3 = ((c + 1 : Nat) : Int) ∧ (∀ j, j ≠ 3 → X1 19 j = X 19 j) ∧ X1 20 c = K ∧ X1 21 c = P ∧ X1 22 c = V ∧ (∀ t, t ≠ c → X1 20 t = X 20 t ∧ X1 21 t = X 21 t ∧ X1 22 t = X 22 t) := by
  obtain ⟨X1, hX1⟩ : ∃ X1, X1 = upM (upM (upM (upM X 20 c K) 21 c P) 22 c V) 19 3 ((c : Int) + 1) := ⟨_, rfl⟩
  refine ⟨X1, ?_, ?_, ?_, fun j hj => ?_, ?_, ?_, ?_, fun t ht => ⟨?_, ?_, ?_⟩⟩
  · have hcc : 0 ≤ (c : Int) ∧ (c : Int) < 1601 := by omega
    have e1 : (upM X 20 c K) 19 3 = (c : Int) := by rw [up_k (by omega)]; exact h
    have e2 : (upM (upM X 20 c K) 21 c P) 19 3 = (c : Int) := by rw [up_k (by omega)]; exact e1
    have e3 : (upM (upM (upM X 20 c K) 21 c P) 22 c V) 19 3 = (c : Int) := by rw [up_k (by omega)]; exact e2
    unfold x_Tokens_add chk
    dsimp only [lt]
    rw [h, w32_eq (x := (c : Int)) (by omega) (by omega), w32_eq (x := (1601 : Int)) (by omega) (by omega), if_neg (by omega), if_neg (by omega), if_neg (by omega), if_pos hcc, Int.toNat_natCast, e1, if_pos hcc, Int.toNat_natCast, e2, if_pos hcc, Int.toNat_natCast, e3, hX1]
  · rw [hX1]; exact FrT_trans (FrT_trans (FrT_trans (FrT_up (by omega)) (FrT_up (by omega))) (FrT_up (by omega))) (FrT_up (by omega))
  · rw [hX1, up_e]; omega
  · rw [hX1, up_i hj, up_k (by omega), up_k (by omega), up_k (by omega)]
  · rw [hX1, up_k (by omega), up_k (by omega), up_k (by omega), up_e]
  · rw [hX1, up_k (by omega), up_k (by omega), up_e]
  · rw [hX1, up_k (by omega), up_e]
  · rw [hX1, up_k (by omega), up_k (by omega), up_k (by omega), up_i ht]
  · rw [hX1, up_k (by omega), up_k (by omega), up_i ht, up_k (by omega)]
  · rw [hX1, up_k (by omega), up_i ht, up_k (by omega), up_k (by omega)]
theorem Chn_of {X1 : Mem} (h : Chn T S E c X) (e : ∀ t, t < c → X1 20 t = X 20 t ∧ X1 21 t = X 21 t ∧ X1 22 t = X 22 t) : Chn T S E c X1 := ⟨h.1, fun t ht => by obtain ⟨a, b, d⟩ := e t ht; rw [a, b, d]; exact h.2 t ht⟩
/-- a token more -/
theorem Chn_snoc {X1 : Mem} {K P V : Int} {e' : Nat} (h : Chn T S E c X) (e : ∀ t, t ≠ c → X1 20 t = X 20 t ∧ X1 21 t = X 21 t ∧ X1 22 t = X 22 t) (hk : X1 20 c = K) (hp : X1 21 c = P) (hv : X1 22 c = V) (ht : Tk T S (E c) K P V e') : Chn T S (fun t => if t = c + 1 then e' else E t) (c + 1) X1 := by
  refine ⟨?_, fun t htc => ?_⟩
  · show (if 0 = c + 1 then e' else E 0) = 0
    rw [if_neg (by omega)]; exact h.1
  · show Tk T S (if t = c + 1 then e' else E t) (X1 20 t) (X1 21 t) (X1 22 t) (if t + 1 = c + 1 then e' else E (t + 1))
    rw [if_neg (by omega)]
    by_cases z : t = c
    · subst z
      rw [hk, hp, hv, if_pos rfl]; exact ht
    · obtain ⟨a, b, d⟩ := e t z
      rw [a, b, d, if_neg (by omega)]
      exact h.2 t (by omega)
theorem fin_A (h : SpF T S i c E X) : x_Tokens_finish X = some (upM X 19 6 0) ∧ SpF T S i c E (upM X 19 6 0) ∧ FrT X (upM X 19 6 0) := by
  obtain ⟨h1, h2, h3, h4, h5, h6⟩ := h
  refine ⟨?_, ⟨by rw [up_i (by omega)]; exact h1, up_e, h3, Chn_of h4 (fun t _ => ⟨up_k (by omega), up_k (by omega), up_k (by omega)⟩), h5, h6⟩, FrT_up (by omega)⟩
  unfold x_Tokens_finish
  rw [h2, w32_0, if_pos (by omega)]
  rfl
theorem fin_B (h : SpB T S i c E st X) (hiS : i ≤ S) (hS : S ≤ 1600) (he1 : X 19 4 = 1 → i = S ∨ ¬ ltr (T i)) (he0 : X 19 4 = 0 → i = S ∨ ¬ dgt (T i)) : ∃ X1 E1, x_Tokens_finish X = some X1 ∧ SpF T S i (c + 1) E1 X1 ∧ E1 (c + 1) = i ∧ FrT X X1 := by
  obtain ⟨h1, h2, h3, h4, h5, h6, h7, h8, h9, h10⟩ := h
  have wsz : ¬ w32 (X 19 6) ≤ 0 := by rw [h3, w32_eq (by omega) (by omega)]; omega
  have main : ∀ K V, X 19 7 = V → x_Tokens_finish X = x_Tokens_finish_B27 K X → Tk T S (E c) K (st : Int) V i → ∃ X1 E1, x_Tokens_finish X = some X1 ∧ SpF T S i (c + 1) E1 X1 ∧ E1 (c + 1) = i ∧ FrT X X1 := by
    intro K V hV hf ht
    obtain ⟨X1, a1, a2, a3, a4, a5, a6, a7, a8⟩ := x_addT (K := K) (P := (st : Int)) (V := V) h1 (by omega)
    have hch := Chn_snoc h6 a8 a5 a6 a7 ht
    refine ⟨upM X1 19 6 0, fun t => if t = c + 1 then i else E t, ?_, ⟨?_, up_e, by omega, Chn_of hch (fun t _ => ⟨up_k (by omega), up_k (by omega), up_k (by omega)⟩), ?_, fun p g1 g2 => ?_⟩, ?_, FrT_trans a2 (FrT_up (by omega))⟩
    · rw [hf]
      unfold x_Tokens_finish_B27
      rw [h4, hV, a1, bnd_some]
      rfl
    · rw [up_i (by omega)]; exact a3
    · show (if c + 1 = c + 1 then i else E (c + 1)) ≤ i
      rw [if_pos rfl]; exact Nat.le_refl i
    · have g1 : (if c + 1 = c + 1 then i else E (c + 1)) ≤ p := g1
      rw [if_pos rfl] at g1
      omega
    · show (if c + 1 = c + 1 then i else E (c + 1)) = i
      rw [if_pos rfl]
  rcases h10 with ⟨k1, k2, k3, k4⟩ | ⟨k1, k2, k3, k4⟩
  · have ho := lsT_ok (T := T) (a := st) (n := i - st) (fun p g1 g2 => k3 p g1 (by omega))
    have hv := vx_lt (lsT T st (i - st)) ho
    rw [lsT_len] at hv
    have p6 : (32 : Nat) ^ (i - st) ≤ 32 ^ 6 := Nat.pow_le_pow_right (by omega) (by omega)
    have e6 : (32 : Nat) ^ 6 = 1073741824 := by decide +kernel
    obtain ⟨K, q1, q2, q3, q4⟩ := x_kindOf (V := ((vx (lsT T st (i - st)) : Nat) : Int)) (X := X) (by omega)
    refine main K _ k4 ?_ ⟨st, h7, h8, rfl, h2, hiS, Or.inr (Or.inl ⟨h9, he1 k1, k3, k2, rfl, q2, q3, q4⟩)⟩
    unfold x_Tokens_finish
    rw [if_neg wsz, k1, w32_eq (x := (1 : Int)) (by omega) (by omega), if_neg (by omega), k4, q1, bnd_some]
  · refine main 24 _ k4 ?_ ⟨st, h7, h8, rfl, h2, hiS, Or.inr (Or.inr ⟨h9, he0 k1, k3, k2, rfl, rfl⟩)⟩
    unfold x_Tokens_finish
    rw [if_neg wsz, k1, w32_0, if_pos rfl]
theorem signK_tab : ∀ k : Nat, k < 14 → signK (xT1.getD k 0) := by unfold signK; decide +kernel
theorem signK_ex {cc : Int} (h : signK cc) : ∃ k : Nat, k < 14 ∧ xT1.getD k 0 = cc := by
  unfold signK at h
  rcases h with h | h | h | h | h | h | h | h | h | h | h | h | h | h <;> rw [h]
  · exact ⟨0, by omega, rfl⟩
  · exact ⟨1, by omega, rfl⟩
  · exact ⟨2, by omega, rfl⟩
  · exact ⟨3, by omega, rfl⟩
  · exact ⟨4, by omega, rfl⟩
  · exact ⟨5, by omega, rfl⟩
  · exact ⟨6, by omega, rfl⟩
  · exact ⟨7, by omega, rfl⟩
  · exact ⟨8, by omega, rfl⟩
  · exact ⟨9, by omega, rfl⟩
  · exact ⟨10, by omega, rfl⟩
  · exact ⟨11, by omega, rfl⟩
  · exact ⟨12, by omega, rfl⟩
  · exact ⟨13, by omega, rfl⟩
theorem sign_loop {cc : Int} {i : Int} {X X2 : Mem} (hc : 0 ≤ cc ∧ cc ≤ 255) (ha : x_Tokens_add cc i 0 X = some X2) : (signK cc → itr1 (x_Tokens_takeSign_L20 cc i X) FUEL 0 = some (.inl (true, X2))) ∧ (¬ signK cc → itr1 (x_Tokens_takeSign_L20 cc i X) FUEL 0 = some (.inr 14)) := by
  have tab : ∀ k : Nat, k < 14 → 0 ≤ xT1.getD k 0 ∧ xT1.getD k 0 ≤ 255 := by decide +kernel
  have loop : ∀ d k N, 14 - k = d → k ≤ 14 → d < N → (∀ t, t < k → xT1.getD t 0 ≠ cc) → (signK cc → itr1 (x_Tokens_takeSign_L20 cc i X) N (k : Int) = some (.inl (true, X2))) ∧ (¬ signK cc → itr1 (x_Tokens_takeSign_L20 cc i X) N (k : Int) = some (.inr 14)) := by
    intro d
    induction d with
    | zero =>
      intro k N h1 h2 h3 h4
      obtain ⟨G, rfl⟩ : ∃ G, N = G + 1 := ⟨N - 1, by omega⟩
      have e : k = 14 := by omega
      subst e
      refine ⟨fun z => ?_, fun _ => ?_⟩
      · obtain ⟨t, ht, e⟩ := signK_ex z
        exact absurd e (h4 t ht)
      · show x_Tokens_takeSign_L20 cc i X (itr1 (x_Tokens_takeSign_L20 cc i X) G) ((14 : Nat) : Int) = _
        unfold x_Tokens_takeSign_L20
        rw [if_pos (by rw [w32_eq (by omega) (by omega), w32_eq (by omega) (by omega)]; omega)]
        rfl
    | succ d ih =>
      intro k N h1 h2 h3 h4
      obtain ⟨G, rfl⟩ : ∃ G, N = G + 1 := ⟨N - 1, by omega⟩
      have tk := tab k (by omega)
      have hlt : 0 ≤ (k : Int) ∧ (k : Int) < 14 := by omega
      by_cases e : xT1.getD k 0 = cc
      · refine ⟨fun _ => ?_, fun z => absurd (by rw [← e]; exact signK_tab k (by omega)) z⟩
        show x_Tokens_takeSign_L20 cc i X (itr1 (x_Tokens_takeSign_L20 cc i X) G) (k : Int) = _
        unfold x_Tokens_takeSign_L20 chk
        dsimp only [lt]
        rw [w32_eq (x := (k : Int)) (by omega) (by omega), w32_eq (x := (14 : Int)) (by omega) (by omega), if_neg (by omega), if_pos hlt, Int.toNat_natCast, e, if_neg (fun z => z rfl), ha, bnd_some]
      · have r1 := ih (k + 1) G (by omega) (by omega) (by omega) (fun t ht => by
          by_cases z : t = k
          · rw [z]; exact e
          · exact h4 t (by omega))
        have step : itr1 (x_Tokens_takeSign_L20 cc i X) (G + 1) (k : Int) = itr1 (x_Tokens_takeSign_L20 cc i X) G ((k + 1 : Nat) : Int) := by
          obtain ⟨rec, hrec⟩ : ∃ r, r = itr1 (x_Tokens_takeSign_L20 cc i X) G := ⟨_, rfl⟩
          show x_Tokens_takeSign_L20 cc i X (itr1 (x_Tokens_takeSign_L20 cc i X) G) (k : Int) = _
          rw [← hrec]
          unfold x_Tokens_takeSign_L20 chk
          dsimp only [lt]
          rw [w32_eq (x := (k : Int)) (by omega) (by omega), w32_eq (x := (14 : Int)) (by omega) (by omega), if_neg (by omega), if_pos hlt, Int.toNat_natCast, w32_eq (x := xT1.getD k 0) (by omega) (by omega), w32_eq (x := cc) (by omega) (by omega), if_pos e, show (k : Int) + 1 = ((k + 1 : Nat) : Int) by omega]
        rw [step]
        exact r1
  exact loop 14 0 FUEL (by omega) (by omega) (by unfold FUEL; omega) (fun t ht => by omega)
/-- what stands at i: nothing waits, or a run does -/
def SpS (T : Nat → Int) (S i : Nat) (X : Mem) : Prop := (∃ c E, SpF T S i c E X ∧ ¬ adj T i) ∨ (∃ c E st, SpB T S i c E st X)
/-- the tokens are at their end -/
def SpE (T : Nat → Int) (S : Nat) (X : Mem) : Prop := ∃ c E, c ≤ 1600 ∧ X 19 3 = ((c + 1 : Nat) : Int) ∧ Chn T S E c X ∧ LastT T S (E c) (X 20 c) (X 21 c) (X 22 c) ∧ E c ≤ S
theorem x_badT {P V : Int} {e : Nat} (h3 : X 19 3 = (c : Int)) (hc : c ≤ 1600) (hch : Chn T S E c X) (hE : E c ≤ S) (hl : LastT T S (E c) 26 P V) : ∃ X1, x_Tokens_bad P V X = some (false, X1) ∧ FrT X X1 ∧ SpE T S X1 := by
  obtain ⟨X1, a1, a2, a3, a4, a5, a6, a7, a8⟩ := x_addT (K := 26) (P := P) (V := V) h3 hc
  refine ⟨X1, by unfold x_Tokens_bad; rw [a1, bnd_some], a2, c, E, hc, a3, Chn_of hch (fun t ht => a8 t (by omega)), by rw [a5, a6, a7]; exact hl, hE⟩
/-- a byte that is neither letter nor digit -/
theorem take_sign (hT : Tp T S) (hi : i < S) (h : SpS T S i X) (hl : ¬ ltr (T i)) (hd : ¬ dgt (T i)) : ∃ g X1, x_Tokens_takeSign (T i) (i : Int) X = some (g, X1) ∧ FrT X X1 ∧ ((g = true ∧ SpS T S (i + 1) X1) ∨ (g = false ∧ SpE T S X1)) := by
  have hS := hT.1
  have hbt := hT.2 i hi
  have fin : ∃ X1 c E, x_Tokens_finish X = some X1 ∧ SpF T S i c E X1 ∧ FrT X X1 := by
    rcases h with ⟨c, E, h, -⟩ | ⟨c, E, st, h⟩
    · obtain ⟨a1, a2, a3⟩ := fin_A h
      exact ⟨_, c, E, a1, a2, a3⟩
    · obtain ⟨X1, E1, a1, a2, -, a3⟩ := fin_B h (by omega) hS (fun _ => Or.inr hl) (fun _ => Or.inr hd)
      exact ⟨X1, c + 1, E1, a1, a2, a3⟩
  obtain ⟨X1, c, E, f1, ⟨h1, h2, h3, h4, h5, h6⟩, f3⟩ := fin
  have nadj : ¬ adj T (i + 1) := fun z => by
    have := z.2
    rw [show i + 1 - 1 = i by omega] at this
    rcases this with y | y
    · exact hl y
    · exact hd y
  have wt : w32 (T i) = T i := w32_eq (by omega) (by omega)
  have w32' : w32 32 = 32 := w32_eq (by omega) (by omega)
  have w10 : w32 10 = 10 := w32_eq (by omega) (by omega)
  by_cases hb : blk (T i)
  · refine ⟨true, X1, ?_, f3, Or.inl ⟨rfl, Or.inl ⟨c, E, ⟨h1, h2, by omega, h4, by omega, fun p g1 g2 => ?_⟩, nadj⟩⟩⟩
    · unfold x_Tokens_takeSign
      rw [f1, bnd_some, wt, w32', w10]
      by_cases z : T i = 32
      · rw [if_pos z]
      · rw [if_neg z, if_neg (fun y => y (by rcases hb with q | q; exact absurd q z; exact q))]
    · by_cases z : p = i
      · rw [z]; exact hb
      · exact h6 p g1 (by omega)
  · have n32 : T i ≠ 32 := fun z => hb (Or.inl z)
    have n10 : T i ≠ 10 := fun z => hb (Or.inr z)
    obtain ⟨X2, a1, a2, a3, a4, a5, a6, a7, a8⟩ := x_addT (K := T i) (P := (i : Int)) (V := 0) h1 (by omega)
    have lp := sign_loop hbt a1
    by_cases hs : signK (T i)
    · refine ⟨true, X2, ?_, FrT_trans f3 a2, Or.inl ⟨rfl, Or.inl ⟨c + 1, fun t => if t = c + 1 then i + 1 else E t, ⟨a3, by rw [a4 6 (by omega)]; exact h2, by omega, Chn_snoc h4 a8 a5 a6 a7 ⟨i, h5, h6, rfl, by omega, by omega, Or.inl ⟨hs, rfl, rfl, rfl⟩⟩, ?_, fun p g1 g2 => ?_⟩, nadj⟩⟩⟩
      · unfold x_Tokens_takeSign
        rw [f1, bnd_some, wt, w32', w10, if_neg n32, if_pos n10, lp.1 hs, bnd_some]
      · show (if c + 1 = c + 1 then i + 1 else E (c + 1)) ≤ i + 1
        rw [if_pos rfl]; exact Nat.le_refl _
      · have g1 : (if c + 1 = c + 1 then i + 1 else E (c + 1)) ≤ p := g1
        rw [if_pos rfl] at g1
        omega
    · obtain ⟨X3, b1, b2, b3⟩ := x_badT (e := 0) (P := (i : Int)) (V := (i : Int)) h1 (by omega) h4 (by omega) (Or.inr (Or.inl ⟨rfl, i, h5, hi, h6, hb, hl, hd, hs, rfl, rfl⟩))
      refine ⟨false, X3, ?_, FrT_trans f3 b2, Or.inr ⟨rfl, b3⟩⟩
      unfold x_Tokens_takeSign
      rw [f1, bnd_some, wt, w32', w10, if_neg n32, if_pos n10, lp.2 hs, bnd_some]
      show bnd2 (x_Tokens_bad (i : Int) (i : Int) X1) (fun r4 M4 => some (r4, M4)) = _
      rw [b1, bnd2_some]
/-- a letter or a digit -/
theorem take_al (hT : Tp T S) (hi : i < S) (h : SpS T S i X) {v : Int} (hv : (v = 1 ∧ ltr (T i)) ∨ (v = 0 ∧ dgt (T i))) : ∃ g X1, x_Tokens_take_B53 (T i) (i : Int) v X = some (g, X1) ∧ FrT X X1 ∧ ((g = true ∧ SpS T S (i + 1) X1) ∨ (g = false ∧ SpE T S X1)) := by
  have hS := hT.1
  have hbt := hT.2 i hi
  have w1 : w32 1 = 1 := w32_eq (by omega) (by omega)
  have w6 : w32 6 = 6 := w32_eq (by omega) (by omega)
  have w4 : w32 4 = 4 := w32_eq (by omega) (by omega)
  have hal : ltr (T i) ∨ dgt (T i) := by rcases hv with ⟨-, z⟩ | ⟨-, z⟩; exact Or.inl z; exact Or.inr z
  rcases h with ⟨c, E, ⟨h1, h2, h3, h4, h5, h6⟩, hna⟩ | ⟨c, E, st, hB⟩
  · -- a run begins
    obtain ⟨Xa, hXa⟩ : ∃ Xa, Xa = upM (upM (upM X 19 5 (i : Int)) 19 4 v) 19 7 0 := ⟨_, rfl⟩
    have a6 : Xa 19 6 = 0 := by rw [hXa, up_i (by omega), up_i (by omega), up_i (by omega)]; exact h2
    have a7 : Xa 19 7 = 0 := by rw [hXa, up_e]
    have e53 : x_Tokens_take_B53 (T i) (i : Int) v X = x_Tokens_take_B128 (T i) v Xa := by
      have e93 : ∀ s1, w32 s1 ≠ 0 → x_Tokens_take_B93 (T i) (i : Int) v (X 19 6) s1 X = x_Tokens_take_B128 (T i) v Xa := fun s1 hs1 => by
        unfold x_Tokens_take_B93 chk
        dsimp only [lt]
        rw [h2, w32_0, if_pos (fun z => hs1 z.symm), if_neg (by omega), if_pos (by omega), hXa]
      unfold x_Tokens_take_B53 x_Tokens_take_B79
      rw [e93 4 (by rw [w4]; omega), e93 6 (by rw [w6]; omega), h2, w32_0, if_pos (by omega)]
      split <;> rfl
    obtain ⟨Xb, hXb⟩ : ∃ Xb, Xb = upM (upM Xa 19 7 (if v = 1 then ((T i - 96)) else T i - 48)) 19 6 1 := ⟨_, rfl⟩
    have e128 : x_Tokens_take_B128 (T i) v Xa = some (true, Xb) := by
      unfold x_Tokens_take_B128 x_Tokens_take_B166
      dsimp only [lt]
      have g6 : ∀ z, (upM Xa 19 7 z) 19 6 = 0 := fun z => by rw [up_i (by omega)]; exact a6
      rcases hv with ⟨rfl, hl⟩ | ⟨rfl, hd⟩
      · obtain ⟨n, hn⟩ : ∃ n : Nat, T i - 97 + 1 = (n : Int) := ⟨(T i - 96).toNat, by unfold ltr at hl; omega⟩
        have pk := pack32 (p := 0) (c := n) (s := 0) (by unfold ltr at hl; omega) (by omega) (by decide)
        have pk' : or32 0 (shl32 (n : Int) (5 * 0)) = ((0 + 32 ^ 0 * n : Nat) : Int) := pk
        rw [w1, if_neg (by omega), a7, a6, hn, pk', g6, hXb, if_pos rfl]
        have e1 : ((0 + 32 ^ 0 * n : Nat) : Int) = T i - 96 := by omega
        rw [e1]
        rfl
      · rw [w32_0, if_pos rfl, a7, g6, hXb, if_neg (by omega)]
        have e1 : 10 * (0 : Int) + T i - 48 = T i - 48 := by omega
        rw [e1]
        rfl
    have xb : ∀ z, z ≠ 4 → z ≠ 5 → z ≠ 6 → z ≠ 7 → Xb 19 z = X 19 z := fun z g1 g2 g3 g4 => by rw [hXb, up_i g3, up_i g4, hXa, up_i g4, up_i g1, up_i g2]
    have xbr : ∀ q, q ≠ 19 → Xb q = X q := fun q hq => by rw [hXb, upM_row hq, upM_row hq, hXa, upM_row hq, upM_row hq, upM_row hq]
    have xb4 : Xb 19 4 = v := by rw [hXb, up_i (by omega), up_i (by omega), hXa, up_i (by omega), up_e]
    refine ⟨true, Xb, by rw [e53, e128], fun q hq => xbr q (by omega), Or.inl ⟨rfl, Or.inr ⟨c, E, i, by rw [xb 3 (by omega) (by omega) (by omega) (by omega)]; exact h1, by omega, ?_, ?_, h3, Chn_of h4 (fun t _ => ⟨by rw [xbr 20 (by omega)], by rw [xbr 21 (by omega)], by rw [xbr 22 (by omega)]⟩), h5, h6, hna, ?_⟩⟩⟩
    · rw [hXb, up_e]; omega
    · rw [hXb, up_i (by omega), up_i (by omega), hXa, up_i (by omega), up_i (by omega), up_e]
    · have x7 : Xb 19 7 = (if v = 1 then ((T i - 96)) else T i - 48) := by rw [hXb, up_i (by omega), up_e]
      have e1 : i + 1 - i = 1 := by omega
      rcases hv with ⟨rfl, hl⟩ | ⟨rfl, hd⟩
      · refine Or.inl ⟨xb4, by omega, fun p g1 g2 => by rw [show p = i by omega]; exact hl, ?_⟩
        rw [x7, if_pos rfl, e1]
        show T i - 96 = (((T i - 96).toNat + 32 * 0 : Nat) : Int)
        unfold ltr at hl
        omega
      · refine Or.inr ⟨xb4, by omega, fun p g1 g2 => by rw [show p = i by omega]; exact hd, ?_⟩
        rw [x7, if_neg (by omega), e1]
        show T i - 48 = 10 * 0 + T i - 48
        omega
  · have hB' := hB
    obtain ⟨h1, h2, h3, h4, h5, h6, h7, h8, h9, h10⟩ := hB
    have wsz : w32 (X 19 6) = ((i - st : Nat) : Int) := by rw [h3]; exact w32_eq (by omega) (by omega)
    have h4v : X 19 4 = 1 ∨ X 19 4 = 0 := by rcases h10 with ⟨z, -⟩ | ⟨z, -⟩; exact Or.inl z; exact Or.inr z
    have wv4 : w32 (X 19 4) = X 19 4 := by rcases h4v with z | z <;> rw [z]; exact w1; exact w32_0
    have wvv : w32 v = v := by rcases hv with ⟨z, -⟩ | ⟨z, -⟩ <;> rw [z]; exact w1; exact w32_0
    by_cases hsame : v = X 19 4
    · -- the run goes on, or is too long
      have e53 : x_Tokens_take_B53 (T i) (i : Int) v X = x_Tokens_take_B79 (T i) (i : Int) v X := by
        unfold x_Tokens_take_B53
        rw [wsz, if_neg (by omega), wvv, wv4, if_pos hsame]
      have longer : ∀ most : Nat, (most = 6 ∨ most = 4) → x_Tokens_take_B79 (T i) (i : Int) v X = x_Tokens_take_B93 (T i) (i : Int) v (X 19 6) (most : Int) X → i = st + most → LastT T S (E c) 26 (i : Int) (st : Int) → ∃ g X1, x_Tokens_take_B53 (T i) (i : Int) v X = some (g, X1) ∧ FrT X X1 ∧ ((g = true ∧ SpS T S (i + 1) X1) ∨ (g = false ∧ SpE T S X1)) := by
        intro most hmost he hsz hlast
        obtain ⟨X3, b1, b2, b3⟩ := x_badT (e := 0) (P := (i : Int)) (V := (st : Int)) h1 (by omega) h6 (by omega) hlast
        refine ⟨false, X3, ?_, b2, Or.inr ⟨rfl, b3⟩⟩
        rw [e53, he]
        unfold x_Tokens_take_B93
        rw [wsz, w32_eq (x := (most : Int)) (by omega) (by omega), if_neg (by omega), h4, b1, bnd2_some]
      have goon : ∀ most : Nat, (most = 6 ∨ most = 4) → x_Tokens_take_B79 (T i) (i : Int) v X = x_Tokens_take_B93 (T i) (i : Int) v (X 19 6) (most : Int) X → i < st + most → x_Tokens_take_B53 (T i) (i : Int) v X = x_Tokens_take_B128 (T i) v X := by
        intro most hmost he hsz
        rw [e53, he]
        unfold x_Tokens_take_B93
        rw [wsz, w32_eq (x := (most : Int)) (by omega) (by omega), if_pos (by omega), if_pos (by omega)]
      rcases hv with ⟨rfl, hl⟩ | ⟨rfl, hd⟩
      · have e79 : x_Tokens_take_B79 (T i) (i : Int) 1 X = x_Tokens_take_B93 (T i) (i : Int) 1 (X 19 6) ((6 : Nat) : Int) X := by
          unfold x_Tokens_take_B79
          rw [w1, if_neg (by omega)]
          rfl
        rcases h10 with ⟨k1, k2, k3, k4⟩ | ⟨k1, -⟩
        · by_cases h6' : i = st + 6
          · refine longer 6 (Or.inl rfl) e79 h6' (Or.inr (Or.inr (Or.inr ⟨rfl, st, h7, h8, h9, rfl, Or.inl ⟨by omega, fun p g1 g2 => ?_, by rw [h6']⟩⟩)))
            by_cases z : p = i
            · rw [z]; exact hl
            · exact k3 p g1 (by omega)
          · have e128 := goon 6 (Or.inl rfl) e79 (by omega)
            obtain ⟨n, hn⟩ : ∃ n : Nat, T i - 97 + 1 = (n : Int) := ⟨(T i - 96).toNat, by unfold ltr at hl; omega⟩
            have ho := lsT_ok (T := T) (a := st) (n := i - st) (fun p g1 g2 => k3 p g1 (by omega))
            have hvl := vx_lt (lsT T st (i - st)) ho
            rw [lsT_len] at hvl
            have pk := pack32 (p := vx (lsT T st (i - st))) (c := n) (s := i - st) (by unfold ltr at hl; omega) (by omega) hvl
            obtain ⟨Xb, hXb⟩ : ∃ Xb, Xb = upM (upM X 19 7 ((vx (lsT T st (i - st)) + 32 ^ (i - st) * n : Nat) : Int)) 19 6 (((i - st : Nat) : Int) + 1) := ⟨_, rfl⟩
            have xb : ∀ z, z ≠ 6 → z ≠ 7 → Xb 19 z = X 19 z := fun z g1 g2 => by rw [hXb, up_i g1, up_i g2]
            have xbr : ∀ q, q ≠ 19 → Xb q = X q := fun q hq => by rw [hXb, upM_row hq, upM_row hq]
            refine ⟨true, Xb, ?_, fun q hq => xbr q (by omega), Or.inl ⟨rfl, Or.inr ⟨c, E, st, by rw [xb 3 (by omega) (by omega)]; exact h1, by omega, ?_, by rw [xb 5 (by omega) (by omega)]; exact h4, h5, Chn_of h6 (fun t _ => ⟨by rw [xbr 20 (by omega)], by rw [xbr 21 (by omega)], by rw [xbr 22 (by omega)]⟩), h7, h8, h9, Or.inl ⟨by rw [xb 4 (by omega) (by omega)]; exact k1, by omega, fun p g1 g2 => ?_, ?_⟩⟩⟩⟩
            · rw [e128]
              unfold x_Tokens_take_B128 x_Tokens_take_B166
              dsimp only [lt]
              rw [w1, if_neg (by omega), k4, h3, hn, pk, up_i (by omega), h3, hXb]
            · rw [hXb, up_e]; omega
            · by_cases z : p = i
              · rw [z]; exact hl
              · exact k3 p g1 (by omega)
            · have e1 : i + 1 - st = (i - st) + 1 := by omega
              have e2 : st + (i - st) = i := by omega
              rw [e1, lsT_succ, vx_snoc, lsT_len, e2, hXb, up_i (by omega), up_e]
              have : (T i - 96).toNat = n := by omega
              rw [this]
        · rw [k1] at hsame; omega
      · have e79 : x_Tokens_take_B79 (T i) (i : Int) 0 X = x_Tokens_take_B93 (T i) (i : Int) 0 (X 19 6) ((4 : Nat) : Int) X := by
          unfold x_Tokens_take_B79
          rw [w32_0, if_pos rfl]
          rfl
        rcases h10 with ⟨k1, -⟩ | ⟨k1, k2, k3, k4⟩
        · rw [k1] at hsame; omega
        · by_cases h6' : i = st + 4
          · refine longer 4 (Or.inr rfl) e79 h6' (Or.inr (Or.inr (Or.inr ⟨rfl, st, h7, h8, h9, rfl, Or.inr ⟨by omega, fun p g1 g2 => ?_, by rw [h6']⟩⟩)))
            by_cases z : p = i
            · rw [z]; exact hd
            · exact k3 p g1 (by omega)
          · have e128 := goon 4 (Or.inr rfl) e79 (by omega)
            obtain ⟨Xb, hXb⟩ : ∃ Xb, Xb = upM (upM X 19 7 (10 * nT T st (i - st) + T i - 48)) 19 6 (((i - st : Nat) : Int) + 1) := ⟨_, rfl⟩
            have xb : ∀ z, z ≠ 6 → z ≠ 7 → Xb 19 z = X 19 z := fun z g1 g2 => by rw [hXb, up_i g1, up_i g2]
            have xbr : ∀ q, q ≠ 19 → Xb q = X q := fun q hq => by rw [hXb, upM_row hq, upM_row hq]
            refine ⟨true, Xb, ?_, fun q hq => xbr q (by omega), Or.inl ⟨rfl, Or.inr ⟨c, E, st, by rw [xb 3 (by omega) (by omega)]; exact h1, by omega, ?_, by rw [xb 5 (by omega) (by omega)]; exact h4, h5, Chn_of h6 (fun t _ => ⟨by rw [xbr 20 (by omega)], by rw [xbr 21 (by omega)], by rw [xbr 22 (by omega)]⟩), h7, h8, h9, Or.inr ⟨by rw [xb 4 (by omega) (by omega)]; exact k1, by omega, fun p g1 g2 => ?_, ?_⟩⟩⟩⟩
            · rw [e128]
              unfold x_Tokens_take_B128 x_Tokens_take_B166
              dsimp only [lt]
              rw [w32_0, if_pos rfl, k4, up_i (by omega), h3, hXb]
            · rw [hXb, up_e]; omega
            · by_cases z : p = i
              · rw [z]; exact hd
              · exact k3 p g1 (by omega)
            · have e1 : i + 1 - st = (i - st) + 1 := by omega
              have e2 : st + (i - st) = i := by omega
              have e3 : nT T st ((i - st) + 1) = 10 * nT T st (i - st) + T (st + (i - st)) - 48 := rfl
              rw [e1, e3, e2, hXb, up_i (by omega), up_e]
    · -- side by side with the other kind
      obtain ⟨X1, E1, a1, ⟨b1, b2, b3, b4, b5, b6⟩, a3, a4⟩ := fin_B hB' (by omega) hS (fun z => Or.inr (fun y => by
        rcases hv with ⟨q1, q2⟩ | ⟨q1, q2⟩
        · exact hsame (by rw [q1, z])
        · unfold ltr at y; unfold dgt at q2; omega)) (fun z => Or.inr (fun y => by
        rcases hv with ⟨q1, q2⟩ | ⟨q1, q2⟩
        · unfold dgt at y; unfold ltr at q2; omega
        · exact hsame (by rw [q1, z])))
      have hadj : adj T i := by
        refine ⟨by omega, ?_⟩
        rcases h10 with ⟨k1, k2, k3, k4⟩ | ⟨k1, k2, k3, k4⟩
        · exact Or.inl (k3 (i - 1) (by omega) (by omega))
        · exact Or.inr (k3 (i - 1) (by omega) (by omega))
      obtain ⟨X3, d1, d2, d3⟩ := x_badT (e := 0) (P := (i : Int)) (V := (i : Int)) b1 (by omega) b4 (by omega) (by rw [a3]; exact Or.inr (Or.inr (Or.inl ⟨rfl, hi, hal, hadj, rfl, rfl⟩)))
      refine ⟨false, X3, ?_, FrT_trans a4 d2, Or.inr ⟨rfl, d3⟩⟩
      unfold x_Tokens_take_B53
      rw [wsz, if_neg (by omega), wvv, wv4, if_neg hsame, a1, bnd_some, d1, bnd2_some]
/-- a byte -/
theorem x_take_T (hT : Tp T S) (hi : i < S) (h : SpS T S i X) : ∃ g X1, x_Tokens_take (T i) (i : Int) X = some (g, X1) ∧ FrT X X1 ∧ ((g = true ∧ SpS T S (i + 1) X1) ∨ (g = false ∧ SpE T S X1)) := by
  have hbt := hT.2 i hi
  have wt : w32 (T i) = T i := w32_eq (by omega) (by omega)
  have w97 : w32 97 = 97 := w32_eq (by omega) (by omega)
  have w122 : w32 122 = 122 := w32_eq (by omega) (by omega)
  have w48 : w32 48 = 48 := w32_eq (by omega) (by omega)
  have w57 : w32 57 = 57 := w32_eq (by omega) (by omega)
  have w1 : w32 1 = 1 := w32_eq (by omega) (by omega)
  by_cases hl : ltr (T i)
  · have e : x_Tokens_take (T i) (i : Int) X = x_Tokens_take_B53 (T i) (i : Int) 1 X := by
      unfold x_Tokens_take x_Tokens_take_B17 x_Tokens_take_B34 x_Tokens_take_B35
      unfold ltr at hl
      rw [wt, w97, w122, w48, w57, w1, if_neg (by omega), if_neg (by omega), if_neg (by omega), if_pos (by omega), if_pos (by omega)]
    rw [e]
    exact take_al hT hi h (Or.inl ⟨rfl, hl⟩)
  · by_cases hd : dgt (T i)
    · have e : x_Tokens_take (T i) (i : Int) X = x_Tokens_take_B53 (T i) (i : Int) 0 X := by
        unfold x_Tokens_take x_Tokens_take_B16 x_Tokens_take_B17 x_Tokens_take_B35
        unfold dgt at hd
        rw [wt, w97, w48, w57, w32_0, w1, if_pos (by omega), if_neg (by omega), if_neg (by omega), if_neg (by omega), if_pos (by omega)]
      rw [e]
      exact take_al hT hi h (Or.inr ⟨rfl, hd⟩)
    · obtain ⟨g, X1, t1, t2⟩ := take_sign hT hi h hl hd
      refine ⟨g, X1, ?_, t2⟩
      unfold x_Tokens_take x_Tokens_take_B16 x_Tokens_take_B17 x_Tokens_take_B34 x_Tokens_take_B35
      unfold ltr at hl
      unfold dgt at hd
      rw [wt, w97, w122, w48, w57, w32_0, t1, bnd2_some]
      have nn : ¬ ((¬ (0 : Int) = 0)) := by omega
      rw [if_neg nn, if_neg nn]
      by_cases q1 : T i < 97
      · rw [if_pos q1]
        by_cases q2 : T i < 48
        · rw [if_pos q2]
        · rw [if_neg q2, if_pos (by omega)]
      · rw [if_neg q1, if_pos (by omega)]
        by_cases q2 : T i < 48
        · rw [if_pos q2]
        · rw [if_neg q2, if_pos (by omega)]
end SPLIT
theorem split_loop {T : Nat → Int} {S : Nat} (hT : Tp T S) : ∀ (d i N : Nat) (X : Mem), S - i = d → i ≤ S → d + 1 < N → X 1 1 = (S : Int) → (∀ j, j < S → X 2 j = T j) → SpS T S i X →
    ∃ g i' X1, itr3 x_Tokens_split_L14 N 1 (i : Int) X = some (g, i', X1) ∧ FrT X X1 ∧ ((g = 1 ∧ SpS T S S X1) ∨ (g = 0 ∧ SpE T S X1)) := by
  have hS := hT.1
  have w1 : w32 1 = 1 := w32_eq (by omega) (by omega)
  intro d
  induction d with
  | zero =>
    intro i N X h1 h2 h3 h4 h5 h6
    obtain ⟨G, rfl⟩ : ∃ G, N = G + 1 := ⟨N - 1, by omega⟩
    have e : i = S := by omega
    subst e
    refine ⟨1, i, X, ?_, FrT_refl X, Or.inl ⟨rfl, h6⟩⟩
    show x_Tokens_split_L14 (itr3 x_Tokens_split_L14 G) 1 (i : Int) X = _
    unfold x_Tokens_split_L14
    rw [h4, w32_eq (x := (i : Int)) (by omega) (by omega), if_pos (by omega)]
  | succ d ih =>
    intro i N X h1 h2 h3 h4 h5 h6
    obtain ⟨G, rfl⟩ : ∃ G, N = G + 1 := ⟨N - 1, by omega⟩
    obtain ⟨g, X1, t1, t2, t3⟩ := x_take_T hT (i := i) (by omega) h6
    obtain ⟨rec, hrec⟩ : ∃ r, r = itr3 x_Tokens_split_L14 G := ⟨_, rfl⟩
    have step : itr3 x_Tokens_split_L14 (G + 1) 1 (i : Int) X = rec (b2i g) ((i : Int) + 1) X1 := by
      show x_Tokens_split_L14 (itr3 x_Tokens_split_L14 G) 1 (i : Int) X = _
      rw [← hrec]
      unfold x_Tokens_split_L14 chk
      dsimp only [lt]
      rw [h4, w32_eq (x := (S : Int)) (by omega) (by omega), w32_eq (x := (i : Int)) (by omega) (by omega), w32_eq (x := (1600 : Int)) (by omega) (by omega), w1, if_neg (by omega), if_neg (by omega), if_neg (by omega), if_pos (by omega), Int.toNat_natCast, h5 i (by omega), t1, bnd2_some]
    rcases t3 with ⟨rfl, t3⟩ | ⟨rfl, t3⟩
    · obtain ⟨g', i', X2, y1, y2, y3⟩ := ih (i + 1) G X1 (by omega) (by omega) (by omega) (by rw [t2 1 (by omega)]; exact h4) (fun j hj => by rw [t2 2 (by omega)]; exact h5 j hj) t3
      refine ⟨g', i', X2, ?_, FrT_trans t2 y2, y3⟩
      rw [step, hrec]
      exact y1
    · obtain ⟨H, rfl⟩ : ∃ H, G = H + 1 := ⟨G - 1, by omega⟩
      refine ⟨0, (i : Int) + 1, X1, ?_, t2, Or.inr ⟨rfl, t3⟩⟩
      rw [step, hrec]
      show x_Tokens_split_L14 (itr3 x_Tokens_split_L14 H) 0 ((i : Int) + 1) X1 = _
      unfold x_Tokens_split_L14
      rw [w32_0, if_pos rfl]
      split
      · rfl
      · split <;> rfl
/-- the tape split -/
theorem x_split {T : Nat → Int} {S : Nat} {X : Mem} (hT : Tp T S) (h1 : X 1 1 = (S : Int)) (h2 : ∀ j, j < S → X 2 j = T j) : ∃ X1, x_Tokens_split X = some X1 ∧ FrT X X1 ∧ SpE T S X1 := by
  have hS := hT.1
  obtain ⟨X0, hX0⟩ : ∃ X0, X0 = upM (upM X 19 3 0) 19 6 0 := ⟨_, rfl⟩
  have x0 : ∀ q, q ≠ 19 → X0 q = X q := fun q hq => by rw [hX0, upM_row hq, upM_row hq]
  have st0 : SpS T S 0 X0 := Or.inl ⟨0, fun _ => 0, ⟨by rw [hX0, up_i (by omega), up_e]; rfl, by rw [hX0, up_e], by omega, ⟨rfl, fun t ht => by omega⟩, Nat.le_refl 0, fun p g1 g2 => by omega⟩, fun z => by have := z.1; omega⟩
  obtain ⟨g, i', X1, y1, y2, y3⟩ := split_loop hT S 0 FUEL X0 (by omega) (by omega) (by unfold FUEL; omega) (by rw [x0 1 (by omega)]; exact h1) (fun j hj => by rw [x0 2 (by omega)]; exact h2 j hj) st0
  have y1 : itr3 x_Tokens_split_L14 FUEL 1 0 X0 = some (g, i', X1) := y1
  have f0 : FrT X X0 := fun q hq => x0 q (by omega)
  rcases y3 with ⟨rfl, y3⟩ | ⟨rfl, y3⟩
  · have fin : ∃ X2 c E, x_Tokens_finish X1 = some X2 ∧ SpF T S S c E X2 ∧ FrT X1 X2 := by
      rcases y3 with ⟨c, E, h, -⟩ | ⟨c, E, st, h⟩
      · obtain ⟨a1, a2, a3⟩ := fin_A h
        exact ⟨_, c, E, a1, a2, a3⟩
      · obtain ⟨X2, E1, a1, a2, -, a3⟩ := fin_B h (Nat.le_refl S) hS (fun _ => Or.inl rfl) (fun _ => Or.inl rfl)
        exact ⟨X2, c + 1, E1, a1, a2, a3⟩
    obtain ⟨X2, c, E, f1, ⟨k1, k2, k3, k4, k5, k6⟩, f3⟩ := fin
    obtain ⟨X3, a1, a2, a3, a4, a5, a6, a7, a8⟩ := x_addT (K := 25) (P := (S : Int)) (V := 0) k1 (by omega)
    have e11 : X2 1 1 = (S : Int) := by rw [f3 1 (by omega), y2 1 (by omega), x0 1 (by omega)]; exact h1
    refine ⟨X3, ?_, FrT_trans f0 (FrT_trans y2 (FrT_trans f3 a2)), c, E, by omega, a3, Chn_of k4 (fun t ht => a8 t (by omega)), by rw [a5, a6, a7]; exact Or.inl ⟨rfl, rfl, k5, k6, rfl⟩, k5⟩
    unfold x_Tokens_split
    dsimp only [lt]
    rw [← hX0, y1, bnd_some]
    show (if w32 1 = 0 then some X1 else bnd (x_Tokens_finish X1) (fun M3 => bnd (x_Tokens_add 25 (M3 1 1) 0 M3) (fun M4 => some M4))) = _
    rw [w32_eq (x := (1 : Int)) (by omega) (by omega), if_neg (by omega), f1, bnd_some, e11, a1, bnd_some]
  · refine ⟨X1, ?_, FrT_trans f0 y2, y3⟩
    unfold x_Tokens_split
    dsimp only [lt]
    rw [← hX0, y1, bnd_some]
    show (if w32 0 = 0 then some X1 else _) = _
    rw [w32_0, if_pos rfl]
