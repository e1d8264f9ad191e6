/-! THE PURE PART: numbers, counts, the two worlds held side by side -/
theorem bnd_some {α β : Type} {a : α} {f : α → Option β} : bnd (some a) f = f a := rfl
theorem bnd2_some {α β γ : Type} {a : α} {b : β} {f : α → β → Option γ} : bnd2 (some (a, b)) f = f a b := rfl
theorem lt_eq {α β : Type} {x : α} {f : α → β} : lt x f = f x := rfl
theorem up_k {M : Mem} {k i : Nat} {v : Int} {a j : Nat} (h : a ≠ k) : upM M k i v a j = M a j := by rw [upM_row h]
theorem up_i {M : Mem} {k i : Nat} {v : Int} {j : Nat} (h : j ≠ i) : upM M k i v k j = M k j := by rw [upM_self, if_neg h]
theorem up_e {M : Mem} {k i : Nat} {v : Int} : upM M k i v k i = v := by rw [upM_self, if_pos rfl]
theorem tn3 {v s : Nat} : (3 * (v : Int) + (s : Int)).toNat = 3 * v + s := by omega
theorem tn7 {v s : Nat} : (7 * (v : Int) + (s : Int)).toNat = 7 * v + s := by omega
theorem tn8 {v s : Nat} : (8 * (v : Int) + (s : Int)).toNat = 8 * v + s := by omega
theorem tn12 {v s : Nat} : (12 * (v : Int) + (s : Int)).toNat = 12 * v + s := by omega
theorem tn120 {v s : Nat} : (120 * (v : Int) + (s : Int)).toNat = 120 * v + s := by omega
theorem tn1600 {v s : Nat} : (1600 * (v : Int) + (s : Int)).toNat = 1600 * v + s := by omega
theorem lcmp_w {x y : Int} : w32 (lcmp x y) = lcmp x y := by
  unfold lcmp
  split
  · exact w32_eq (by omega) (by omega)
  · split
    · exact w32_eq (by omega) (by omega)
    · exact w32_eq (by omega) (by omega)
theorem lc_eq {x y : Int} : (w32 (lcmp x y) = 0) = (w64 x = w64 y) := by
  rw [lcmp_w]; apply propext; unfold lcmp; split
  · constructor <;> intro h <;> omega
  · split <;> (constructor <;> intro h <;> omega)
theorem lc_lt {x y : Int} : (w32 (lcmp x y) < 0) = (w64 x < w64 y) := by
  rw [lcmp_w]; apply propext; unfold lcmp; split
  · constructor <;> intro h <;> omega
  · split <;> (constructor <;> intro h <;> omega)
theorem lc_le {x y : Int} : (w32 (lcmp x y) ≤ 0) = (w64 x ≤ w64 y) := by
  rw [lcmp_w]; apply propext; unfold lcmp; split
  · constructor <;> intro h <;> omega
  · split <;> (constructor <;> intro h <;> omega)
theorem lc_gt {x y : Int} : (0 < w32 (lcmp x y)) = (w64 y < w64 x) := by
  rw [lcmp_w]; apply propext; unfold lcmp; split
  · constructor <;> intro h <;> omega
  · split <;> (constructor <;> intro h <;> omega)
theorem lc_ge {x y : Int} : (0 ≤ w32 (lcmp x y)) = (w64 y ≤ w64 x) := by
  rw [lcmp_w]; apply propext; unfold lcmp; split
  · constructor <;> intro h <;> omega
  · split <;> (constructor <;> intro h <;> omega)
/-- how many below n -/
def cnt (p : Nat → Bool) : Nat → Nat
  | 0 => 0
  | n + 1 => cnt p n + (if p n = true then 1 else 0)
theorem cnt_le (p : Nat → Bool) (n : Nat) : cnt p n ≤ n := by
  induction n with
  | zero => exact Nat.le_refl 0
  | succ n ih => unfold cnt; split <;> omega
theorem cnt_ext {p q : Nat → Bool} {n : Nat} (h : ∀ k, k < n → p k = q k) : cnt p n = cnt q n := by
  induction n with
  | zero => rfl
  | succ n ih => unfold cnt; rw [ih (fun k hk => h k (by omega)), h n (by omega)]
theorem cnt_flip {p q : Nat → Bool} {n s : Nat} (hs : s < n) (h : ∀ k, k < n → k ≠ s → p k = q k) (h0 : p s = false) (h1 : q s = true) : cnt q n = cnt p n + 1 := by
  induction n with
  | zero => omega
  | succ n ih =>
    unfold cnt
    by_cases e : s = n
    · subst e
      rw [cnt_ext (p := q) (q := p) (fun k hk => (h k (by omega) (by omega)).symm), h0, h1]
      simp
    · rw [ih (by omega) (fun k hk => h k (by omega)), h n (by omega) (fun z => e z.symm)]
      omega
theorem cnt_lt {p : Nat → Bool} {n s : Nat} (hs : s < n) (h0 : p s = false) : cnt p n < n := by
  have := cnt_flip (p := p) (q := fun k => if k = s then true else p k) hs (fun k _ hk => by simp [hk]) h0 (by simp)
  have := cnt_le (fun k => if k = s then true else p k) n
  omega
/-- a name by five bits a letter and by eight -/
def NameEq (x m : Int) : Prop := ∃ ls : List Nat, ls.length ≤ 6 ∧ 1 ≤ ls.length ∧ (∀ c ∈ ls, 1 ≤ c ∧ c ≤ 26) ∧ x = ls.foldr (fun (c : Nat) (a : Int) => (c : Int) + 32 * a) 0 ∧ m = ls.foldl (fun (a : Int) (c : Nat) => 256 * a + ((c : Int) + 96)) 0
/-- a code of the class and of the reference -/
def CodeEq (x so va : Int) : Prop :=
  (so = 0 ∧ x = va ∧ 0 ≤ va ∧ va ≤ 9999) ∨ (so = 1 ∧ x = 10011) ∨ (so = 2 ∧ x = 10012) ∨ (so = 3 ∧ x = 10013) ∨ (so = 4 ∧ x = 10010) ∨ (so = 5 ∧ x = 10007) ∨ (so = 6 ∧ x = 10014) ∨ (so = 7 ∧ x = 10015) ∨ (so = 8 ∧ x = 10008) ∨ (so = 30 ∧ x = 1) ∨
  (so = 31 ∧ x = 20043) ∨ (so = 32 ∧ x = 20045) ∨ (so = 33 ∧ x = 20042) ∨ (so = 34 ∧ x = 20047) ∨ (so = 35 ∧ x = 20037) ∨ (so = 36 ∧ x = 20021) ∨ (so = 37 ∧ x = 20022) ∨ (so = 38 ∧ x = 20060) ∨ (so = 39 ∧ x = 20062) ∨ (so = 40 ∧ x = 20061) ∨ (so = 41 ∧ x = 20018) ∨ (so = 42 ∧ x = 20017) ∨ (so = 43 ∧ x = 20019) ∨ (so = 44 ∧ x = 20016)
/-- which facts a rule may ask (by the reference's numbers) -/
def asks (w : Nat) (so : Int) : Bool := decide (so = 1 ∨ so = 2 ∨ so = 3 ∨ so = 4) || (decide (w = 0) && decide (so = 5 ∨ so = 6)) || (decide (w = 1) && decide (so = 5 ∨ so = 7)) || (decide (w = 2) && decide (so = 8))
/-- the types on the stack (true: a test's), the top first, behind one code -/
def tstep (w : Nat) (so : Int) (st : List Bool) : Option (List Bool) :=
  if so = 0 then some (false :: st) else if so = 30 then some (true :: st) else if so < 30 then (if asks w so then some (false :: st) else none)
  else if so ≤ 37 then (match st with | false :: false :: r => some (false :: r) | _ => none)
  else if so ≤ 40 then (match st with | false :: false :: r => some (true :: r) | _ => none)
  else if so ≤ 42 then (match st with | true :: true :: r => some (true :: r) | _ => none)
  else if so = 43 then (match st with | true :: r => some (true :: r) | _ => none)
  else (match st with | false :: false :: true :: r => some (false :: r) | _ => none)
/-- n codes from c on, from the stack st, never more than 41 high, to the stack st1 -/
def TRun (w : Nat) (so : Nat → Int) : Nat → Nat → List Bool → List Bool → Prop
  | 0, _, st, st1 => st = st1
  | n + 1, c, st, st1 => ∃ st2, tstep w (so c) st = some st2 ∧ st2.length ≤ 41 ∧ TRun w so n (c + 1) st2 st1
/-- one rule: not told, or the same codes in both, and good ones -/
def RuleEq (bk w : Nat) (X M : Mem) : Prop :=
  (X 36 w ≤ X 35 w ∧ 0 ≤ X 36 w ∧ X 35 w ≤ 1600 ∧ M 12 (3 * bk + w) = -1) ∨
  (∃ f n : Nat, X 35 w = f ∧ X 36 w = ((f + n : Nat) : Int) ∧ 0 < n ∧ f + n ≤ 1600 ∧ M 12 (3 * bk + w) = f ∧ M 13 (3 * bk + w) = ((f + n : Nat) : Int) ∧
    (∀ c, f ≤ c → c < f + n → CodeEq (X 34 c) (M 14 (1600 * bk + c)) (M 15 (1600 * bk + c))) ∧ TRun w (fun c => M 14 (1600 * bk + c)) n f [] [decide (w ≠ 0)])
def RT (nv np ns bk : Nat) (X M : Mem) : Prop :=
  (M 0 13 = (bk : Int) ∧ bk < 2 ∧ nv ≤ 7 ∧ np ≤ 8 ∧ ns ≤ 12) ∧ (X 23 0 = (nv : Int) ∧ X 23 1 = (np : Int) ∧ X 23 2 = (ns : Int)) ∧ (M 2 bk = (nv : Int) ∧ M 4 bk = (np : Int) ∧ M 7 bk = (ns : Int)) ∧
  (M 11 bk = X 23 3 ∧ 0 ≤ X 23 3 ∧ X 23 3 ≤ 100) ∧
  (∀ k, k < nv → NameEq (X 24 k) (M 16 (7 * bk + k)) ∧ M 3 (7 * bk + k) = X 25 k ∧ 0 ≤ X 25 k ∧ X 25 k ≤ 9) ∧
  (∀ k, k < np → NameEq (X 26 k) (M 17 (8 * bk + k)) ∧ M 5 (8 * bk + k) = X 27 k ∧ 0 ≤ X 27 k ∧ X 27 k ≤ 9 ∧ M 6 (8 * bk + k) = X 28 k ∧ 0 ≤ X 28 k ∧ X 28 k ≤ 99) ∧
  (∀ s, s < ns → M 8 (12 * bk + s) = X 29 s ∧ 0 ≤ X 29 s ∧ X 29 s < (np : Int) ∧ M 9 (12 * bk + s) = X 30 s ∧ 0 ≤ X 30 s ∧ X 30 s ≤ 999 ∧ M 10 (12 * bk + s) = X 31 s ∧ 1 ≤ X 31 s ∧ X 31 s ≤ 20) ∧
  (∀ w, w < 3 → RuleEq bk w X M)
def RS (nv ns th v : Nat) (X M : Mem) : Prop :=
  (∀ k, k < nv → M 26 (7 * v + k) = X (th + 1) k) ∧ (∀ k : Nat, k < nv → and32 (shr32 (M 28 v) (k : Int)) 1 = X (th + 2) k) ∧ (∀ k, k < nv → M 27 (7 * v + k) = X (th + 3) k) ∧
  (∀ s, s < ns → M 29 (12 * v + s) = X (th + 4) s) ∧ (∀ s, s < ns → M 30 (12 * v + s) = X (th + 5) s) ∧ (∀ s, s < ns → M 31 (12 * v + s) = X (th + 6) s) ∧ (∀ s, s < ns → M 32 (12 * v + s) = X (th + 7) s) ∧ (∀ s, s < ns → M 33 (12 * v + s) = X (th + 8) s) ∧
  (∀ s : Nat, s < ns → and32 (shr32 (M 34 v) (s : Int)) 1 = X (th + 9) s) ∧ M 35 v = X th 12 ∧ M 25 v = X th 13 ∧
  (∀ k : Nat, (k : Int) < X th 12 → M 36 (120 * v + 3 * k) = X (th + 10) k) ∧ (∀ k : Nat, (k : Int) < X th 12 → M 36 (120 * v + 3 * k + 1) = X (th + 11) k) ∧ (∀ k : Nat, (k : Int) < X th 12 → M 36 (120 * v + 3 * k + 2) = X (th + 12) k) ∧
  (0 ≤ M 28 v ∧ M 28 v < ((2 ^ nv : Nat) : Int)) ∧ (0 ≤ M 34 v ∧ M 34 v < 4096)
def SI (nv ns th : Nat) (X : Mem) : Prop :=
  (∀ k, k < nv → 0 ≤ X (th + 1) k ∧ X (th + 1) k ≤ 9) ∧ (∀ k, k < nv → 0 ≤ X (th + 2) k ∧ X (th + 2) k ≤ 1) ∧ (∀ k, k < nv → 0 ≤ X (th + 3) k ∧ X (th + 3) k ≤ 99) ∧
  (∀ s, s < ns → 0 ≤ X (th + 4) s ∧ X (th + 4) s ≤ 5) ∧ (∀ s, s < ns → 0 ≤ X (th + 5) s ∧ X (th + 5) s ≤ 999) ∧ (∀ s, s < ns → 0 ≤ X (th + 6) s ∧ X (th + 6) s ≤ 99) ∧ (∀ s, s < ns → -1 ≤ X (th + 7) s ∧ X (th + 7) s < (nv : Int)) ∧ (∀ s, s < ns → 0 ≤ X (th + 8) s ∧ X (th + 8) s ≤ 20) ∧ (∀ s, s < ns → 0 ≤ X (th + 9) s ∧ X (th + 9) s ≤ 1) ∧
  (∀ s, s < ns → X (th + 4) s = 2 → 0 ≤ X (th + 7) s ∧ 1 ≤ X (th + 8) s ∧ X (th + 2) (X (th + 7) s).toNat = 0) ∧
  (∀ s, s < ns → X (th + 4) s < 2 → X (th + 9) s = 0) ∧
  (∀ s t, s < ns → t < ns → X (th + 4) s = 2 → X (th + 4) t = 2 → X (th + 7) s = X (th + 7) t → s = t) ∧
  (0 ≤ X th 13 ∧ X th 13 ≤ 999) ∧ (0 ≤ X th 12 ∧ X th 12 ≤ (cnt (fun s => decide (3 ≤ X (th + 4) s)) ns : Nat))
/-- who sounds by a voice: the first such saying, or none -/
def SBy (ns th : Nat) (X : Mem) (k : Nat) (r : Int) : Prop := (r = -1 ∧ ∀ s, s < ns → ¬ (X (th + 4) s = 2 ∧ X (th + 7) s = (k : Int))) ∨ (∃ s : Nat, s < ns ∧ r = (s : Int) ∧ X (th + 4) s = 2 ∧ X (th + 7) s = (k : Int))
theorem sim_by {nv np ns bk th v k : Nat} {X M : Mem} (hT : RT nv np ns bk X M) (hS : RS nv ns th v X M) (hI : SI nv ns th X) (hv : v < 22) (hk : k < 7) :
    two (x_State_sayingBy th (k : Int) X) (m_soundingBy (v : Int) (k : Int) M) (fun r q => r = q ∧ SBy ns th X k r) := by
  obtain ⟨⟨tb, tb2, tnv, tnp, tns⟩, ⟨x0, x1, x2⟩, ⟨m0, m1, m2⟩, ⟨t3, t3a, t3b⟩, tpit, tper, tsay, trul⟩ := hT
  obtain ⟨rp, rs, rb, rw, rd, rt, rv, rl, rx, rk, rm, rk1, rk2, rk3, rz1, rz2⟩ := hS
  obtain ⟨ip, is, ib, iw, id, it, iv, il, ix, isnd, inm, iin, im, ik⟩ := hI
  unfold x_State_sayingBy m_soundingBy
  refine two_bnd (two_itr11 (fun n i j => ∃ c : Nat, i = (c : Int) ∧ j = (c : Int) ∧ n = ns - c ∧ c ≤ ns ∧ ∀ s, s < c → ¬ (X (th + 4) s = 2 ∧ X (th + 7) s = (k : Int))) (fun a b => (∃ r, a = .inl r ∧ b = .inl r ∧ SBy ns th X k r) ∨ (∃ r, a = .inr r ∧ b = .inr r ∧ SBy ns th X k (-1))) ?_ FUEL ns 0 0 (fuel_lt (by omega)) ⟨0, rfl, rfl, rfl, by omega, fun s hs => by omega⟩) ?_
  · rintro n i j ⟨c, rfl, rfl, rfl, hc, hno⟩ F G ih
    unfold x_State_sayingBy_L2 m_soundingBy_L2
    by_cases h : c < ns
    · have h1 := iw c h
      have h2 := iv c h
      repeat' (first | with_reducible refine two_lt_l ?_ | (with_reducible refine two_chk_l ?_ ?_; focus ((try simp (disch := omega) only [Bool.false_eq_true, not_true_eq_false, not_false_eq_true, Nat.reduceAdd, Nat.reduceMul, w32_eq, w64_eq, lc_eq, lc_lt, lc_le, lc_gt, lc_ge, up_k, up_i, up_e, Int.toNat_natCast, tn7, tn8, tn12, tn3, tn120, tn1600, x2]) <;> omega)) | (with_reducible refine two_ite_l (fun hcl => ?_) (fun hcl => ?_) <;> (try simp (disch := omega) only [Bool.false_eq_true, not_true_eq_false, not_false_eq_true, Nat.reduceAdd, Nat.reduceMul, w32_eq, w64_eq, lc_eq, lc_lt, lc_le, lc_gt, lc_ge, up_k, up_i, up_e, Int.toNat_natCast, tn7, tn8, tn12, tn3, tn120, tn1600, x2] at hcl) <;> (try (exfalso; first | omega | exact hcl rfl | exact hcl trivial | contradiction))))
      · repeat' (first | with_reducible refine two_lt_r ?_ | (with_reducible refine two_chk_r ?_ ?_; focus ((try simp (disch := omega) only [Bool.false_eq_true, not_true_eq_false, not_false_eq_true, Nat.reduceAdd, Nat.reduceMul, w32_eq, w64_eq, lc_eq, lc_lt, lc_le, lc_gt, lc_ge, up_k, up_i, up_e, Int.toNat_natCast, tn7, tn8, tn12, tn3, tn120, tn1600, tb, m2, rw, rv]) <;> omega)) | (with_reducible refine two_ite_r (fun hcr => ?_) (fun hcr => ?_) <;> (try simp (disch := omega) only [Bool.false_eq_true, not_true_eq_false, not_false_eq_true, Nat.reduceAdd, Nat.reduceMul, w32_eq, w64_eq, lc_eq, lc_lt, lc_le, lc_gt, lc_ge, up_k, up_i, up_e, Int.toNat_natCast, tn7, tn8, tn12, tn3, tn120, tn1600, tb, m2, rw, rv] at hcr) <;> (try (exfalso; first | omega | exact hcr rfl | exact hcr trivial | contradiction))))
        refine ih (ns - (c + 1)) _ _ (by omega) ⟨c + 1, rfl, rfl, rfl, by omega, fun s hs => ?_⟩
        by_cases e : s = c
        · subst e; intro z; omega
        · exact hno s (by omega)
      · repeat' (first | with_reducible refine two_lt_r ?_ | (with_reducible refine two_chk_r ?_ ?_; focus ((try simp (disch := omega) only [Bool.false_eq_true, not_true_eq_false, not_false_eq_true, Nat.reduceAdd, Nat.reduceMul, w32_eq, w64_eq, lc_eq, lc_lt, lc_le, lc_gt, lc_ge, up_k, up_i, up_e, Int.toNat_natCast, tn7, tn8, tn12, tn3, tn120, tn1600, tb, m2, rw, rv]) <;> omega)) | (with_reducible refine two_ite_r (fun hcr => ?_) (fun hcr => ?_) <;> (try simp (disch := omega) only [Bool.false_eq_true, not_true_eq_false, not_false_eq_true, Nat.reduceAdd, Nat.reduceMul, w32_eq, w64_eq, lc_eq, lc_lt, lc_le, lc_gt, lc_ge, up_k, up_i, up_e, Int.toNat_natCast, tn7, tn8, tn12, tn3, tn120, tn1600, tb, m2, rw, rv] at hcr) <;> (try (exfalso; first | omega | exact hcr rfl | exact hcr trivial | contradiction))))
        refine ih (ns - (c + 1)) _ _ (by omega) ⟨c + 1, rfl, rfl, rfl, by omega, fun s hs => ?_⟩
        by_cases e : s = c
        · subst e; intro z; omega
        · exact hno s (by omega)
      · repeat' (first | with_reducible refine two_lt_r ?_ | (with_reducible refine two_chk_r ?_ ?_; focus ((try simp (disch := omega) only [Bool.false_eq_true, not_true_eq_false, not_false_eq_true, Nat.reduceAdd, Nat.reduceMul, w32_eq, w64_eq, lc_eq, lc_lt, lc_le, lc_gt, lc_ge, up_k, up_i, up_e, Int.toNat_natCast, tn7, tn8, tn12, tn3, tn120, tn1600, tb, m2, rw, rv]) <;> omega)) | (with_reducible refine two_ite_r (fun hcr => ?_) (fun hcr => ?_) <;> (try simp (disch := omega) only [Bool.false_eq_true, not_true_eq_false, not_false_eq_true, Nat.reduceAdd, Nat.reduceMul, w32_eq, w64_eq, lc_eq, lc_lt, lc_le, lc_gt, lc_ge, up_k, up_i, up_e, Int.toNat_natCast, tn7, tn8, tn12, tn3, tn120, tn1600, tb, m2, rw, rv] at hcr) <;> (try (exfalso; first | omega | exact hcr rfl | exact hcr trivial | contradiction))))
        exact two_some (Or.inl ⟨_, rfl, rfl, Or.inr ⟨c, h, rfl, by omega, by omega⟩⟩)
    · repeat' (first | with_reducible refine two_lt_l ?_ | (with_reducible refine two_chk_l ?_ ?_; focus ((try simp (disch := omega) only [Bool.false_eq_true, not_true_eq_false, not_false_eq_true, Nat.reduceAdd, Nat.reduceMul, w32_eq, w64_eq, lc_eq, lc_lt, lc_le, lc_gt, lc_ge, up_k, up_i, up_e, Int.toNat_natCast, tn7, tn8, tn12, tn3, tn120, tn1600, x2]) <;> omega)) | (with_reducible refine two_ite_l (fun hcl => ?_) (fun hcl => ?_) <;> (try simp (disch := omega) only [Bool.false_eq_true, not_true_eq_false, not_false_eq_true, Nat.reduceAdd, Nat.reduceMul, w32_eq, w64_eq, lc_eq, lc_lt, lc_le, lc_gt, lc_ge, up_k, up_i, up_e, Int.toNat_natCast, tn7, tn8, tn12, tn3, tn120, tn1600, x2] at hcl) <;> (try (exfalso; first | omega | exact hcl rfl | exact hcl trivial | contradiction))))
      repeat' (first | with_reducible refine two_lt_r ?_ | (with_reducible refine two_chk_r ?_ ?_; focus ((try simp (disch := omega) only [Bool.false_eq_true, not_true_eq_false, not_false_eq_true, Nat.reduceAdd, Nat.reduceMul, w32_eq, w64_eq, lc_eq, lc_lt, lc_le, lc_gt, lc_ge, up_k, up_i, up_e, Int.toNat_natCast, tn7, tn8, tn12, tn3, tn120, tn1600, tb, m2]) <;> omega)) | (with_reducible refine two_ite_r (fun hcr => ?_) (fun hcr => ?_) <;> (try simp (disch := omega) only [Bool.false_eq_true, not_true_eq_false, not_false_eq_true, Nat.reduceAdd, Nat.reduceMul, w32_eq, w64_eq, lc_eq, lc_lt, lc_le, lc_gt, lc_ge, up_k, up_i, up_e, Int.toNat_natCast, tn7, tn8, tn12, tn3, tn120, tn1600, tb, m2] at hcr) <;> (try (exfalso; first | omega | exact hcr rfl | exact hcr trivial | contradiction))))
      exact two_some (Or.inr ⟨_, rfl, rfl, Or.inl ⟨rfl, fun s hs => hno s (by omega)⟩⟩)
  · rintro a b (⟨r, rfl, rfl, h⟩ | ⟨r, rfl, rfl, h⟩)
    · exact two_some ⟨rfl, h⟩
    · exact two_some ⟨rfl, h⟩
