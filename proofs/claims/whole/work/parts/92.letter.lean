/-! THE PURE PART: letter -/
theorem shr_amt64 : ∀ k : Nat, k < 64 → (((Int32.ofInt (k : Int)).toInt64 &&& 63).toBitVec.smod 64).toNat = k := by decide +kernel
theorem shr64_nat {n k : Nat} (hn : n < 9223372036854775808) (hk : k < 64) : shr64 (n : Int) (k : Int) = ((n >>> k : Nat) : Int) := by
  unfold shr64
  rw [Int64.ofInt_eq_ofNat (n := n)]
  have e : Int64.ofNat n >>> ((Int32.ofInt (k : Int)).toInt64 &&& 63) = Int64.ofNat (n >>> k) := by
    apply Int64.toBitVec_inj.mp
    rw [Int64.toBitVec_shiftRight]
    apply BitVec.eq_of_toNat_eq
    have hm : (Int64.ofNat n).toBitVec.msb = false := by
      show (BitVec.ofNat 64 n).msb = false
      rw [BitVec.msb_eq_decide]
      simp
      omega
    rw [BitVec.toNat_sshiftRight'_of_msb_false hm, shr_amt64 k hk]
    show (BitVec.ofNat 64 n).toNat >>> k = (BitVec.ofNat 64 (n >>> k)).toNat
    have := Nat.shiftRight_le n k
    rw [BitVec.toNat_ofNat, BitVec.toNat_ofNat, Nat.mod_eq_of_lt (by omega), Nat.mod_eq_of_lt (by omega)]
  rw [e, Int64.toInt_ofNat_of_lt]
  have := Nat.shiftRight_le n k
  omega
def vx : List Nat → Nat
  | [] => 0
  | c :: l => c + 32 * vx l
def vb : List Nat → Nat
  | [] => 0
  | c :: l => (c + 96) + 256 * vb l
theorem vx_eq (ls : List Nat) : ls.foldr (fun (c : Nat) (a : Int) => (c : Int) + 32 * a) 0 = ((vx ls : Nat) : Int) := by
  induction ls with
  | nil => rfl
  | cons c l ih => rw [List.foldr_cons, ih]; show _ = ((c + 32 * vx l : Nat) : Int); omega
theorem vb_eq (ls : List Nat) : ls.foldr (fun (c : Nat) (a : Int) => 256 * a + ((c : Int) + 96)) 0 = ((vb ls : Nat) : Int) := by
  induction ls with
  | nil => rfl
  | cons c l ih => rw [List.foldr_cons, ih]; show _ = (((c + 96) + 256 * vb l : Nat) : Int); omega
theorem vx_at : ∀ (ls : List Nat), (∀ c ∈ ls, 1 ≤ c ∧ c ≤ 26) → ∀ k, vx ls / 32 ^ k % 32 = ls.getD k 0 := by
  intro ls
  induction ls with
  | nil => intro _ k; show 0 / 32 ^ k % 32 = 0; rw [Nat.zero_div]
  | cons c l ih =>
    intro h k
    have hc := h c (List.mem_cons_self)
    cases k with
    | zero => show (c + 32 * vx l) / 1 % 32 = c; omega
    | succ k =>
      show (c + 32 * vx l) / 32 ^ (k + 1) % 32 = l.getD k 0
      rw [← ih (fun d hd => h d (List.mem_cons_of_mem _ hd)) k, Nat.pow_succ', ← Nat.div_div_eq_div_mul]
      rw [show (c + 32 * vx l) / 32 = vx l by omega]
theorem vb_at : ∀ (ls : List Nat), (∀ c ∈ ls, 1 ≤ c ∧ c ≤ 26) → ∀ k, k < ls.length → vb ls / 256 ^ k % 256 = ls.getD k 0 + 96 := by
  intro ls
  induction ls with
  | nil => intro _ k hk; exact absurd hk (Nat.not_lt_zero _)
  | cons c l ih =>
    intro h k hk
    have hc := h c (List.mem_cons_self)
    cases k with
    | zero => show (c + 96 + 256 * vb l) / 1 % 256 = c + 96; omega
    | succ k =>
      show (c + 96 + 256 * vb l) / 256 ^ (k + 1) % 256 = l.getD k 0 + 96
      rw [← ih (fun d hd => h d (List.mem_cons_of_mem _ hd)) k (Nat.lt_of_succ_lt_succ hk), Nat.pow_succ', ← Nat.div_div_eq_div_mul]
      rw [show (c + 96 + 256 * vb l) / 256 = vb l by omega]
theorem vx_lt : ∀ (ls : List Nat), (∀ c ∈ ls, 1 ≤ c ∧ c ≤ 26) → vx ls < 32 ^ ls.length := by
  intro ls
  induction ls with
  | nil => intro _; exact Nat.lt_succ_self 0
  | cons c l ih =>
    intro h
    have hc := h c (List.mem_cons_self)
    have := ih (fun d hd => h d (List.mem_cons_of_mem _ hd))
    show c + 32 * vx l < 32 ^ (l.length + 1)
    rw [Nat.pow_succ]
    omega
theorem vb_lt : ∀ (ls : List Nat), (∀ c ∈ ls, 1 ≤ c ∧ c ≤ 26) → vb ls < 256 ^ ls.length := by
  intro ls
  induction ls with
  | nil => intro _; exact Nat.lt_succ_self 0
  | cons c l ih =>
    intro h
    have hc := h c (List.mem_cons_self)
    have := ih (fun d hd => h d (List.mem_cons_of_mem _ hd))
    show c + 96 + 256 * vb l < 256 ^ (l.length + 1)
    rw [Nat.pow_succ]
    omega
theorem L92_step {v3 v5 v7 v8 : Int} {M : Mem} {rec : Int → Int → Option (Int × Int)} (h : 0 < v8 ∧ v8 < 9223372036854775808) : m_letter_L92 v3 v5 M rec v7 v8 = rec (v7 + 1) (shr64 v8 8) := by
  unfold m_letter_L92
  rw [if_neg (by rw [lc_le, w64_eq (by omega) (by omega), w64_eq (by omega) (by omega)]; omega)]
  rfl
theorem vb_loop {v3 v5 : Int} {M : Mem} : ∀ (ls : List Nat), (∀ c ∈ ls, 1 ≤ c ∧ c ≤ 26) → vb ls < 9223372036854775808 → ∀ (N v : Nat), ls.length < N → itr2 (m_letter_L92 v3 v5 M) N (v : Int) ((vb ls : Nat) : Int) = some (((v + ls.length : Nat) : Int), 0) := by
  intro ls
  induction ls with
  | nil =>
    intro _ _ N v hN
    obtain ⟨G, rfl⟩ : ∃ G, N = G + 1 := ⟨N - 1, by have : ([] : List Nat).length < N := hN; simp at this; omega⟩
    show m_letter_L92 v3 v5 M (fun a b => itr2 (m_letter_L92 v3 v5 M) G a b) (v : Int) ((vb [] : Nat) : Int) = _
    unfold m_letter_L92
    rw [if_pos (by rw [lc_le]; decide +kernel)]
    rfl
  | cons c l ih =>
    intro h hb N v hN
    have hc := h c (List.mem_cons_self)
    have e0 : vb (c :: l) = c + 96 + 256 * vb l := rfl
    obtain ⟨G, rfl⟩ : ∃ G, N = G + 1 := ⟨N - 1, by rw [List.length_cons] at hN; omega⟩
    show m_letter_L92 v3 v5 M (fun a b => itr2 (m_letter_L92 v3 v5 M) G a b) (v : Int) ((vb (c :: l) : Nat) : Int) = _
    rw [L92_step (by omega)]
    have hs : shr64 ((vb (c :: l) : Nat) : Int) 8 = ((vb l : Nat) : Int) := by
      have := shr64_nat (n := vb (c :: l)) (k := 8) hb (by omega)
      have e8 : ((8 : Nat) : Int) = 8 := rfl
      rw [e8] at this
      rw [this, Nat.shiftRight_eq_div_pow, e0]
      omega
    show itr2 (m_letter_L92 v3 v5 M) G ((v : Int) + 1) (shr64 ((vb (c :: l) : Nat) : Int) 8) = _
    rw [hs]
    rw [List.length_cons] at hN ⊢
    have := ih (fun d hd => h d (List.mem_cons_of_mem _ hd)) (by omega) G (v + 1) (by omega)
    rw [show ((v : Int) + 1) = ((v + 1 : Nat) : Int) by omega, this]
    congr 2
    omega
theorem rev_at {ls : List Nat} {k : Nat} (hk : k < ls.length) : ls.reverse.getD (ls.length - 1 - k) 0 = ls.getD k 0 := by
  rw [List.getD_eq_getElem?_getD, List.getD_eq_getElem?_getD, List.getElem?_reverse (by omega)]
  rw [show ls.length - 1 - (ls.length - 1 - k) = k by omega]
theorem pow_le6 {b n : Nat} (hb : 1 ≤ b) (hn : n ≤ 6) : b ^ n ≤ b ^ 6 := Nat.pow_le_pow_right hb hn
theorem letter_eq {x m : Int} {k : Nat} {M : Mem} (h : NameEq x m) (hk : k < 6) : two (x_Word_letterOf x (k : Int)) (m_letter_B83 (k : Int) m M) (fun p q => p = q) := by
  obtain ⟨ls, h1, h2, h3, h4, h5⟩ := h
  rw [vx_eq] at h4
  have hrev : ∀ c ∈ ls.reverse, 1 ≤ c ∧ c ≤ 26 := fun c hc => h3 c (List.mem_reverse.mp hc)
  have h5' : m = ((vb ls.reverse : Nat) : Int) := by
    rw [h5, ← vb_eq, List.foldr_reverse]
  subst h4
  subst h5'
  have bx := vx_lt ls h3
  have bb := vb_lt ls.reverse hrev
  rw [List.length_reverse] at bb
  have px := pow_le6 (b := 32) (by omega) h1
  have pb := pow_le6 (b := 256) (by omega) h1
  have e32 : (32 : Nat) ^ 6 = 1073741824 := by decide +kernel
  have e256 : (256 : Nat) ^ 6 = 281474976710656 := by decide +kernel
  have hl := vb_loop (v3 := (k : Int)) (v5 := ((vb ls.reverse : Nat) : Int)) (M := M) ls.reverse hrev (by omega) FUEL 0 (by rw [List.length_reverse]; exact fuel_lt (by omega))
  rw [List.length_reverse] at hl
  have ex : and32 (shr32 ((vx ls : Nat) : Int) (5 * (k : Int))) 31 = ((ls.getD k 0 : Nat) : Int) := by
    rw [show 5 * (k : Int) = ((5 * k : Nat) : Int) by omega, shr32_nat (by omega) (by omega)]
    have hle := Nat.shiftRight_le (vx ls) (5 * k)
    rw [show (31 : Int) = ((31 : Nat) : Int) from rfl, and32_nat (by omega)]
    rw [show (31 : Nat) = 2 ^ 5 - 1 from rfl, Nat.and_two_pow_sub_one_eq_mod, Nat.shiftRight_eq_div_pow, Nat.pow_mul]
    rw [show (2 : Nat) ^ 5 = 32 from rfl, vx_at ls h3 k]
  unfold x_Word_letterOf m_letter_B83
  rw [ex]
  refine two_bnd_r hl ?_
  simp only
  by_cases hkl : k < ls.length
  · rw [if_pos (by rw [w32_eq (by omega) (by omega), w32_eq (by omega) (by omega)]; omega)]
    have em : and64 (shr64 ((vb ls.reverse : Nat) : Int) (8 * ((((0 + ls.length : Nat) : Int) - 1) - (k : Int)))) 255 = ((ls.getD k 0 + 96 : Nat) : Int) := by
      rw [show 8 * ((((0 + ls.length : Nat) : Int) - 1) - (k : Int)) = ((8 * (ls.length - 1 - k) : Nat) : Int) by omega, shr64_nat (by omega) (by omega)]
      have hle := Nat.shiftRight_le (vb ls.reverse) (8 * (ls.length - 1 - k))
      rw [show (255 : Int) = ((255 : Nat) : Int) from rfl, and64_nat (by omega)]
      rw [show (255 : Nat) = 2 ^ 8 - 1 from rfl, Nat.and_two_pow_sub_one_eq_mod, Nat.shiftRight_eq_div_pow, Nat.pow_mul]
      rw [show (2 : Nat) ^ 8 = 256 from rfl, vb_at ls.reverse hrev _ (by rw [List.length_reverse]; omega), rev_at hkl]
    rw [em]
    exact two_some (by omega)
  · rw [if_neg (by rw [w32_eq (by omega) (by omega), w32_eq (by omega) (by omega)]; omega)]
    refine two_some ?_
    rw [List.getD_eq_getElem?_getD, List.getElem?_eq_none (by omega)]
    rfl
theorem ls_letter : LS_letter RR := by
  rintro k X M a1 a2 a3 hk h1 h2 h3 ⟨nv, np, ns, bk, hR⟩
  refine lr_of ⟨nv, np, ns, bk, RAll_up hR⟩ ?_
  unfold i32 at h1 h2 h3
  have hT := hR.1
  obtain ⟨e1, f1⟩ := xm_isVoice hT h2
  obtain ⟨e2, f2⟩ := xm_isPerson hT h2
  have f3 := m_is_eq (a := a3) (b := 0) (c := 5) h3 (by omega) (by omega)
  obtain ⟨⟨tb, tb2, tnv, tnp, tns⟩, ⟨x0, x1, x2⟩, ⟨m0, m1, m2⟩, ⟨t3, t3a, t3b⟩, tpit, tper, tsay, trul⟩ := hT
  have none' : ∀ (v1 : Int), two (some (-1) : Option Int) (m_letter_B30 v1 a2 a3 0 M) (fun p q => w32 p = w32 q) := fun v1 => by
    unfold m_letter_B30
    rw [if_pos w32_0]
    exact two_some rfl
  unfold x_X_letter x_X_letter_B38 m_letter m_letter_B29
  by_cases c3 : 0 ≤ a3 ∧ a3 ≤ 5
  · obtain ⟨j, rfl⟩ := Int.eq_ofNat_of_zero_le c3.1
    repeat' (first | with_reducible refine two_lt_l ?_ | (with_reducible refine two_chk_l ?_ ?_; focus ((try simp (disch := omega) only [Bool.false_eq_true, not_true_eq_false, not_false_eq_true, Nat.reduceAdd, Nat.reduceMul, w32_eq, w64_eq, lc_eq, lc_lt, lc_le, lc_gt, lc_ge, up_k, up_i, up_e, Int.toNat_natCast, tn7, tn8, tn12, tn3, tn120, tn1600, w32_and, w32_or, w32_xor, w32_shl, w32_shr, has2_eq]) <;> omega)) | (with_reducible refine two_ite_l (fun hcl => ?_) (fun hcl => ?_) <;> (try simp (disch := omega) only [Bool.false_eq_true, not_true_eq_false, not_false_eq_true, Nat.reduceAdd, Nat.reduceMul, w32_eq, w64_eq, lc_eq, lc_lt, lc_le, lc_gt, lc_ge, up_k, up_i, up_e, Int.toNat_natCast, tn7, tn8, tn12, tn3, tn120, tn1600, w32_and, w32_or, w32_xor, w32_shl, w32_shr, has2_eq] at hcl) <;> (try (exfalso; first | omega | exact hcl rfl | exact hcl trivial | contradiction))))
    · repeat' (first | with_reducible refine two_lt_r ?_ | (with_reducible refine two_chk_r ?_ ?_; focus ((try simp (disch := omega) only [Bool.false_eq_true, not_true_eq_false, not_false_eq_true, Nat.reduceAdd, Nat.reduceMul, w32_eq, w64_eq, lc_eq, lc_lt, lc_le, lc_gt, lc_ge, up_k, up_i, up_e, Int.toNat_natCast, tn7, tn8, tn12, tn3, tn120, tn1600, w32_and, w32_or, w32_xor, w32_shl, w32_shr, has2_eq]) <;> omega)) | (with_reducible refine two_ite_r (fun hcr => ?_) (fun hcr => ?_) <;> (try simp (disch := omega) only [Bool.false_eq_true, not_true_eq_false, not_false_eq_true, Nat.reduceAdd, Nat.reduceMul, w32_eq, w64_eq, lc_eq, lc_lt, lc_le, lc_gt, lc_ge, up_k, up_i, up_e, Int.toNat_natCast, tn7, tn8, tn12, tn3, tn120, tn1600, w32_and, w32_or, w32_xor, w32_shl, w32_shr, has2_eq] at hcr) <;> (try (exfalso; first | omega | exact hcr rfl | exact hcr trivial | contradiction))))
      exact none' _
    · refine two_bnd_l e2 ?_
      repeat' (first | with_reducible refine two_lt_r ?_ | (with_reducible refine two_chk_r ?_ ?_; focus ((try simp (disch := omega) only [Bool.false_eq_true, not_true_eq_false, not_false_eq_true, Nat.reduceAdd, Nat.reduceMul, w32_eq, w64_eq, lc_eq, lc_lt, lc_le, lc_gt, lc_ge, up_k, up_i, up_e, Int.toNat_natCast, tn7, tn8, tn12, tn3, tn120, tn1600, w32_and, w32_or, w32_xor, w32_shl, w32_shr, has2_eq]) <;> omega)) | (with_reducible refine two_ite_r (fun hcr => ?_) (fun hcr => ?_) <;> (try simp (disch := omega) only [Bool.false_eq_true, not_true_eq_false, not_false_eq_true, Nat.reduceAdd, Nat.reduceMul, w32_eq, w64_eq, lc_eq, lc_lt, lc_le, lc_gt, lc_ge, up_k, up_i, up_e, Int.toNat_natCast, tn7, tn8, tn12, tn3, tn120, tn1600, w32_and, w32_or, w32_xor, w32_shl, w32_shr, has2_eq] at hcr) <;> (try (exfalso; first | omega | exact hcr rfl | exact hcr trivial | contradiction))))
      refine two_bnd_r f2 ?_
      by_cases c2 : 0 ≤ a2 ∧ a2 < (np : Int)
      · simp only [decide_eq_true c2, ↓reduceIte]
        obtain ⟨s, rfl⟩ := Int.eq_ofNat_of_zero_le c2.1
        have hn := (tper s (by omega)).1
        unfold m_letter_B30
        repeat' (first | with_reducible refine two_lt_l ?_ | (with_reducible refine two_chk_l ?_ ?_; focus ((try simp (disch := omega) only [Bool.false_eq_true, not_true_eq_false, not_false_eq_true, Nat.reduceAdd, Nat.reduceMul, w32_eq, w64_eq, lc_eq, lc_lt, lc_le, lc_gt, lc_ge, up_k, up_i, up_e, Int.toNat_natCast, tn7, tn8, tn12, tn3, tn120, tn1600, w32_and, w32_or, w32_xor, w32_shl, w32_shr, has2_eq]) <;> omega)) | (with_reducible refine two_ite_l (fun hcl => ?_) (fun hcl => ?_) <;> (try simp (disch := omega) only [Bool.false_eq_true, not_true_eq_false, not_false_eq_true, Nat.reduceAdd, Nat.reduceMul, w32_eq, w64_eq, lc_eq, lc_lt, lc_le, lc_gt, lc_ge, up_k, up_i, up_e, Int.toNat_natCast, tn7, tn8, tn12, tn3, tn120, tn1600, w32_and, w32_or, w32_xor, w32_shl, w32_shr, has2_eq] at hcl) <;> (try (exfalso; first | omega | exact hcl rfl | exact hcl trivial | contradiction))))
        repeat' (first | with_reducible refine two_lt_r ?_ | (with_reducible refine two_chk_r ?_ ?_; focus ((try simp (disch := omega) only [Bool.false_eq_true, not_true_eq_false, not_false_eq_true, Nat.reduceAdd, Nat.reduceMul, w32_eq, w64_eq, lc_eq, lc_lt, lc_le, lc_gt, lc_ge, up_k, up_i, up_e, Int.toNat_natCast, tn7, tn8, tn12, tn3, tn120, tn1600, w32_and, w32_or, w32_xor, w32_shl, w32_shr, has2_eq, tb]) <;> omega)) | (with_reducible refine two_ite_r (fun hcr => ?_) (fun hcr => ?_) <;> (try simp (disch := omega) only [Bool.false_eq_true, not_true_eq_false, not_false_eq_true, Nat.reduceAdd, Nat.reduceMul, w32_eq, w64_eq, lc_eq, lc_lt, lc_le, lc_gt, lc_ge, up_k, up_i, up_e, Int.toNat_natCast, tn7, tn8, tn12, tn3, tn120, tn1600, w32_and, w32_or, w32_xor, w32_shl, w32_shr, has2_eq, tb] at hcr) <;> (try (exfalso; first | omega | exact hcr rfl | exact hcr trivial | contradiction))))
        refine two_bnd_r f3 ?_
        simp only [decide_eq_true c3, ↓reduceIte]
        repeat' (first | with_reducible refine two_lt_r ?_ | (with_reducible refine two_chk_r ?_ ?_; focus ((try simp (disch := omega) only [Bool.false_eq_true, not_true_eq_false, not_false_eq_true, Nat.reduceAdd, Nat.reduceMul, w32_eq, w64_eq, lc_eq, lc_lt, lc_le, lc_gt, lc_ge, up_k, up_i, up_e, Int.toNat_natCast, tn7, tn8, tn12, tn3, tn120, tn1600, w32_and, w32_or, w32_xor, w32_shl, w32_shr, has2_eq, tb]) <;> omega)) | (with_reducible refine two_ite_r (fun hcr => ?_) (fun hcr => ?_) <;> (try simp (disch := omega) only [Bool.false_eq_true, not_true_eq_false, not_false_eq_true, Nat.reduceAdd, Nat.reduceMul, w32_eq, w64_eq, lc_eq, lc_lt, lc_le, lc_gt, lc_ge, up_k, up_i, up_e, Int.toNat_natCast, tn7, tn8, tn12, tn3, tn120, tn1600, w32_and, w32_or, w32_xor, w32_shl, w32_shr, has2_eq, tb] at hcr) <;> (try (exfalso; first | omega | exact hcr rfl | exact hcr trivial | contradiction))))
        rw [tb, tn8]
        simp only [Int.toNat_natCast, bnd_id]
        refine two_mono (letter_eq hn (by omega)) ?_
        rintro p q rfl
        rfl
      · simp only [decide_eq_false c2, Bool.false_eq_true, ↓reduceIte]
        exact none' _
    · refine two_bnd_l e1 ?_
      repeat' (first | with_reducible refine two_lt_r ?_ | (with_reducible refine two_chk_r ?_ ?_; focus ((try simp (disch := omega) only [Bool.false_eq_true, not_true_eq_false, not_false_eq_true, Nat.reduceAdd, Nat.reduceMul, w32_eq, w64_eq, lc_eq, lc_lt, lc_le, lc_gt, lc_ge, up_k, up_i, up_e, Int.toNat_natCast, tn7, tn8, tn12, tn3, tn120, tn1600, w32_and, w32_or, w32_xor, w32_shl, w32_shr, has2_eq]) <;> omega)) | (with_reducible refine two_ite_r (fun hcr => ?_) (fun hcr => ?_) <;> (try simp (disch := omega) only [Bool.false_eq_true, not_true_eq_false, not_false_eq_true, Nat.reduceAdd, Nat.reduceMul, w32_eq, w64_eq, lc_eq, lc_lt, lc_le, lc_gt, lc_ge, up_k, up_i, up_e, Int.toNat_natCast, tn7, tn8, tn12, tn3, tn120, tn1600, w32_and, w32_or, w32_xor, w32_shl, w32_shr, has2_eq] at hcr) <;> (try (exfalso; first | omega | exact hcr rfl | exact hcr trivial | contradiction))))
      refine two_bnd_r f1 ?_
      by_cases c2 : 0 ≤ a2 ∧ a2 < (nv : Int)
      · simp only [decide_eq_true c2, ↓reduceIte]
        obtain ⟨s, rfl⟩ := Int.eq_ofNat_of_zero_le c2.1
        have hn := (tpit s (by omega)).1
        have hb : b2i true = 1 := rfl
        rw [hb]
        unfold m_letter_B30
        repeat' (first | with_reducible refine two_lt_l ?_ | (with_reducible refine two_chk_l ?_ ?_; focus ((try simp (disch := omega) only [Bool.false_eq_true, not_true_eq_false, not_false_eq_true, Nat.reduceAdd, Nat.reduceMul, w32_eq, w64_eq, lc_eq, lc_lt, lc_le, lc_gt, lc_ge, up_k, up_i, up_e, Int.toNat_natCast, tn7, tn8, tn12, tn3, tn120, tn1600, w32_and, w32_or, w32_xor, w32_shl, w32_shr, has2_eq]) <;> omega)) | (with_reducible refine two_ite_l (fun hcl => ?_) (fun hcl => ?_) <;> (try simp (disch := omega) only [Bool.false_eq_true, not_true_eq_false, not_false_eq_true, Nat.reduceAdd, Nat.reduceMul, w32_eq, w64_eq, lc_eq, lc_lt, lc_le, lc_gt, lc_ge, up_k, up_i, up_e, Int.toNat_natCast, tn7, tn8, tn12, tn3, tn120, tn1600, w32_and, w32_or, w32_xor, w32_shl, w32_shr, has2_eq] at hcl) <;> (try (exfalso; first | omega | exact hcl rfl | exact hcl trivial | contradiction))))
        repeat' (first | with_reducible refine two_lt_r ?_ | (with_reducible refine two_chk_r ?_ ?_; focus ((try simp (disch := omega) only [Bool.false_eq_true, not_true_eq_false, not_false_eq_true, Nat.reduceAdd, Nat.reduceMul, w32_eq, w64_eq, lc_eq, lc_lt, lc_le, lc_gt, lc_ge, up_k, up_i, up_e, Int.toNat_natCast, tn7, tn8, tn12, tn3, tn120, tn1600, w32_and, w32_or, w32_xor, w32_shl, w32_shr, has2_eq, tb]) <;> omega)) | (with_reducible refine two_ite_r (fun hcr => ?_) (fun hcr => ?_) <;> (try simp (disch := omega) only [Bool.false_eq_true, not_true_eq_false, not_false_eq_true, Nat.reduceAdd, Nat.reduceMul, w32_eq, w64_eq, lc_eq, lc_lt, lc_le, lc_gt, lc_ge, up_k, up_i, up_e, Int.toNat_natCast, tn7, tn8, tn12, tn3, tn120, tn1600, w32_and, w32_or, w32_xor, w32_shl, w32_shr, has2_eq, tb] at hcr) <;> (try (exfalso; first | omega | exact hcr rfl | exact hcr trivial | contradiction))))
        refine two_bnd_r f3 ?_
        simp only [decide_eq_true c3, ↓reduceIte]
        repeat' (first | with_reducible refine two_lt_r ?_ | (with_reducible refine two_chk_r ?_ ?_; focus ((try simp (disch := omega) only [Bool.false_eq_true, not_true_eq_false, not_false_eq_true, Nat.reduceAdd, Nat.reduceMul, w32_eq, w64_eq, lc_eq, lc_lt, lc_le, lc_gt, lc_ge, up_k, up_i, up_e, Int.toNat_natCast, tn7, tn8, tn12, tn3, tn120, tn1600, w32_and, w32_or, w32_xor, w32_shl, w32_shr, has2_eq, tb]) <;> omega)) | (with_reducible refine two_ite_r (fun hcr => ?_) (fun hcr => ?_) <;> (try simp (disch := omega) only [Bool.false_eq_true, not_true_eq_false, not_false_eq_true, Nat.reduceAdd, Nat.reduceMul, w32_eq, w64_eq, lc_eq, lc_lt, lc_le, lc_gt, lc_ge, up_k, up_i, up_e, Int.toNat_natCast, tn7, tn8, tn12, tn3, tn120, tn1600, w32_and, w32_or, w32_xor, w32_shl, w32_shr, has2_eq, tb] at hcr) <;> (try (exfalso; first | omega | exact hcr rfl | exact hcr trivial | contradiction))))
        rw [tb, tn7]
        simp only [Int.toNat_natCast, bnd_id]
        refine two_mono (letter_eq hn (by omega)) ?_
        rintro p q rfl
        rfl
      · simp only [decide_eq_false c2, Bool.false_eq_true, ↓reduceIte]
        have hb : b2i false = 0 := rfl
        rw [hb]
        repeat' (first | with_reducible refine two_lt_l ?_ | (with_reducible refine two_chk_l ?_ ?_; focus ((try simp (disch := omega) only [Bool.false_eq_true, not_true_eq_false, not_false_eq_true, Nat.reduceAdd, Nat.reduceMul, w32_eq, w64_eq, lc_eq, lc_lt, lc_le, lc_gt, lc_ge, up_k, up_i, up_e, Int.toNat_natCast, tn7, tn8, tn12, tn3, tn120, tn1600, w32_and, w32_or, w32_xor, w32_shl, w32_shr, has2_eq]) <;> omega)) | (with_reducible refine two_ite_l (fun hcl => ?_) (fun hcl => ?_) <;> (try simp (disch := omega) only [Bool.false_eq_true, not_true_eq_false, not_false_eq_true, Nat.reduceAdd, Nat.reduceMul, w32_eq, w64_eq, lc_eq, lc_lt, lc_le, lc_gt, lc_ge, up_k, up_i, up_e, Int.toNat_natCast, tn7, tn8, tn12, tn3, tn120, tn1600, w32_and, w32_or, w32_xor, w32_shl, w32_shr, has2_eq] at hcl) <;> (try (exfalso; first | omega | exact hcl rfl | exact hcl trivial | contradiction))))
        exact none' _
  · have x3 : ∀ y : Option Int, two (some (-1) : Option Int) y (fun p q => w32 p = w32 q) → two (x_X_letter a1 a2 a3 X) y (fun p q => w32 p = w32 q) := fun y hy => by
      unfold x_X_letter
      repeat' (first | with_reducible refine two_lt_l ?_ | (with_reducible refine two_chk_l ?_ ?_; focus ((try simp (disch := omega) only [Bool.false_eq_true, not_true_eq_false, not_false_eq_true, Nat.reduceAdd, Nat.reduceMul, w32_eq, w64_eq, lc_eq, lc_lt, lc_le, lc_gt, lc_ge, up_k, up_i, up_e, Int.toNat_natCast, tn7, tn8, tn12, tn3, tn120, tn1600, w32_and, w32_or, w32_xor, w32_shl, w32_shr, has2_eq]) <;> omega)) | (with_reducible refine two_ite_l (fun hcl => ?_) (fun hcl => ?_) <;> (try simp (disch := omega) only [Bool.false_eq_true, not_true_eq_false, not_false_eq_true, Nat.reduceAdd, Nat.reduceMul, w32_eq, w64_eq, lc_eq, lc_lt, lc_le, lc_gt, lc_ge, up_k, up_i, up_e, Int.toNat_natCast, tn7, tn8, tn12, tn3, tn120, tn1600, w32_and, w32_or, w32_xor, w32_shl, w32_shr, has2_eq] at hcl) <;> (try (exfalso; first | omega | exact hcl rfl | exact hcl trivial | contradiction))))
      · exact hy
      · exact hy
    refine x3 _ ?_
    have b30 : ∀ (v1 s0 : Int), two (some (-1) : Option Int) (m_letter_B30 v1 a2 a3 s0 M) (fun p q => w32 p = w32 q) := fun v1 s0 => by
      unfold m_letter_B30
      refine two_ite_r (fun _ => two_some rfl) (fun _ => ?_)
      refine two_bnd_r f3 ?_
      simp only [decide_eq_false c3, Bool.false_eq_true, ↓reduceIte]
      exact two_some rfl
    repeat' (first | with_reducible refine two_lt_r ?_ | (with_reducible refine two_chk_r ?_ ?_; focus ((try simp (disch := omega) only [Bool.false_eq_true, not_true_eq_false, not_false_eq_true, Nat.reduceAdd, Nat.reduceMul, w32_eq, w64_eq, lc_eq, lc_lt, lc_le, lc_gt, lc_ge, up_k, up_i, up_e, Int.toNat_natCast, tn7, tn8, tn12, tn3, tn120, tn1600, w32_and, w32_or, w32_xor, w32_shl, w32_shr, has2_eq]) <;> omega)) | (with_reducible refine two_ite_r (fun hcr => ?_) (fun hcr => ?_) <;> (try simp (disch := omega) only [Bool.false_eq_true, not_true_eq_false, not_false_eq_true, Nat.reduceAdd, Nat.reduceMul, w32_eq, w64_eq, lc_eq, lc_lt, lc_le, lc_gt, lc_ge, up_k, up_i, up_e, Int.toNat_natCast, tn7, tn8, tn12, tn3, tn120, tn1600, w32_and, w32_or, w32_xor, w32_shl, w32_shr, has2_eq] at hcr) <;> (try (exfalso; first | omega | exact hcr rfl | exact hcr trivial | contradiction))))
    · exact b30 _ _
    · refine two_bnd_r f2 ?_
      refine two_ite_r (fun _ => ?_) (fun _ => ?_)
      · exact b30 _ _
      · exact b30 _ _
    · refine two_bnd_r f1 ?_
      exact b30 _ _
