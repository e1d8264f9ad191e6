/-! THE PURE PART: counts, who is free, the sum of picks -/
theorem RT_of {nv np ns bk : Nat} {X M X1 M1 : Mem} (h : RT nv np ns bk X M) (hx : ∀ a, 23 ≤ a → a ≤ 36 → a ≠ 33 → X1 a = X a) (h0 : M1 0 13 = M 0 13) (hm : ∀ a, 2 ≤ a → a ≤ 17 → M1 a = M a) : RT nv np ns bk X1 M1 := by
  unfold RT RuleEq at h ⊢
  simp only [h0, hx 23 (by omega) (by omega) (by omega), hx 24 (by omega) (by omega) (by omega), hx 25 (by omega) (by omega) (by omega), hx 26 (by omega) (by omega) (by omega), hx 27 (by omega) (by omega) (by omega), hx 28 (by omega) (by omega) (by omega), hx 29 (by omega) (by omega) (by omega), hx 30 (by omega) (by omega) (by omega), hx 31 (by omega) (by omega) (by omega), hx 34 (by omega) (by omega) (by omega), hx 35 (by omega) (by omega) (by omega), hx 36 (by omega) (by omega) (by omega),
    hm 2 (by omega) (by omega), hm 3 (by omega) (by omega), hm 4 (by omega) (by omega), hm 5 (by omega) (by omega), hm 6 (by omega) (by omega), hm 7 (by omega) (by omega), hm 8 (by omega) (by omega), hm 9 (by omega) (by omega), hm 10 (by omega) (by omega), hm 11 (by omega) (by omega), hm 12 (by omega) (by omega), hm 13 (by omega) (by omega), hm 14 (by omega) (by omega), hm 15 (by omega) (by omega), hm 16 (by omega) (by omega), hm 17 (by omega) (by omega)]
  exact h
theorem RT_s {nv np ns bk : Nat} {X M X1 M1 : Mem} (h : RT nv np ns bk X M) (hx : FXs X X1) (hm : FMs M M1) : RT nv np ns bk X1 M1 :=
  RT_of h (fun a _ _ h3 => hx a h3 (by omega)) (by rw [hm 0 (by omega) (by omega)]) (fun a _ _ => hm a (by omega) (by omega))
theorem RS_of {nv ns th v : Nat} {X M X1 M1 : Mem} (h : RS nv ns th v X M) (hx : ∀ a, th ≤ a → a ≤ th + 12 → X1 a = X a) (hm : ∀ a, 25 ≤ a → a ≤ 36 → M1 a = M a) : RS nv ns th v X1 M1 := by
  unfold RS at h ⊢
  simp only [hx th (by omega) (by omega), hx (th + 1) (by omega) (by omega), hx (th + 2) (by omega) (by omega), hx (th + 3) (by omega) (by omega), hx (th + 4) (by omega) (by omega), hx (th + 5) (by omega) (by omega), hx (th + 6) (by omega) (by omega), hx (th + 7) (by omega) (by omega), hx (th + 8) (by omega) (by omega), hx (th + 9) (by omega) (by omega), hx (th + 10) (by omega) (by omega), hx (th + 11) (by omega) (by omega), hx (th + 12) (by omega) (by omega),
    hm 25 (by omega) (by omega), hm 26 (by omega) (by omega), hm 27 (by omega) (by omega), hm 28 (by omega) (by omega), hm 29 (by omega) (by omega), hm 30 (by omega) (by omega), hm 31 (by omega) (by omega), hm 32 (by omega) (by omega), hm 33 (by omega) (by omega), hm 34 (by omega) (by omega), hm 35 (by omega) (by omega), hm 36 (by omega) (by omega)]
  exact h
theorem RS_s {nv ns th v : Nat} {X M X1 M1 : Mem} (h : RS nv ns th v X M) (hth : 38 ≤ th) (hx : FXs X X1) (hm : FMs M M1) : RS nv ns th v X1 M1 :=
  RS_of h (fun a _ _ => hx a (by omega) (by omega)) (fun a _ _ => hm a (by omega) (by omega))
theorem SI_of {nv ns th : Nat} {X X1 : Mem} (h : SI nv ns th X) (hx : ∀ a, th ≤ a → a ≤ th + 12 → X1 a = X a) : SI nv ns th X1 := by
  unfold SI at h ⊢
  simp only [hx th (by omega) (by omega), hx (th + 1) (by omega) (by omega), hx (th + 2) (by omega) (by omega), hx (th + 3) (by omega) (by omega), hx (th + 4) (by omega) (by omega), hx (th + 5) (by omega) (by omega), hx (th + 6) (by omega) (by omega), hx (th + 7) (by omega) (by omega), hx (th + 8) (by omega) (by omega), hx (th + 9) (by omega) (by omega)]
  exact h
theorem SI_s {nv ns th : Nat} {X X1 : Mem} (h : SI nv ns th X) (hth : 38 ≤ th) (hx : FXs X X1) : SI nv ns th X1 := SI_of h (fun a _ _ => hx a (by omega) (by omega))
/-- how many are of a kind -/
def cw (ns th : Nat) (X : Mem) (k : Int) : Nat := cnt (fun s => decide (X (th + 4) s = k)) ns
theorem x_count {ns th : Nat} {X : Mem} {k : Int} (h2 : X 23 2 = (ns : Int)) (hns : ns ≤ 12) (hw : ∀ s, s < ns → 0 ≤ X (th + 4) s ∧ X (th + 4) s ≤ 5) (hk : 0 ≤ k ∧ k ≤ 5) : x_State_countOf th k X = some (cw ns th X k : Int) := by
  have key : post (x_State_countOf th k X) (fun r => r = (cw ns th X k : Int)) := by
    unfold x_State_countOf
    refine post_bnd (post_itr2 (fun n (i j : Int) => ∃ c : Nat, j = (c : Int) ∧ i = (cnt (fun s => decide (X (th + 4) s = k)) c : Nat) ∧ c ≤ ns ∧ n = ns - c) (fun (a : Int × Int) => a.1 = (cw ns th X k : Int)) ?_ FUEL ns 0 0 (fuel_lt (by omega)) ⟨0, rfl, rfl, by omega, rfl⟩) ?_
    · rintro n i j ⟨c, rfl, rfl, hc, rfl⟩ F ih
      unfold x_State_countOf_L4
      by_cases h : c < ns
      · have h1 := hw c h
        repeat' (first | with_reducible refine post_lt ?_ | (with_reducible refine post_chk ?_ ?_; focus ((try simp (disch := omega) only [Bool.false_eq_true, not_true_eq_false, not_false_eq_true, Nat.reduceAdd, Nat.reduceMul, w32_eq, w64_eq, lc_eq, lc_lt, lc_le, lc_gt, lc_ge, up_k, up_i, up_e, Int.toNat_natCast, tn7, tn8, tn12, tn3, tn120, tn1600, w32_and, w32_or, w32_xor, w32_shl, w32_shr, has2_eq, h2]) <;> omega)) | (with_reducible refine post_ite (fun hcp => ?_) (fun hcp => ?_) <;> (try simp (disch := omega) only [Bool.false_eq_true, not_true_eq_false, not_false_eq_true, Nat.reduceAdd, Nat.reduceMul, w32_eq, w64_eq, lc_eq, lc_lt, lc_le, lc_gt, lc_ge, up_k, up_i, up_e, Int.toNat_natCast, tn7, tn8, tn12, tn3, tn120, tn1600, w32_and, w32_or, w32_xor, w32_shl, w32_shr, has2_eq, h2] at hcp) <;> (try (exfalso; first | omega | exact hcp rfl | exact hcp trivial | contradiction))))
        · refine ih (ns - (c + 1)) _ _ (by omega) ⟨c + 1, rfl, ?_, by omega, rfl⟩
          rw [cnt, if_neg (by simpa using hcp)]; rfl
        · refine ih (ns - (c + 1)) _ _ (by omega) ⟨c + 1, rfl, ?_, by omega, rfl⟩
          rw [cnt, if_pos (by simpa using hcp)]; rfl
      · repeat' (first | with_reducible refine post_lt ?_ | (with_reducible refine post_chk ?_ ?_; focus ((try simp (disch := omega) only [Bool.false_eq_true, not_true_eq_false, not_false_eq_true, Nat.reduceAdd, Nat.reduceMul, w32_eq, w64_eq, lc_eq, lc_lt, lc_le, lc_gt, lc_ge, up_k, up_i, up_e, Int.toNat_natCast, tn7, tn8, tn12, tn3, tn120, tn1600, w32_and, w32_or, w32_xor, w32_shl, w32_shr, has2_eq, h2]) <;> omega)) | (with_reducible refine post_ite (fun hcp => ?_) (fun hcp => ?_) <;> (try simp (disch := omega) only [Bool.false_eq_true, not_true_eq_false, not_false_eq_true, Nat.reduceAdd, Nat.reduceMul, w32_eq, w64_eq, lc_eq, lc_lt, lc_le, lc_gt, lc_ge, up_k, up_i, up_e, Int.toNat_natCast, tn7, tn8, tn12, tn3, tn120, tn1600, w32_and, w32_or, w32_xor, w32_shl, w32_shr, has2_eq, h2] at hcp) <;> (try (exfalso; first | omega | exact hcp rfl | exact hcp trivial | contradiction))))
        have : c = ns := by omega
        subst this
        exact post_some rfl
    · rintro ⟨a, b⟩ h
      exact post_some h
  obtain ⟨a, h1, h2⟩ := key
  rw [h1, h2]
theorem m_many {nv np ns bk th v : Nat} {X M : Mem} {k q : Int} (hT : RT nv np ns bk X M) (hS : RS nv ns th v X M) (hI : SI nv ns th X) (hv : v < 22) (hk : 0 ≤ k ∧ k ≤ 5) (hq : 0 ≤ q ∧ q ≤ 5) : m_manyOf (v : Int) k q M = some ((cnt (fun s => decide (X (th + 4) s = k ∨ X (th + 4) s = q)) ns : Nat) : Int) := by
  obtain ⟨⟨tb, tb2, tnv, tnp, tns⟩, ⟨x0, x1, x2⟩, ⟨m0, m1, m2⟩, ⟨t3, t3a, t3b⟩, tpit, tper, tsay, trul⟩ := hT
  obtain ⟨rp, rs, rb, rw, rd, rt, rv, rl, rx, rk, rm, rk1, rk2, rk3, rz1, rz2⟩ := hS
  obtain ⟨ip, is, ib, iw, id, it, iv, il, ix, isnd, inm, iin, im, ik⟩ := hI
  have key : post (m_manyOf (v : Int) k q M) (fun r => r = ((cnt (fun s => decide (X (th + 4) s = k ∨ X (th + 4) s = q)) ns : Nat) : Int)) := by
    unfold m_manyOf
    refine post_bnd (post_itr2 (fun n (i j : Int) => ∃ c : Nat, j = (c : Int) ∧ i = (cnt (fun s => decide (X (th + 4) s = k ∨ X (th + 4) s = q)) c : Nat) ∧ c ≤ ns ∧ n = ns - c) (fun (a : Int × Int) => a.1 = ((cnt (fun s => decide (X (th + 4) s = k ∨ X (th + 4) s = q)) ns : Nat) : Int)) ?_ FUEL ns 0 0 (fuel_lt (by omega)) ⟨0, rfl, rfl, by omega, rfl⟩) ?_
    · rintro n i j ⟨c, rfl, rfl, hc, rfl⟩ F ih
      unfold m_manyOf_L6
      by_cases h : c < ns
      · have h1 := iw c h
        repeat' (first | with_reducible refine post_lt ?_ | (with_reducible refine post_chk ?_ ?_; focus ((try simp (disch := omega) only [Bool.false_eq_true, not_true_eq_false, not_false_eq_true, Nat.reduceAdd, Nat.reduceMul, w32_eq, w64_eq, lc_eq, lc_lt, lc_le, lc_gt, lc_ge, up_k, up_i, up_e, Int.toNat_natCast, tn7, tn8, tn12, tn3, tn120, tn1600, w32_and, w32_or, w32_xor, w32_shl, w32_shr, has2_eq, tb, m2, rw]) <;> omega)) | (with_reducible refine post_ite (fun hcp => ?_) (fun hcp => ?_) <;> (try simp (disch := omega) only [Bool.false_eq_true, not_true_eq_false, not_false_eq_true, Nat.reduceAdd, Nat.reduceMul, w32_eq, w64_eq, lc_eq, lc_lt, lc_le, lc_gt, lc_ge, up_k, up_i, up_e, Int.toNat_natCast, tn7, tn8, tn12, tn3, tn120, tn1600, w32_and, w32_or, w32_xor, w32_shl, w32_shr, has2_eq, tb, m2, rw] at hcp) <;> (try (exfalso; first | omega | exact hcp rfl | exact hcp trivial | contradiction))))
        · refine ih (ns - (c + 1)) _ _ (by omega) ⟨c + 1, rfl, ?_, by omega, rfl⟩
          rw [cnt, if_pos (by simp; omega)]; rfl
        · refine ih (ns - (c + 1)) _ _ (by omega) ⟨c + 1, rfl, ?_, by omega, rfl⟩
          rw [cnt, if_neg (by simp; omega)]; rfl
        · refine ih (ns - (c + 1)) _ _ (by omega) ⟨c + 1, rfl, ?_, by omega, rfl⟩
          rw [cnt, if_pos (by simp; omega)]; rfl
      · repeat' (first | with_reducible refine post_lt ?_ | (with_reducible refine post_chk ?_ ?_; focus ((try simp (disch := omega) only [Bool.false_eq_true, not_true_eq_false, not_false_eq_true, Nat.reduceAdd, Nat.reduceMul, w32_eq, w64_eq, lc_eq, lc_lt, lc_le, lc_gt, lc_ge, up_k, up_i, up_e, Int.toNat_natCast, tn7, tn8, tn12, tn3, tn120, tn1600, w32_and, w32_or, w32_xor, w32_shl, w32_shr, has2_eq, tb, m2]) <;> omega)) | (with_reducible refine post_ite (fun hcp => ?_) (fun hcp => ?_) <;> (try simp (disch := omega) only [Bool.false_eq_true, not_true_eq_false, not_false_eq_true, Nat.reduceAdd, Nat.reduceMul, w32_eq, w64_eq, lc_eq, lc_lt, lc_le, lc_gt, lc_ge, up_k, up_i, up_e, Int.toNat_natCast, tn7, tn8, tn12, tn3, tn120, tn1600, w32_and, w32_or, w32_xor, w32_shl, w32_shr, has2_eq, tb, m2] at hcp) <;> (try (exfalso; first | omega | exact hcp rfl | exact hcp trivial | contradiction))))
        have : c = ns := by omega
        subst this
        exact post_some rfl
    · rintro ⟨a, b⟩ h
      exact post_some h
  obtain ⟨a, h1, h2⟩ := key
  rw [h1, h2]
/-- as many voices are busy as sayings sound -/
theorem busy_cnt {ns nv : Nat} {p : Nat → Bool} {u : Nat → Int} (h : ∀ s, s < ns → p s = true → 0 ≤ u s ∧ u s < (nv : Int)) (hd : ∀ s t, s < ns → t < ns → p s = true → p t = true → u s = u t → s = t) :
    cnt (fun k => decide (∃ s, s < ns ∧ p s = true ∧ u s = (k : Int))) nv = cnt p ns := by
  induction ns with
  | zero =>
    have : ∀ z, z = 0 → ∀ n, cnt (fun k : Nat => decide (∃ s, s < z ∧ p s = true ∧ u s = (k : Int))) n = 0 := fun z hz n => by
      subst hz
      induction n with
      | zero => rfl
      | succ n ih => rw [cnt, ih, if_neg]; intro h0; obtain ⟨s, h1, -⟩ := of_decide_eq_true h0; omega
    rw [this 0 rfl]; rfl
  | succ ns ih =>
    have ih' := ih (fun s hs => h s (by omega)) (fun s t hs ht => hd s t (by omega) (by omega))
    rw [cnt]
    by_cases hp : p ns = true
    · rw [if_pos hp]
      have hu := h ns (by omega) hp
      rw [← ih']
      refine cnt_flip (s := (u ns).toNat) (by omega) ?_ ?_ ?_
      · intro k hk hne
        by_cases e : ∃ s, s < ns ∧ p s = true ∧ u s = (k : Int)
        · obtain ⟨s, e1, e2, e3⟩ := e
          rw [decide_eq_true ⟨s, e1, e2, e3⟩, decide_eq_true ⟨s, by omega, e2, e3⟩]
        · rw [decide_eq_false e, decide_eq_false]
          rintro ⟨s, e1, e2, e3⟩
          by_cases es : s = ns
          · subst es; omega
          · exact e ⟨s, by omega, e2, e3⟩
      · apply decide_eq_false
        rintro ⟨s, e1, e2, e3⟩
        have := hd s ns (by omega) (by omega) e2 hp (by omega)
        omega
      · exact decide_eq_true ⟨ns, by omega, hp, by omega⟩
    · rw [if_neg hp, ← ih', Nat.add_zero]
      apply cnt_ext
      intro k hk
      by_cases e : ∃ s, s < ns ∧ p s = true ∧ u s = (k : Int)
      · obtain ⟨s, e1, e2, e3⟩ := e
        rw [decide_eq_true (p := ∃ s, s < ns + 1 ∧ p s = true ∧ u s = (k : Int)) ⟨s, by omega, e2, e3⟩, decide_eq_true (p := ∃ s, s < ns ∧ p s = true ∧ u s = (k : Int)) ⟨s, e1, e2, e3⟩]
      · rw [decide_eq_false (p := ∃ s, s < ns ∧ p s = true ∧ u s = (k : Int)) e, decide_eq_false]
        rintro ⟨s, e1, e2, e3⟩
        by_cases es : s = ns
        · subst es; exact hp e2
        · exact e ⟨s, by omega, e2, e3⟩
theorem m_busy_eq {nv np ns bk th v : Nat} {X M : Mem} (hT : RT nv np ns bk X M) (hS : RS nv ns th v X M) (hI : SI nv ns th X) (hv : v < 22) : m_busyMany (v : Int) M = some (cw ns th X 2 : Int) := by
  have hT' := hT
  obtain ⟨⟨tb, tb2, tnv, tnp, tns⟩, ⟨x0, x1, x2⟩, ⟨m0, m1, m2⟩, ⟨t3, t3a, t3b⟩, tpit, tper, tsay, trul⟩ := hT
  have hI' := hI
  obtain ⟨ip, is, ib, iw, id, it, iv, il, ix, isnd, inm, iin, im, ik⟩ := hI
  have key : post (m_busyMany (v : Int) M) (fun r => r = ((cnt (fun k => decide (∃ s, s < ns ∧ (decide (X (th + 4) s = 2)) = true ∧ X (th + 7) s = (k : Int))) nv : Nat) : Int)) := by
    unfold m_busyMany
    refine post_bnd (post_itr2 (fun n (i j : Int) => ∃ c : Nat, j = (c : Int) ∧ i = (cnt (fun k => decide (∃ s, s < ns ∧ (decide (X (th + 4) s = 2)) = true ∧ X (th + 7) s = (k : Int))) c : Nat) ∧ c ≤ nv ∧ n = nv - c) (fun (a : Int × Int) => a.1 = ((cnt (fun k => decide (∃ s, s < ns ∧ (decide (X (th + 4) s = 2)) = true ∧ X (th + 7) s = (k : Int))) nv : Nat) : Int)) ?_ FUEL nv 0 0 (fuel_lt (by omega)) ⟨0, rfl, rfl, by omega, rfl⟩) ?_
    · rintro n i j ⟨c, rfl, rfl, hc, rfl⟩ F ih
      unfold m_busyMany_L4
      by_cases h : c < nv
      · obtain ⟨r, q, hr1, hr2, rfl, hby⟩ := sim_by (k := c) hT' hS hI' hv (by omega)
        repeat' (first | with_reducible refine post_lt ?_ | (with_reducible refine post_chk ?_ ?_; focus ((try simp (disch := omega) only [Bool.false_eq_true, not_true_eq_false, not_false_eq_true, Nat.reduceAdd, Nat.reduceMul, w32_eq, w64_eq, lc_eq, lc_lt, lc_le, lc_gt, lc_ge, up_k, up_i, up_e, Int.toNat_natCast, tn7, tn8, tn12, tn3, tn120, tn1600, w32_and, w32_or, w32_xor, w32_shl, w32_shr, has2_eq, tb, m0]) <;> omega)) | (with_reducible refine post_ite (fun hcp => ?_) (fun hcp => ?_) <;> (try simp (disch := omega) only [Bool.false_eq_true, not_true_eq_false, not_false_eq_true, Nat.reduceAdd, Nat.reduceMul, w32_eq, w64_eq, lc_eq, lc_lt, lc_le, lc_gt, lc_ge, up_k, up_i, up_e, Int.toNat_natCast, tn7, tn8, tn12, tn3, tn120, tn1600, w32_and, w32_or, w32_xor, w32_shl, w32_shr, has2_eq, tb, m0] at hcp) <;> (try (exfalso; first | omega | exact hcp rfl | exact hcp trivial | contradiction))))
        refine post_bnde hr2 ?_
        have hr : -1 ≤ r ∧ r ≤ 12 := by
          rcases hby with ⟨h1, -⟩ | ⟨s, h1, h2, -⟩ <;> omega
        repeat' (first | with_reducible refine post_lt ?_ | (with_reducible refine post_chk ?_ ?_; focus ((try simp (disch := omega) only [Bool.false_eq_true, not_true_eq_false, not_false_eq_true, Nat.reduceAdd, Nat.reduceMul, w32_eq, w64_eq, lc_eq, lc_lt, lc_le, lc_gt, lc_ge, up_k, up_i, up_e, Int.toNat_natCast, tn7, tn8, tn12, tn3, tn120, tn1600, w32_and, w32_or, w32_xor, w32_shl, w32_shr, has2_eq]) <;> omega)) | (with_reducible refine post_ite (fun hcp => ?_) (fun hcp => ?_) <;> (try simp (disch := omega) only [Bool.false_eq_true, not_true_eq_false, not_false_eq_true, Nat.reduceAdd, Nat.reduceMul, w32_eq, w64_eq, lc_eq, lc_lt, lc_le, lc_gt, lc_ge, up_k, up_i, up_e, Int.toNat_natCast, tn7, tn8, tn12, tn3, tn120, tn1600, w32_and, w32_or, w32_xor, w32_shl, w32_shr, has2_eq] at hcp) <;> (try (exfalso; first | omega | exact hcp rfl | exact hcp trivial | contradiction))))
        · refine ih (nv - (c + 1)) _ _ (by omega) ⟨c + 1, rfl, ?_, by omega, rfl⟩
          rcases hby with ⟨h1, -⟩ | ⟨s, h1, h2, h3, h4⟩
          · omega
          · rw [cnt, if_pos (decide_eq_true ⟨s, h1, decide_eq_true h3, h4⟩)]; rfl
        · refine ih (nv - (c + 1)) _ _ (by omega) ⟨c + 1, rfl, ?_, by omega, rfl⟩
          rcases hby with ⟨h1, h2⟩ | ⟨s, h1, h2, h3, h4⟩
          · rw [cnt, if_neg]
            · rfl
            · intro z
              obtain ⟨s, z1, z2, z3⟩ := of_decide_eq_true z
              exact h2 s z1 ⟨of_decide_eq_true z2, z3⟩
          · omega
      · repeat' (first | with_reducible refine post_lt ?_ | (with_reducible refine post_chk ?_ ?_; focus ((try simp (disch := omega) only [Bool.false_eq_true, not_true_eq_false, not_false_eq_true, Nat.reduceAdd, Nat.reduceMul, w32_eq, w64_eq, lc_eq, lc_lt, lc_le, lc_gt, lc_ge, up_k, up_i, up_e, Int.toNat_natCast, tn7, tn8, tn12, tn3, tn120, tn1600, w32_and, w32_or, w32_xor, w32_shl, w32_shr, has2_eq, tb, m0]) <;> omega)) | (with_reducible refine post_ite (fun hcp => ?_) (fun hcp => ?_) <;> (try simp (disch := omega) only [Bool.false_eq_true, not_true_eq_false, not_false_eq_true, Nat.reduceAdd, Nat.reduceMul, w32_eq, w64_eq, lc_eq, lc_lt, lc_le, lc_gt, lc_ge, up_k, up_i, up_e, Int.toNat_natCast, tn7, tn8, tn12, tn3, tn120, tn1600, w32_and, w32_or, w32_xor, w32_shl, w32_shr, has2_eq, tb, m0] at hcp) <;> (try (exfalso; first | omega | exact hcp rfl | exact hcp trivial | contradiction))))
        have : c = nv := by omega
        subst this
        exact post_some rfl
    · rintro ⟨a, b⟩ h
      exact post_some h
  obtain ⟨a, h1, h2⟩ := key
  rw [h1, h2, busy_cnt (p := fun s => decide (X (th + 4) s = 2)) (u := X (th + 7))]
  · rfl
  · intro s hs h
    have e := of_decide_eq_true h
    exact ⟨(isnd s hs e).1, (iv s hs).2⟩
  · intro s t hs ht h1 h2 h3
    exact iin s t hs ht (of_decide_eq_true h1) (of_decide_eq_true h2) h3
