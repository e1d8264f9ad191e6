/-! THE PURE PART: frames, how a saying ends -/
/-- the layer of a cell of the reference's states -/
def lay (a i : Nat) : Nat := if a = 26 ∨ a = 27 then i / 7 else if a = 36 then i / 120 else if 29 ≤ a ∧ a ≤ 33 then i / 12 else i
def FXt (th : Nat) (X X1 : Mem) : Prop := ∀ a, a ≠ 33 → a ≠ 37 → (a < th ∨ th + 12 < a) → X1 a = X a
def FMt (v : Nat) (M M1 : Mem) : Prop := ∀ a i, (a < 25 ∨ 39 < a ∨ (25 ≤ a ∧ a ≤ 36 ∧ lay a i ≠ v)) → M1 a i = M a i
theorem FXt_refl (th : Nat) (X : Mem) : FXt th X X := fun _ _ _ _ => rfl
theorem FMt_refl (v : Nat) (M : Mem) : FMt v M M := fun _ _ _ => rfl
theorem FXt_trans {th : Nat} {X Y Z : Mem} (h : FXt th X Y) (k : FXt th Y Z) : FXt th X Z := fun a h1 h2 h3 => (k a h1 h2 h3).trans (h a h1 h2 h3)
theorem FMt_trans {v : Nat} {X Y Z : Mem} (h : FMt v X Y) (k : FMt v Y Z) : FMt v X Z := fun a i h1 => (k a i h1).trans (h a i h1)
theorem FXt_s {th : Nat} {X Y : Mem} (h : FXs X Y) : FXt th X Y := fun a h1 h2 _ => h a h1 h2
theorem FMt_s {v : Nat} {X Y : Mem} (h : FMs X Y) : FMt v X Y := fun a i h1 => by rw [h a (by omega) (by omega)]
theorem FXt_up {th : Nat} {X : Mem} {k i : Nat} {x : Int} (h : k = 33 ∨ k = 37 ∨ (th ≤ k ∧ k ≤ th + 12)) : FXt th X (upM X k i x) := fun a h1 h2 h3 => upM_row (by omega)
theorem FMt_up {v : Nat} {X : Mem} {k i : Nat} {x : Int} (h : 25 ≤ k ∧ k ≤ 39 ∧ (k ≤ 36 → lay k i = v)) : FMt v X (upM X k i x) := fun a j h1 => by
  by_cases e : a = k
  · subst e
    by_cases e2 : j = i
    · subst e2
      exfalso
      have := h.2.2
      omega
    · rw [up_i e2]
  · rw [up_k e]
theorem lay7 {v k : Nat} (h : k < 7) : lay 26 (7 * v + k) = v ∧ lay 27 (7 * v + k) = v := by
  constructor <;> (show (7 * v + k) / 7 = v; omega)
theorem lay12 {v s a : Nat} (h : s < 12) (ha : 29 ≤ a ∧ a ≤ 33) : lay a (12 * v + s) = v := by
  unfold lay
  rw [if_neg (by omega), if_neg (by omega), if_pos ha]
  omega
theorem lay120 {v k : Nat} (h : k < 120) : lay 36 (120 * v + k) = v := by
  show (120 * v + k) / 120 = v; omega
theorem lay1 {v a : Nat} (ha : a = 25 ∨ a = 28 ∨ a = 34 ∨ a = 35) : lay a v = v := by
  unfold lay
  rw [if_neg (by omega), if_neg (by omega), if_neg (by omega)]
theorem RT_t {nv np ns bk th v : Nat} {X M X1 M1 : Mem} (h : RT nv np ns bk X M) (hth : 38 ≤ th) (hx : FXt th X X1) (hm : FMt v M M1) : RT nv np ns bk X1 M1 :=
  RT_of h (fun a _ _ h3 => hx a h3 (by omega) (by omega)) (hm 0 13 (by omega)) (fun a _ _ => by funext i; exact hm a i (by omega))
/-- another layer stays -/
theorem RS_t {nv ns th v th1 v1 : Nat} {X M X1 M1 : Mem} (h : RS nv ns th v X M) (hth : 38 ≤ th) (hd : th + 12 < th1 ∨ th1 + 12 < th) (hv : v1 ≠ v) (hnv : nv ≤ 7) (hns : ns ≤ 12) (hk : X th 12 ≤ 12) (hx : FXt th1 X X1) (hm : FMt v1 M M1) : RS nv ns th v X1 M1 := by
  have e : ∀ a, th ≤ a → a ≤ th + 12 → X1 a = X a := fun a h1 h2 => hx a (by omega) (by omega) (by omega)
  have hS := h
  obtain ⟨rp, rs, rb, rw, rd, rt, rv, rl, rx, rk, rm, rk1, rk2, rk3, rz1, rz2⟩ := hS
  refine ⟨?_, ?_, ?_, ?_, ?_, ?_, ?_, ?_, ?_, ?_, ?_, ?_, ?_, ?_, ?_, ?_⟩
  · intro k hk; rw [e (th + 1) (by omega) (by omega), hm 26 _ (by rw [(lay7 (by omega)).1]; omega)]; exact rp k hk
  · intro k hk; rw [e (th + 2) (by omega) (by omega), hm 28 v (by rw [lay1 (by omega)]; omega)]; exact rs k hk
  · intro k hk; rw [e (th + 3) (by omega) (by omega), hm 27 _ (by rw [(lay7 (by omega)).2]; omega)]; exact rb k hk
  · intro k hk; rw [e (th + 4) (by omega) (by omega), hm 29 _ (by rw [lay12 (by omega) (by omega)]; omega)]; exact rw k hk
  · intro k hk; rw [e (th + 5) (by omega) (by omega), hm 30 _ (by rw [lay12 (by omega) (by omega)]; omega)]; exact rd k hk
  · intro k hk; rw [e (th + 6) (by omega) (by omega), hm 31 _ (by rw [lay12 (by omega) (by omega)]; omega)]; exact rt k hk
  · intro k hk; rw [e (th + 7) (by omega) (by omega), hm 32 _ (by rw [lay12 (by omega) (by omega)]; omega)]; exact rv k hk
  · intro k hk; rw [e (th + 8) (by omega) (by omega), hm 33 _ (by rw [lay12 (by omega) (by omega)]; omega)]; exact rl k hk
  · intro k hk; rw [e (th + 9) (by omega) (by omega), hm 34 v (by rw [lay1 (by omega)]; omega)]; exact rx k hk
  · rw [e th (by omega) (by omega), hm 35 v (by rw [lay1 (by omega)]; omega)]; exact rk
  · rw [e th (by omega) (by omega), hm 25 v (by rw [lay1 (by omega)]; omega)]; exact rm
  · intro k; rw [e th (by omega) (by omega), e (th + 10) (by omega) (by omega)]; intro hk; rw [hm 36 _ (by rw [lay120 (by omega)]; omega)]; exact rk1 k hk
  · intro k; rw [e th (by omega) (by omega), e (th + 11) (by omega) (by omega)]; intro hk; rw [hm 36 _ (by rw [show 120 * v + 3 * k + 1 = 120 * v + (3 * k + 1) by omega, lay120 (by omega)]; omega)]; exact rk2 k hk
  · intro k; rw [e th (by omega) (by omega), e (th + 12) (by omega) (by omega)]; intro hk; rw [hm 36 _ (by rw [show 120 * v + 3 * k + 2 = 120 * v + (3 * k + 2) by omega, lay120 (by omega)]; omega)]; exact rk3 k hk
  · rw [hm 28 v (by rw [lay1 (by omega)]; omega)]; exact rz1
  · rw [hm 34 v (by rw [lay1 (by omega)]; omega)]; exact rz2
theorem SI_t {nv ns th th1 : Nat} {X X1 : Mem} (h : SI nv ns th X) (hth : 38 ≤ th) (hd : th + 12 < th1 ∨ th1 + 12 < th) (hx : FXt th1 X X1) : SI nv ns th X1 :=
  SI_of h (fun a h1 h2 => hx a (by omega) (by omega) (by omega))
theorem SI_kept {nv ns th s : Nat} {X : Mem} (h : SI nv ns th X) (hns : ns ≤ 12) (hs : s < ns) (hw : X (th + 4) s < 3) : X th 12 < 12 := by
  have hI := h
  obtain ⟨ip, is, ib, iw, id, it, iv, il, ix, isnd, inm, iin, im, ik⟩ := hI
  have := cnt_lt (p := fun s => decide (3 ≤ X (th + 4) s)) hs (by simp; omega)
  omega
theorem SI_kept2 {nv ns th : Nat} {X : Mem} (h : SI nv ns th X) (hns : ns ≤ 12) : 0 ≤ X th 12 ∧ X th 12 ≤ 12 := by
  have hI := h
  obtain ⟨ip, is, ib, iw, id, it, iv, il, ix, isnd, inm, iin, im, ik⟩ := hI
  have := cnt_le (fun s => decide (3 ≤ X (th + 4) s)) ns
  omega
/-- what has changed of one saying alone -/
def OneW (ns th s : Nat) (to : Int) (X X1 : Mem) : Prop := X1 (th + 4) s = to ∧ (∀ j, j < ns → j ≠ s → X1 (th + 4) j = X (th + 4) j ∧ X1 (th + 7) j = X (th + 7) j)
theorem cw_one {ns th s : Nat} {to : Int} {X X1 : Mem} (hs : s < ns) (h : OneW ns th s to X X1) (hne : X (th + 4) s ≠ to) : cw ns th X1 to = cw ns th X to + 1 := by
  unfold cw
  refine cnt_flip hs (fun k hk hn => ?_) ?_ ?_
  · rw [(h.2 k hk hn).1]
  · exact decide_eq_false hne
  · exact decide_eq_true h.1
theorem cw_other {ns th s : Nat} {to k : Int} {X X1 : Mem} (h : OneW ns th s to X X1) (hne : X (th + 4) s ≠ k) (hto : to ≠ k) : cw ns th X1 k = cw ns th X k := by
  unfold cw
  refine cnt_ext (fun j hj => ?_)
  by_cases e : j = s
  · subst e; rw [h.1, decide_eq_false hto, decide_eq_false hne]
  · rw [(h.2 j hj e).1]
/-- the same but for who gives the saying s its voice -/
def SIx (nv ns th s : Nat) (X : Mem) : Prop :=
  (∀ k, k < nv → 0 ≤ X (th + 1) k ∧ X (th + 1) k ≤ 9) ∧ (∀ k, k < nv → 0 ≤ X (th + 2) k ∧ X (th + 2) k ≤ 1) ∧ (∀ k, k < nv → 0 ≤ X (th + 3) k ∧ X (th + 3) k ≤ 99) ∧
  (∀ s, s < ns → 0 ≤ X (th + 4) s ∧ X (th + 4) s ≤ 5) ∧ (∀ s, s < ns → 0 ≤ X (th + 5) s ∧ X (th + 5) s ≤ 999) ∧ (∀ s, s < ns → 0 ≤ X (th + 6) s ∧ X (th + 6) s ≤ 99) ∧ (∀ s, s < ns → -1 ≤ X (th + 7) s ∧ X (th + 7) s < (nv : Int)) ∧ (∀ s, s < ns → 0 ≤ X (th + 8) s ∧ X (th + 8) s ≤ 20) ∧ (∀ s, s < ns → 0 ≤ X (th + 9) s ∧ X (th + 9) s ≤ 1) ∧
  (∀ j, j < ns → j ≠ s → X (th + 4) j = 2 → 0 ≤ X (th + 7) j ∧ 1 ≤ X (th + 8) j ∧ X (th + 2) (X (th + 7) j).toNat = 0) ∧
  (∀ s, s < ns → X (th + 4) s < 2 → X (th + 9) s = 0) ∧
  (∀ s t, s < ns → t < ns → X (th + 4) s = 2 → X (th + 4) t = 2 → X (th + 7) s = X (th + 7) t → s = t) ∧
  (0 ≤ X th 13 ∧ X th 13 ≤ 999) ∧ (0 ≤ X th 12 ∧ X th 12 ≤ (cnt (fun s => decide (3 ≤ X (th + 4) s)) ns : Nat))
theorem SIx_of {nv ns th s : Nat} {X : Mem} (hI : SI nv ns th X) : SIx nv ns th s X := by
  obtain ⟨ip, is, ib, iw, id, it, iv, il, ix, isnd, inm, iin, im, ik⟩ := hI
  exact ⟨ip, is, ib, iw, id, it, iv, il, ix, fun j hj _ => isnd j hj, inm, iin, im, ik⟩
theorem SIx_kept {nv ns th s : Nat} {X : Mem} (h : SIx nv ns th s X) (hns : ns ≤ 12) (hs : s < ns) (hw : X (th + 4) s < 3) : X th 12 < 12 := by
  have hI := h
  obtain ⟨ip, is, ib, iw, id, it, iv, il, ix, isnd, inm, iin, im, ik⟩ := hI
  have := cnt_lt (p := fun s => decide (3 ≤ X (th + 4) s)) hs (by simp; omega)
  omega
theorem sim_conclx {nv np ns bk th v s : Nat} {to : Int} {X M : Mem} (hT : RT nv np ns bk X M) (hS : RS nv ns th v X M) (hI : SIx nv ns th s X) (hth : 38 ≤ th) (hv : v < 22) (hs : s < ns) (hto : 3 ≤ to ∧ to ≤ 5) (hw : X (th + 4) s < 3) :
    two (x_State_conclude th (s : Int) to X) (m_writesDown (v : Int) (s : Int) to M) (fun X1 M1 => RS nv ns th v X1 M1 ∧ SI nv ns th X1 ∧ FXt th X X1 ∧ FMt v M M1 ∧ OneW ns th s to X X1 ∧ X1 (th + 2) = X (th + 2) ∧ X1 th 13 = X th 13 ∧ M1 39 = M 39) := by
  have hk12 := SIx_kept hI hT.1.2.2.2.2 hs hw
  have hns := hT.1.2.2.2.2
  have hS' := hS
  obtain ⟨rp, rs, rb, rw, rd, rt, rv, rl, rx, rk, rm, rk1, rk2, rk3, rz1, rz2⟩ := hS
  have hI' := hI
  obtain ⟨ip, is, ib, iw, id, it, iv, il, ix, isnd, inm, iin, im, ik⟩ := hI
  obtain ⟨kp, hkp⟩ : ∃ kp : Nat, X th 12 = (kp : Int) := ⟨(X th 12).toNat, by omega⟩
  have n0 : (3 * (40 * (v : Int) + (kp : Int))).toNat = 120 * v + 3 * kp := by omega
  have n1 : (3 * (40 * (v : Int) + (kp : Int)) + 1).toNat = 120 * v + 3 * kp + 1 := by omega
  have n2 : (3 * (40 * (v : Int) + (kp : Int)) + 2).toNat = 120 * v + 3 * kp + 2 := by omega
  unfold x_State_conclude m_writesDown m_writesDown_B87
  repeat' (first | with_reducible refine two_lt_l ?_ | (with_reducible refine two_chk_l ?_ ?_; focus ((try simp (disch := omega) only [Bool.false_eq_true, not_true_eq_false, not_false_eq_true, Nat.reduceAdd, Nat.reduceMul, w32_eq, w64_eq, lc_eq, lc_lt, lc_le, lc_gt, lc_ge, up_k, up_i, up_e, Int.toNat_natCast, tn7, tn8, tn12, tn3, tn120, tn1600, w32_and, w32_or, w32_xor, w32_shl, w32_shr, has2_eq, hkp]) <;> omega)) | (with_reducible refine two_ite_l (fun hcl => ?_) (fun hcl => ?_) <;> (try simp (disch := omega) only [Bool.false_eq_true, not_true_eq_false, not_false_eq_true, Nat.reduceAdd, Nat.reduceMul, w32_eq, w64_eq, lc_eq, lc_lt, lc_le, lc_gt, lc_ge, up_k, up_i, up_e, Int.toNat_natCast, tn7, tn8, tn12, tn3, tn120, tn1600, w32_and, w32_or, w32_xor, w32_shl, w32_shr, has2_eq, hkp] at hcl) <;> (try (exfalso; first | omega | exact hcl rfl | exact hcl trivial | contradiction))))
  repeat' (first | with_reducible refine two_lt_r ?_ | (with_reducible refine two_chk_r ?_ ?_; focus ((try simp (disch := omega) only [Bool.false_eq_true, not_true_eq_false, not_false_eq_true, Nat.reduceAdd, Nat.reduceMul, w32_eq, w64_eq, lc_eq, lc_lt, lc_le, lc_gt, lc_ge, up_k, up_i, up_e, Int.toNat_natCast, tn7, tn8, tn12, tn3, tn120, tn1600, w32_and, w32_or, w32_xor, w32_shl, w32_shr, has2_eq, rk, rm, hkp, n0, n1, n2]) <;> omega)) | (with_reducible refine two_ite_r (fun hcr => ?_) (fun hcr => ?_) <;> (try simp (disch := omega) only [Bool.false_eq_true, not_true_eq_false, not_false_eq_true, Nat.reduceAdd, Nat.reduceMul, w32_eq, w64_eq, lc_eq, lc_lt, lc_le, lc_gt, lc_ge, up_k, up_i, up_e, Int.toNat_natCast, tn7, tn8, tn12, tn3, tn120, tn1600, w32_and, w32_or, w32_xor, w32_shl, w32_shr, has2_eq, rk, rm, hkp, n0, n1, n2] at hcr) <;> (try (exfalso; first | omega | exact hcr rfl | exact hcr trivial | contradiction))))
  simp (disch := omega) only [up_k, up_i, up_e, hkp, rk, rm, Int.toNat_natCast, tn12, n0, n1, n2]
  refine two_some ⟨⟨?_, ?_, ?_, ?_, ?_, ?_, ?_, ?_, ?_, ?_, ?_, ?_, ?_, ?_, ?_, ?_⟩, ⟨?_, ?_, ?_, ?_, ?_, ?_, ?_, ?_, ?_, ?_, ?_, ?_, ?_, ?_⟩, ?_, ?_, ?_, ?_, ?_, ?_⟩
  · intro j hj; simp (disch := omega) only [Bool.false_eq_true, not_true_eq_false, not_false_eq_true, Nat.reduceAdd, Nat.reduceMul, w32_eq, w64_eq, lc_eq, lc_lt, lc_le, lc_gt, lc_ge, up_k, up_i, up_e, Int.toNat_natCast, tn7, tn8, tn12, tn3, tn120, tn1600, w32_and, w32_or, w32_xor, w32_shl, w32_shr, has2_eq]; exact rp j hj
  · intro j hj; simp (disch := omega) only [Bool.false_eq_true, not_true_eq_false, not_false_eq_true, Nat.reduceAdd, Nat.reduceMul, w32_eq, w64_eq, lc_eq, lc_lt, lc_le, lc_gt, lc_ge, up_k, up_i, up_e, Int.toNat_natCast, tn7, tn8, tn12, tn3, tn120, tn1600, w32_and, w32_or, w32_xor, w32_shl, w32_shr, has2_eq]; exact rs j hj
  · intro j hj; simp (disch := omega) only [Bool.false_eq_true, not_true_eq_false, not_false_eq_true, Nat.reduceAdd, Nat.reduceMul, w32_eq, w64_eq, lc_eq, lc_lt, lc_le, lc_gt, lc_ge, up_k, up_i, up_e, Int.toNat_natCast, tn7, tn8, tn12, tn3, tn120, tn1600, w32_and, w32_or, w32_xor, w32_shl, w32_shr, has2_eq]; exact rb j hj
  · intro j hj; by_cases e : j = s
    · subst e; simp (disch := omega) only [Bool.false_eq_true, not_true_eq_false, not_false_eq_true, Nat.reduceAdd, Nat.reduceMul, w32_eq, w64_eq, lc_eq, lc_lt, lc_le, lc_gt, lc_ge, up_k, up_i, up_e, Int.toNat_natCast, tn7, tn8, tn12, tn3, tn120, tn1600, w32_and, w32_or, w32_xor, w32_shl, w32_shr, has2_eq]
    · simp (disch := omega) only [Bool.false_eq_true, not_true_eq_false, not_false_eq_true, Nat.reduceAdd, Nat.reduceMul, w32_eq, w64_eq, lc_eq, lc_lt, lc_le, lc_gt, lc_ge, up_k, up_i, up_e, Int.toNat_natCast, tn7, tn8, tn12, tn3, tn120, tn1600, w32_and, w32_or, w32_xor, w32_shl, w32_shr, has2_eq, rw]
  · intro j hj; simp (disch := omega) only [Bool.false_eq_true, not_true_eq_false, not_false_eq_true, Nat.reduceAdd, Nat.reduceMul, w32_eq, w64_eq, lc_eq, lc_lt, lc_le, lc_gt, lc_ge, up_k, up_i, up_e, Int.toNat_natCast, tn7, tn8, tn12, tn3, tn120, tn1600, w32_and, w32_or, w32_xor, w32_shl, w32_shr, has2_eq]; exact rd j hj
  · intro j hj; simp (disch := omega) only [Bool.false_eq_true, not_true_eq_false, not_false_eq_true, Nat.reduceAdd, Nat.reduceMul, w32_eq, w64_eq, lc_eq, lc_lt, lc_le, lc_gt, lc_ge, up_k, up_i, up_e, Int.toNat_natCast, tn7, tn8, tn12, tn3, tn120, tn1600, w32_and, w32_or, w32_xor, w32_shl, w32_shr, has2_eq]; exact rt j hj
  · intro j hj; simp (disch := omega) only [Bool.false_eq_true, not_true_eq_false, not_false_eq_true, Nat.reduceAdd, Nat.reduceMul, w32_eq, w64_eq, lc_eq, lc_lt, lc_le, lc_gt, lc_ge, up_k, up_i, up_e, Int.toNat_natCast, tn7, tn8, tn12, tn3, tn120, tn1600, w32_and, w32_or, w32_xor, w32_shl, w32_shr, has2_eq]; exact rv j hj
  · intro j hj; by_cases e : j = s
    · subst e; simp (disch := omega) only [Bool.false_eq_true, not_true_eq_false, not_false_eq_true, Nat.reduceAdd, Nat.reduceMul, w32_eq, w64_eq, lc_eq, lc_lt, lc_le, lc_gt, lc_ge, up_k, up_i, up_e, Int.toNat_natCast, tn7, tn8, tn12, tn3, tn120, tn1600, w32_and, w32_or, w32_xor, w32_shl, w32_shr, has2_eq]
    · simp (disch := omega) only [Bool.false_eq_true, not_true_eq_false, not_false_eq_true, Nat.reduceAdd, Nat.reduceMul, w32_eq, w64_eq, lc_eq, lc_lt, lc_le, lc_gt, lc_ge, up_k, up_i, up_e, Int.toNat_natCast, tn7, tn8, tn12, tn3, tn120, tn1600, w32_and, w32_or, w32_xor, w32_shl, w32_shr, has2_eq, rl]
  · intro j hj; simp (disch := omega) only [Bool.false_eq_true, not_true_eq_false, not_false_eq_true, Nat.reduceAdd, Nat.reduceMul, w32_eq, w64_eq, lc_eq, lc_lt, lc_le, lc_gt, lc_ge, up_k, up_i, up_e, Int.toNat_natCast, tn7, tn8, tn12, tn3, tn120, tn1600, w32_and, w32_or, w32_xor, w32_shl, w32_shr, has2_eq]; exact rx j hj
  · simp (disch := omega) only [Bool.false_eq_true, not_true_eq_false, not_false_eq_true, Nat.reduceAdd, Nat.reduceMul, w32_eq, w64_eq, lc_eq, lc_lt, lc_le, lc_gt, lc_ge, up_k, up_i, up_e, Int.toNat_natCast, tn7, tn8, tn12, tn3, tn120, tn1600, w32_and, w32_or, w32_xor, w32_shl, w32_shr, has2_eq]
  · simp (disch := omega) only [Bool.false_eq_true, not_true_eq_false, not_false_eq_true, Nat.reduceAdd, Nat.reduceMul, w32_eq, w64_eq, lc_eq, lc_lt, lc_le, lc_gt, lc_ge, up_k, up_i, up_e, Int.toNat_natCast, tn7, tn8, tn12, tn3, tn120, tn1600, w32_and, w32_or, w32_xor, w32_shl, w32_shr, has2_eq, rm]
  · intro j hj
    simp (disch := omega) only [up_k, up_i, up_e] at hj
    by_cases e : j = kp
    · subst e; simp (disch := omega) only [Bool.false_eq_true, not_true_eq_false, not_false_eq_true, Nat.reduceAdd, Nat.reduceMul, w32_eq, w64_eq, lc_eq, lc_lt, lc_le, lc_gt, lc_ge, up_k, up_i, up_e, Int.toNat_natCast, tn7, tn8, tn12, tn3, tn120, tn1600, w32_and, w32_or, w32_xor, w32_shl, w32_shr, has2_eq]
    · have hj2 : (j : Int) < X th 12 := by omega
      simp (disch := omega) only [Bool.false_eq_true, not_true_eq_false, not_false_eq_true, Nat.reduceAdd, Nat.reduceMul, w32_eq, w64_eq, lc_eq, lc_lt, lc_le, lc_gt, lc_ge, up_k, up_i, up_e, Int.toNat_natCast, tn7, tn8, tn12, tn3, tn120, tn1600, w32_and, w32_or, w32_xor, w32_shl, w32_shr, has2_eq]; exact rk1 j hj2
  · intro j hj
    simp (disch := omega) only [up_k, up_i, up_e] at hj
    by_cases e : j = kp
    · subst e; simp (disch := omega) only [Bool.false_eq_true, not_true_eq_false, not_false_eq_true, Nat.reduceAdd, Nat.reduceMul, w32_eq, w64_eq, lc_eq, lc_lt, lc_le, lc_gt, lc_ge, up_k, up_i, up_e, Int.toNat_natCast, tn7, tn8, tn12, tn3, tn120, tn1600, w32_and, w32_or, w32_xor, w32_shl, w32_shr, has2_eq]
    · have hj2 : (j : Int) < X th 12 := by omega
      simp (disch := omega) only [Bool.false_eq_true, not_true_eq_false, not_false_eq_true, Nat.reduceAdd, Nat.reduceMul, w32_eq, w64_eq, lc_eq, lc_lt, lc_le, lc_gt, lc_ge, up_k, up_i, up_e, Int.toNat_natCast, tn7, tn8, tn12, tn3, tn120, tn1600, w32_and, w32_or, w32_xor, w32_shl, w32_shr, has2_eq]; exact rk2 j hj2
  · intro j hj
    simp (disch := omega) only [up_k, up_i, up_e] at hj
    by_cases e : j = kp
    · subst e; simp (disch := omega) only [Bool.false_eq_true, not_true_eq_false, not_false_eq_true, Nat.reduceAdd, Nat.reduceMul, w32_eq, w64_eq, lc_eq, lc_lt, lc_le, lc_gt, lc_ge, up_k, up_i, up_e, Int.toNat_natCast, tn7, tn8, tn12, tn3, tn120, tn1600, w32_and, w32_or, w32_xor, w32_shl, w32_shr, has2_eq]
    · have hj2 : (j : Int) < X th 12 := by omega
      simp (disch := omega) only [Bool.false_eq_true, not_true_eq_false, not_false_eq_true, Nat.reduceAdd, Nat.reduceMul, w32_eq, w64_eq, lc_eq, lc_lt, lc_le, lc_gt, lc_ge, up_k, up_i, up_e, Int.toNat_natCast, tn7, tn8, tn12, tn3, tn120, tn1600, w32_and, w32_or, w32_xor, w32_shl, w32_shr, has2_eq]; exact rk3 j hj2
  · simp (disch := omega) only [Bool.false_eq_true, not_true_eq_false, not_false_eq_true, Nat.reduceAdd, Nat.reduceMul, w32_eq, w64_eq, lc_eq, lc_lt, lc_le, lc_gt, lc_ge, up_k, up_i, up_e, Int.toNat_natCast, tn7, tn8, tn12, tn3, tn120, tn1600, w32_and, w32_or, w32_xor, w32_shl, w32_shr, has2_eq]; exact rz1
  · simp (disch := omega) only [Bool.false_eq_true, not_true_eq_false, not_false_eq_true, Nat.reduceAdd, Nat.reduceMul, w32_eq, w64_eq, lc_eq, lc_lt, lc_le, lc_gt, lc_ge, up_k, up_i, up_e, Int.toNat_natCast, tn7, tn8, tn12, tn3, tn120, tn1600, w32_and, w32_or, w32_xor, w32_shl, w32_shr, has2_eq]; exact rz2
  · intro j hj; simp (disch := omega) only [Bool.false_eq_true, not_true_eq_false, not_false_eq_true, Nat.reduceAdd, Nat.reduceMul, w32_eq, w64_eq, lc_eq, lc_lt, lc_le, lc_gt, lc_ge, up_k, up_i, up_e, Int.toNat_natCast, tn7, tn8, tn12, tn3, tn120, tn1600, w32_and, w32_or, w32_xor, w32_shl, w32_shr, has2_eq]; exact ip j hj
  · intro j hj; simp (disch := omega) only [Bool.false_eq_true, not_true_eq_false, not_false_eq_true, Nat.reduceAdd, Nat.reduceMul, w32_eq, w64_eq, lc_eq, lc_lt, lc_le, lc_gt, lc_ge, up_k, up_i, up_e, Int.toNat_natCast, tn7, tn8, tn12, tn3, tn120, tn1600, w32_and, w32_or, w32_xor, w32_shl, w32_shr, has2_eq]; exact is j hj
  · intro j hj; simp (disch := omega) only [Bool.false_eq_true, not_true_eq_false, not_false_eq_true, Nat.reduceAdd, Nat.reduceMul, w32_eq, w64_eq, lc_eq, lc_lt, lc_le, lc_gt, lc_ge, up_k, up_i, up_e, Int.toNat_natCast, tn7, tn8, tn12, tn3, tn120, tn1600, w32_and, w32_or, w32_xor, w32_shl, w32_shr, has2_eq]; exact ib j hj
  · intro j hj; by_cases e : j = s
    · subst e; simp (disch := omega) only [Bool.false_eq_true, not_true_eq_false, not_false_eq_true, Nat.reduceAdd, Nat.reduceMul, w32_eq, w64_eq, lc_eq, lc_lt, lc_le, lc_gt, lc_ge, up_k, up_i, up_e, Int.toNat_natCast, tn7, tn8, tn12, tn3, tn120, tn1600, w32_and, w32_or, w32_xor, w32_shl, w32_shr, has2_eq]; omega
    · simp (disch := omega) only [Bool.false_eq_true, not_true_eq_false, not_false_eq_true, Nat.reduceAdd, Nat.reduceMul, w32_eq, w64_eq, lc_eq, lc_lt, lc_le, lc_gt, lc_ge, up_k, up_i, up_e, Int.toNat_natCast, tn7, tn8, tn12, tn3, tn120, tn1600, w32_and, w32_or, w32_xor, w32_shl, w32_shr, has2_eq]; exact iw j hj
  · intro j hj; simp (disch := omega) only [Bool.false_eq_true, not_true_eq_false, not_false_eq_true, Nat.reduceAdd, Nat.reduceMul, w32_eq, w64_eq, lc_eq, lc_lt, lc_le, lc_gt, lc_ge, up_k, up_i, up_e, Int.toNat_natCast, tn7, tn8, tn12, tn3, tn120, tn1600, w32_and, w32_or, w32_xor, w32_shl, w32_shr, has2_eq]; exact id j hj
  · intro j hj; simp (disch := omega) only [Bool.false_eq_true, not_true_eq_false, not_false_eq_true, Nat.reduceAdd, Nat.reduceMul, w32_eq, w64_eq, lc_eq, lc_lt, lc_le, lc_gt, lc_ge, up_k, up_i, up_e, Int.toNat_natCast, tn7, tn8, tn12, tn3, tn120, tn1600, w32_and, w32_or, w32_xor, w32_shl, w32_shr, has2_eq]; exact it j hj
  · intro j hj; simp (disch := omega) only [Bool.false_eq_true, not_true_eq_false, not_false_eq_true, Nat.reduceAdd, Nat.reduceMul, w32_eq, w64_eq, lc_eq, lc_lt, lc_le, lc_gt, lc_ge, up_k, up_i, up_e, Int.toNat_natCast, tn7, tn8, tn12, tn3, tn120, tn1600, w32_and, w32_or, w32_xor, w32_shl, w32_shr, has2_eq]; exact iv j hj
  · intro j hj; by_cases e : j = s
    · subst e; simp (disch := omega) only [Bool.false_eq_true, not_true_eq_false, not_false_eq_true, Nat.reduceAdd, Nat.reduceMul, w32_eq, w64_eq, lc_eq, lc_lt, lc_le, lc_gt, lc_ge, up_k, up_i, up_e, Int.toNat_natCast, tn7, tn8, tn12, tn3, tn120, tn1600, w32_and, w32_or, w32_xor, w32_shl, w32_shr, has2_eq]; omega
    · simp (disch := omega) only [Bool.false_eq_true, not_true_eq_false, not_false_eq_true, Nat.reduceAdd, Nat.reduceMul, w32_eq, w64_eq, lc_eq, lc_lt, lc_le, lc_gt, lc_ge, up_k, up_i, up_e, Int.toNat_natCast, tn7, tn8, tn12, tn3, tn120, tn1600, w32_and, w32_or, w32_xor, w32_shl, w32_shr, has2_eq]; exact il j hj
  · intro j hj; simp (disch := omega) only [Bool.false_eq_true, not_true_eq_false, not_false_eq_true, Nat.reduceAdd, Nat.reduceMul, w32_eq, w64_eq, lc_eq, lc_lt, lc_le, lc_gt, lc_ge, up_k, up_i, up_e, Int.toNat_natCast, tn7, tn8, tn12, tn3, tn120, tn1600, w32_and, w32_or, w32_xor, w32_shl, w32_shr, has2_eq]; exact ix j hj
  · intro j hj; by_cases e : j = s
    · subst e; simp (disch := omega) only [Bool.false_eq_true, not_true_eq_false, not_false_eq_true, Nat.reduceAdd, Nat.reduceMul, w32_eq, w64_eq, lc_eq, lc_lt, lc_le, lc_gt, lc_ge, up_k, up_i, up_e, Int.toNat_natCast, tn7, tn8, tn12, tn3, tn120, tn1600, w32_and, w32_or, w32_xor, w32_shl, w32_shr, has2_eq]; omega
    · simp (disch := omega) only [Bool.false_eq_true, not_true_eq_false, not_false_eq_true, Nat.reduceAdd, Nat.reduceMul, w32_eq, w64_eq, lc_eq, lc_lt, lc_le, lc_gt, lc_ge, up_k, up_i, up_e, Int.toNat_natCast, tn7, tn8, tn12, tn3, tn120, tn1600, w32_and, w32_or, w32_xor, w32_shl, w32_shr, has2_eq]; exact isnd j hj e
  · intro j hj; by_cases e : j = s
    · subst e; simp (disch := omega) only [Bool.false_eq_true, not_true_eq_false, not_false_eq_true, Nat.reduceAdd, Nat.reduceMul, w32_eq, w64_eq, lc_eq, lc_lt, lc_le, lc_gt, lc_ge, up_k, up_i, up_e, Int.toNat_natCast, tn7, tn8, tn12, tn3, tn120, tn1600, w32_and, w32_or, w32_xor, w32_shl, w32_shr, has2_eq]; omega
    · simp (disch := omega) only [Bool.false_eq_true, not_true_eq_false, not_false_eq_true, Nat.reduceAdd, Nat.reduceMul, w32_eq, w64_eq, lc_eq, lc_lt, lc_le, lc_gt, lc_ge, up_k, up_i, up_e, Int.toNat_natCast, tn7, tn8, tn12, tn3, tn120, tn1600, w32_and, w32_or, w32_xor, w32_shl, w32_shr, has2_eq]; exact inm j hj
  · intro j k hj hk; by_cases e : j = s
    · subst e; simp (disch := omega) only [Bool.false_eq_true, not_true_eq_false, not_false_eq_true, Nat.reduceAdd, Nat.reduceMul, w32_eq, w64_eq, lc_eq, lc_lt, lc_le, lc_gt, lc_ge, up_k, up_i, up_e, Int.toNat_natCast, tn7, tn8, tn12, tn3, tn120, tn1600, w32_and, w32_or, w32_xor, w32_shl, w32_shr, has2_eq]; omega
    · by_cases e2 : k = s
      · subst e2; simp (disch := omega) only [Bool.false_eq_true, not_true_eq_false, not_false_eq_true, Nat.reduceAdd, Nat.reduceMul, w32_eq, w64_eq, lc_eq, lc_lt, lc_le, lc_gt, lc_ge, up_k, up_i, up_e, Int.toNat_natCast, tn7, tn8, tn12, tn3, tn120, tn1600, w32_and, w32_or, w32_xor, w32_shl, w32_shr, has2_eq]; omega
      · simp (disch := omega) only [Bool.false_eq_true, not_true_eq_false, not_false_eq_true, Nat.reduceAdd, Nat.reduceMul, w32_eq, w64_eq, lc_eq, lc_lt, lc_le, lc_gt, lc_ge, up_k, up_i, up_e, Int.toNat_natCast, tn7, tn8, tn12, tn3, tn120, tn1600, w32_and, w32_or, w32_xor, w32_shl, w32_shr, has2_eq]; exact iin j k hj hk
  · simp (disch := omega) only [Bool.false_eq_true, not_true_eq_false, not_false_eq_true, Nat.reduceAdd, Nat.reduceMul, w32_eq, w64_eq, lc_eq, lc_lt, lc_le, lc_gt, lc_ge, up_k, up_i, up_e, Int.toNat_natCast, tn7, tn8, tn12, tn3, tn120, tn1600, w32_and, w32_or, w32_xor, w32_shl, w32_shr, has2_eq]; exact im
  · simp (disch := omega) only [Bool.false_eq_true, not_true_eq_false, not_false_eq_true, Nat.reduceAdd, Nat.reduceMul, w32_eq, w64_eq, lc_eq, lc_lt, lc_le, lc_gt, lc_ge, up_k, up_i, up_e, Int.toNat_natCast, tn7, tn8, tn12, tn3, tn120, tn1600, w32_and, w32_or, w32_xor, w32_shl, w32_shr, has2_eq]
    have := cnt_flip (p := fun j => decide (3 ≤ X (th + 4) j)) (q := fun j => decide (3 ≤ upM X (th + 4) s to (th + 4) j)) hs (fun k hk hn => by rw [up_i hn]) (by simp; omega) (by rw [up_e]; simp; omega)
    rw [this]
    omega
  · intro a h1 h2 h3; simp (disch := omega) only [upM_row]
  · refine FMt_trans (FMt_up ⟨by omega, by omega, fun _ => lay12 (by omega) (by omega)⟩) (FMt_trans (FMt_up ⟨by omega, by omega, fun _ => lay12 (by omega) (by omega)⟩) (FMt_trans (FMt_up ⟨by omega, by omega, fun _ => ?_⟩) (FMt_trans (FMt_up ⟨by omega, by omega, fun _ => ?_⟩) (FMt_trans (FMt_up ⟨by omega, by omega, fun _ => ?_⟩) (FMt_up ⟨by omega, by omega, fun _ => lay1 (by omega)⟩)))))
    · exact lay120 (by omega)
    · rw [show 120 * v + 3 * kp + 1 = 120 * v + (3 * kp + 1) by omega]; exact lay120 (by omega)
    · rw [show 120 * v + 3 * kp + 2 = 120 * v + (3 * kp + 2) by omega]; exact lay120 (by omega)
  · refine ⟨?_, fun j hj hn => ⟨?_, ?_⟩⟩ <;> simp (disch := omega) only [Bool.false_eq_true, not_true_eq_false, not_false_eq_true, Nat.reduceAdd, Nat.reduceMul, w32_eq, w64_eq, lc_eq, lc_lt, lc_le, lc_gt, lc_ge, up_k, up_i, up_e, Int.toNat_natCast, tn7, tn8, tn12, tn3, tn120, tn1600, w32_and, w32_or, w32_xor, w32_shl, w32_shr, has2_eq]
  · simp (disch := omega) only [upM_row]
  · simp (disch := omega) only [Bool.false_eq_true, not_true_eq_false, not_false_eq_true, Nat.reduceAdd, Nat.reduceMul, w32_eq, w64_eq, lc_eq, lc_lt, lc_le, lc_gt, lc_ge, up_k, up_i, up_e, Int.toNat_natCast, tn7, tn8, tn12, tn3, tn120, tn1600, w32_and, w32_or, w32_xor, w32_shl, w32_shr, has2_eq]
  · simp (disch := omega) only [upM_row]
theorem sim_concl {nv np ns bk th v s : Nat} {to : Int} {X M : Mem} (hT : RT nv np ns bk X M) (hS : RS nv ns th v X M) (hI : SI nv ns th X) (hth : 38 ≤ th) (hv : v < 22) (hs : s < ns) (hto : 3 ≤ to ∧ to ≤ 5) (hw : X (th + 4) s < 3) :
    two (x_State_conclude th (s : Int) to X) (m_writesDown (v : Int) (s : Int) to M) (fun X1 M1 => RS nv ns th v X1 M1 ∧ SI nv ns th X1 ∧ FXt th X X1 ∧ FMt v M M1 ∧ OneW ns th s to X X1 ∧ X1 (th + 2) = X (th + 2) ∧ X1 th 13 = X th 13 ∧ M1 39 = M 39) := sim_conclx hT hS (SIx_of hI) hth hv hs hto hw
