/-! THE PURE PART: the watch over a voice's ten pitches -/
theorem tick_split {nv np ns bk : Nat} {am : Int} {X M : Mem} (hT : RT nv np ns bk X M) (hS : RS nv ns 51 1 X M) (hI : SI nv ns 51 X) (hal : Same nv 127 am) (hm : X 51 13 < 999) :
    ∃ (h : Nat) (Xm : Mem), x_State_begin 51 127 X = some ((h : Int), Xm) ∧ FXt 51 X Xm ∧ SI nv ns 51 Xm ∧ ∀ Xw : Mem, (∀ a, (a < 359 ∨ 368 < a) → Xw a = Xm a) →
      ∃ (d : Nat) (X1 M1 : Mem), x_State_finish 51 Xw = some ((d : Int), X1) ∧ m_ticks 1 am M = some M1 ∧ FXt 51 Xw X1 ∧ FMt 1 M M1 ∧ RS nv ns 51 1 X1 M1 ∧ SI nv ns 51 X1 ∧ X1 51 13 = X 51 13 + 1 ∧ HeardEq ns 51 Xm M1 := by
  have hns := hT.1.2.2.2.2
  obtain ⟨⟨i1, Xa⟩, ⟨j1, Ma⟩, e1, f1, hSa, hIa, hxa, hma, hsa, h13a⟩ := sim_line (ax := 127) (am := am) hT hS hI (by omega) (by omega)
  simp only at hSa hIa hxa hma hsa h13a
  have hTa := RT_t hT (th := 51) (by omega) hxa hma
  obtain ⟨⟨i2, Xb⟩, ⟨j2, Mb⟩, e2, f2, hSb, hIb, hxb, hmb, hsb, h13b⟩ := sim_gives hTa hSa hIa (by omega) (by omega) hal
  simp only at hSb hIb hxb hmb hsb h13b
  have hTb := RT_t hTa (th := 51) (by omega) hxb hmb
  obtain ⟨⟨a3, i3, Xc⟩, ⟨j3, Mc⟩, e3, f3, h, hh, hhn, hSc, hIc, hxc, hmc, hsc, h13c⟩ := sim_hushes hTb hSb hIb (by omega) (by omega)
  simp only at hh hSc hIc hxc hmc hsc h13c
  subst hh
  have hTc := RT_t hTb (th := 51) (by omega) hxc hmc
  refine ⟨h, Xc, ?_, FXt_trans hxa (FXt_trans hxb hxc), hIc, fun Xw hw => ?_⟩
  · unfold x_State_begin
    rw [e1]; simp only [bnd_some]
    rw [e2]; simp only [bnd_some]
    rw [e3]; simp only [bnd_some]
  have hTw : RT nv np ns bk Xw Mc := RT_of hTc (fun a q1 q2 q3 => hw a (by omega)) rfl (fun _ _ _ => rfl)
  have hSw : RS nv ns 51 1 Xw Mc := RS_of hSc (fun a q1 q2 => hw a (by omega)) (fun _ _ _ => rfl)
  have hIw : SI nv ns 51 Xw := SI_of hIc (fun a q1 q2 => hw a (by omega))
  obtain ⟨⟨a4, i4, Xd⟩, ⟨j4, Md⟩, e4, f4, d, hd, hdn, ⟨hSd, hId, hxd, hmd, hsd, h13d⟩, hhd⟩ := sim_said hTw hSw hIw (by omega) (by omega)
  simp only at hd hSd hId hxd hmd hsd h13d hhd
  subst hd
  have i13 : 0 ≤ X 51 13 := hI.2.2.2.2.2.2.2.2.2.2.2.2.1.1
  have d13 : Xd 51 13 = X 51 13 := by rw [h13d, hw 51 (by omega), h13c, h13b, h13a]
  have m13 : Md 25 1 = X 51 13 := by rw [← d13]; exact hSd.2.2.2.2.2.2.2.2.2.2.1
  refine ⟨d, upM Xd 51 13 (X 51 13 + 1), upM Md 25 1 (X 51 13 + 1), ?_, ?_, FXt_trans hxd (FXt_up (by omega)), FMt_trans hma (FMt_trans hmb (FMt_trans hmc (FMt_trans hmd (FMt_up ⟨by omega, by omega, fun _ => lay1 (by omega)⟩)))), RS_min hSd, SI_min hId (by omega), up_e, ?_⟩
  · unfold x_State_finish
    rw [e4]; simp only [bnd_some]
    have e9 : (if X 51 13 + 1 < 999 then X 51 13 + 1 else 999) = X 51 13 + 1 := by split <;> omega
    rw [d13, xmin (by omega) (by omega), e9]
    simp only [bnd_some, lt_eq]
  · unfold m_ticks
    rw [show (1 : Int) = ((1 : Nat) : Int) from rfl]
    rw [f1]; simp only [bnd_some]
    rw [f2]; simp only [bnd_some]
    rw [f3]; simp only [bnd_some]
    rw [f4]; simp only [bnd_some, lt_eq, Int.toNat_natCast]
    unfold chk
    rw [if_pos (by omega), if_pos (by omega), m13]
  · intro j hj
    rw [up_k (by omega)]
    rw [hhd j hj, hw 55 (by omega), hw 58 (by omega)]
/-- what is heard of a saying in a minute: 7 in the class, -1 in the reference, where nothing is -/
def CellOk (nv : Nat) (x m : Int) : Prop := (x = 7 ∧ m = -1) ∨ (x = m ∧ 0 ≤ m ∧ m < (nv : Int))
theorem cell_eq {nv : Nat} {x m x' m' : Int} (hnv : nv ≤ 7) (h : CellOk nv x m) (h' : CellOk nv x' m') : m = m' ↔ x = x' := by
  unfold CellOk at h h'
  omega
theorem x_cells {nv ns p m : Nat} {X : Mem} {v1 v2 v3 : Int} (h2 : X 23 2 = (ns : Int)) (hns : ns ≤ 12) (hp : p < 10) (hm : m < 31) (hI : SI nv ns 51 X) :
    post (itr2 (x_Heard_watch_L61 v1 v2 v3 (p : Int) (m : Int)) FUEL 0 X) (fun q => (∀ a, a ≠ 359 + p → q.2 a = X a) ∧ (∀ j, j < 12 * m → q.2 (359 + p) j = X (359 + p) j) ∧ (∀ s, s < ns → q.2 (359 + p) (12 * m + s) = if X 55 s = 2 then X 58 s else 7)) := by
  refine post_itr2 (fun n (i : Int) X1 => ∃ c : Nat, i = (c : Int) ∧ c ≤ ns ∧ n = ns - c ∧ (∀ a, a ≠ 359 + p → X1 a = X a) ∧ (∀ j, j < 12 * m → X1 (359 + p) j = X (359 + p) j) ∧ (∀ s, s < c → X1 (359 + p) (12 * m + s) = if X 55 s = 2 then X 58 s else 7)) _ ?_ FUEL ns 0 X (fuel_lt (by omega)) ⟨0, rfl, by omega, rfl, fun _ _ => rfl, fun _ _ => rfl, fun s hs => by omega⟩
  rintro n i X1 ⟨c, rfl, hc, rfl, g1, g2, g3⟩ F ih
  unfold x_Heard_watch_L61 x_Heard_watch_L61_B92
  have e2 : X1 23 2 = (ns : Int) := by rw [g1 23 (by omega)]; exact h2
  have e5 : X1 55 = X 55 := g1 55 (by omega)
  have e8 : X1 58 = X 58 := g1 58 (by omega)
  by_cases h : c < ns
  · have t0 : ((m : Int) * 12 + (c : Int)).toNat = 12 * m + c := by omega
    have iw : 0 ≤ X 55 c ∧ X 55 c ≤ 5 := hI.2.2.2.1 c h
    have step : ∀ w : Int, w = (if X 55 c = 2 then X 58 c else 7) → post (F ((c : Int) + 1) (upM X1 (359 + p) (12 * m + c) w)) (fun q => (∀ a, a ≠ 359 + p → q.2 a = X a) ∧ (∀ j, j < 12 * m → q.2 (359 + p) j = X (359 + p) j) ∧ (∀ s, s < ns → q.2 (359 + p) (12 * m + s) = if X 55 s = 2 then X 58 s else 7)) := fun w hw => by
      refine ih (ns - (c + 1)) _ _ (by omega) ⟨c + 1, rfl, by omega, rfl, fun a ha => ?_, fun j hj => ?_, fun s hs => ?_⟩
      · rw [upM_row ha]; exact g1 a ha
      · rw [up_i (by omega)]; exact g2 j hj
      · by_cases e : s = c
        · subst e; rw [up_e]; exact hw
        · rw [up_i (by omega)]; exact g3 s (by omega)
    repeat' (first | with_reducible refine post_lt ?_ | (with_reducible refine post_chk ?_ ?_; focus ((try simp (disch := omega) only [Bool.false_eq_true, not_true_eq_false, not_false_eq_true, Nat.reduceAdd, Nat.reduceMul, w32_eq, w64_eq, lc_eq, lc_lt, lc_le, lc_gt, lc_ge, up_k, up_i, up_e, Int.toNat_natCast, tn7, tn8, tn12, tn3, tn120, tn1600, w32_and, w32_or, w32_xor, w32_shl, w32_shr, has2_eq, e2, e5]) <;> omega)) | (with_reducible refine post_ite (fun hcp => ?_) (fun hcp => ?_) <;> (try simp (disch := omega) only [Bool.false_eq_true, not_true_eq_false, not_false_eq_true, Nat.reduceAdd, Nat.reduceMul, w32_eq, w64_eq, lc_eq, lc_lt, lc_le, lc_gt, lc_ge, up_k, up_i, up_e, Int.toNat_natCast, tn7, tn8, tn12, tn3, tn120, tn1600, w32_and, w32_or, w32_xor, w32_shl, w32_shr, has2_eq, e2, e5] at hcp) <;> (try (exfalso; first | omega | exact hcp rfl | exact hcp trivial | contradiction))))
    · simp only [t0, Int.toNat_natCast]
      exact step 7 (by rw [if_neg (by omega)])
    · simp only [t0, Int.toNat_natCast, e8]
      exact step (X 58 c) (by rw [if_pos (by omega)])
  · have e : c = ns := by omega
    subst e
    repeat' (first | with_reducible refine post_lt ?_ | (with_reducible refine post_chk ?_ ?_; focus ((try simp (disch := omega) only [Bool.false_eq_true, not_true_eq_false, not_false_eq_true, Nat.reduceAdd, Nat.reduceMul, w32_eq, w64_eq, lc_eq, lc_lt, lc_le, lc_gt, lc_ge, up_k, up_i, up_e, Int.toNat_natCast, tn7, tn8, tn12, tn3, tn120, tn1600, w32_and, w32_or, w32_xor, w32_shl, w32_shr, has2_eq, e2]) <;> omega)) | (with_reducible refine post_ite (fun hcp => ?_) (fun hcp => ?_) <;> (try simp (disch := omega) only [Bool.false_eq_true, not_true_eq_false, not_false_eq_true, Nat.reduceAdd, Nat.reduceMul, w32_eq, w64_eq, lc_eq, lc_lt, lc_le, lc_gt, lc_ge, up_k, up_i, up_e, Int.toNat_natCast, tn7, tn8, tn12, tn3, tn120, tn1600, w32_and, w32_or, w32_xor, w32_shl, w32_shr, has2_eq, e2] at hcp) <;> (try (exfalso; first | omega | exact hcp rfl | exact hcp trivial | contradiction))))
    exact post_some ⟨g1, g2, g3⟩
theorem m_cells {nv np ns bk p m : Nat} {X M : Mem} {v1 v2 v4 : Int} (hT : RT nv np ns bk X M) (hp : p < 10) (hm : m < 31) :
    post (itr2 (m_pitchBits_L58 v1 v2 (p : Int) v4 (m : Int)) FUEL 0 M) (fun q => (∀ a, a ≠ 44 → q.2 a = M a) ∧ (∀ j, j < 12 * (31 * p + m) → q.2 44 j = M 44 j) ∧ (∀ s, s < ns → q.2 44 (12 * (31 * p + m) + s) = M 39 s)) := by
  have hns := hT.1.2.2.2.2
  obtain ⟨⟨tb, tb2, tnv, tnp, tns⟩, ⟨x0, x1, x2⟩, ⟨m0, m1, m2⟩, ⟨t3, t3a, t3b⟩, tpit, tper, tsay, trul⟩ := hT
  refine post_itr2 (fun n (i : Int) M1 => ∃ c : Nat, i = (c : Int) ∧ c ≤ ns ∧ n = ns - c ∧ (∀ a, a ≠ 44 → M1 a = M a) ∧ (∀ j, j < 12 * (31 * p + m) → M1 44 j = M 44 j) ∧ (∀ s, s < c → M1 44 (12 * (31 * p + m) + s) = M 39 s)) _ ?_ FUEL ns 0 M (fuel_lt (by omega)) ⟨0, rfl, by omega, rfl, fun _ _ => rfl, fun _ _ => rfl, fun s hs => by omega⟩
  rintro n i M1 ⟨c, rfl, hc, rfl, g1, g2, g3⟩ F ih
  unfold m_pitchBits_L58
  have e0 : M1 0 13 = (bk : Int) := by rw [g1 0 (by omega)]; exact tb
  have e7 : M1 7 bk = (ns : Int) := by rw [g1 7 (by omega)]; exact m2
  have e9 : M1 39 = M 39 := g1 39 (by omega)
  by_cases h : c < ns
  · have t0 : (12 * (31 * (p : Int) + (m : Int)) + (c : Int)).toNat = 12 * (31 * p + m) + c := by omega
    repeat' (first | with_reducible refine post_lt ?_ | (with_reducible refine post_chk ?_ ?_; focus ((try simp (disch := omega) only [Bool.false_eq_true, not_true_eq_false, not_false_eq_true, Nat.reduceAdd, Nat.reduceMul, w32_eq, w64_eq, lc_eq, lc_lt, lc_le, lc_gt, lc_ge, up_k, up_i, up_e, Int.toNat_natCast, tn7, tn8, tn12, tn3, tn120, tn1600, w32_and, w32_or, w32_xor, w32_shl, w32_shr, has2_eq, e0, e7]) <;> omega)) | (with_reducible refine post_ite (fun hcp => ?_) (fun hcp => ?_) <;> (try simp (disch := omega) only [Bool.false_eq_true, not_true_eq_false, not_false_eq_true, Nat.reduceAdd, Nat.reduceMul, w32_eq, w64_eq, lc_eq, lc_lt, lc_le, lc_gt, lc_ge, up_k, up_i, up_e, Int.toNat_natCast, tn7, tn8, tn12, tn3, tn120, tn1600, w32_and, w32_or, w32_xor, w32_shl, w32_shr, has2_eq, e0, e7] at hcp) <;> (try (exfalso; first | omega | exact hcp rfl | exact hcp trivial | contradiction))))
    simp only [t0, Int.toNat_natCast, e9]
    refine ih (ns - (c + 1)) _ _ (by omega) ⟨c + 1, rfl, by omega, rfl, fun a ha => ?_, fun j hj => ?_, fun s hs => ?_⟩
    · rw [upM_row ha]; exact g1 a ha
    · rw [up_i (by omega)]; exact g2 j hj
    · by_cases e : s = c
      · subst e; rw [up_e]
      · rw [up_i (by omega)]; exact g3 s (by omega)
  · have e : c = ns := by omega
    subst e
    repeat' (first | with_reducible refine post_lt ?_ | (with_reducible refine post_chk ?_ ?_; focus ((try simp (disch := omega) only [Bool.false_eq_true, not_true_eq_false, not_false_eq_true, Nat.reduceAdd, Nat.reduceMul, w32_eq, w64_eq, lc_eq, lc_lt, lc_le, lc_gt, lc_ge, up_k, up_i, up_e, Int.toNat_natCast, tn7, tn8, tn12, tn3, tn120, tn1600, w32_and, w32_or, w32_xor, w32_shl, w32_shr, has2_eq, e0, e7]) <;> omega)) | (with_reducible refine post_ite (fun hcp => ?_) (fun hcp => ?_) <;> (try simp (disch := omega) only [Bool.false_eq_true, not_true_eq_false, not_false_eq_true, Nat.reduceAdd, Nat.reduceMul, w32_eq, w64_eq, lc_eq, lc_lt, lc_le, lc_gt, lc_ge, up_k, up_i, up_e, Int.toNat_natCast, tn7, tn8, tn12, tn3, tn120, tn1600, w32_and, w32_or, w32_xor, w32_shl, w32_shr, has2_eq, e0, e7] at hcp) <;> (try (exfalso; first | omega | exact hcp rfl | exact hcp trivial | contradiction))))
    exact post_some ⟨g1, g2, g3⟩
