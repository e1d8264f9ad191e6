/-! THE PURE PART: the watch: the minutes of one pitch, side by side -/
/-- how the watch stands, c minutes of the pitch p gone -/
def Watch (nv np ns bk C p c : Nat) (X M X1 M1 : Mem) : Prop := RT nv np ns bk X1 M1 ∧ RS nv ns 51 1 X1 M1 ∧ SI nv ns 51 X1 ∧ QX X X1 ∧ QM M M1 ∧ X1 51 13 = X 38 13 + c ∧ Cells nv ns C (31 * p + c) X1 M1
theorem watch_step {nv np ns bk k C p c H w : Nat} {v1 v2 v3 u1 u2 : Int} {X M X1 M1 : Mem} (hR : RAll nv np ns bk k X M) (hX : X 354 0 = (H : Int)) (hC : C ≤ 31) (hp : p < 10) (hc : c < C) (hCm : X 38 13 + C ≤ 999) (hw : w = cnt (fun i => decide ((X 355 i).toNat < c ∧ Hit X X1 p i = true)) H) (hW : Watch nv np ns bk C p c X M X1 M1) :
    ∃ (h d : Nat) (Xm Xw X2 M2 M3 : Mem) (a1 a2 a3 am : Int), x_State_begin 51 127 X1 = some ((h : Int), Xm) ∧ itr2 (x_Heard_watch_L61 v1 v2 v3 (p : Int) (c : Int)) FUEL 0 Xm = some (a1, Xw) ∧ x_State_finish 51 Xw = some ((d : Int), X2) ∧
      m_all M1 = some am ∧ m_ticks 1 am M1 = some M2 ∧ itr2 (m_pitchBits_L58 u1 u2 (p : Int) (w : Int) (c : Int)) FUEL 0 M2 = some (a2, M3) ∧
      itr2 (m_pitchBits_L106 u1 u2 (p : Int) (c : Int) M3) FUEL (w : Int) 0 = some (((cnt (fun i => decide ((X 355 i).toNat < c + 1 ∧ Hit X X2 p i = true)) H : Nat) : Int), a3) ∧ Watch nv np ns bk C p (c + 1) X M X2 M3 := by
  obtain ⟨hT, hS, hI, hx, hm, h13, hcell⟩ := hW
  have hns := hT.1.2.2.2.2
  have hnv := hT.1.2.2.1
  have hH := hR.2.2.2.2.2.2.2.2.1
  have hHc := hH
  obtain ⟨z1, z2, z3, z4⟩ := hHc
  have hH16 : H ≤ 16 := by omega
  have hall := m_all_eq hT
  obtain ⟨h, Xm, b1, b2, b3, b4⟩ := tick_split hT hS hI (same_all hnv) (by omega)
  have x2 : Xm 23 2 = (ns : Int) := by rw [b2 23 (by omega) (by omega) (by omega)]; exact hT.2.1.2.2
  obtain ⟨⟨a1, Xw⟩, c1, c2, c3, c4⟩ := x_cells (v1 := v1) (v2 := v2) (v3 := v3) (p := p) (m := c) x2 hns hp (by omega) b3
  simp only at c2 c3 c4
  obtain ⟨d, X2, M2, d1, d2, d3, d4, d5, d6, d7, d8⟩ := b4 Xw (fun a ha => c2 a (by omega))
  have hT2 : RT nv np ns bk X2 M2 := RT_of hT (fun a q1 q2 q3 => by rw [d3 a (by omega) (by omega) (by omega), c2 a (by omega), b2 a (by omega) (by omega) (by omega)]) (by rw [d4 0 13 (by omega)]) (fun a q1 q2 => by funext i; exact d4 a i (by omega))
  obtain ⟨⟨a2, M3⟩, e1, e2, e3, e4⟩ := m_cells (v1 := u1) (v2 := u2) (v4 := (w : Int)) (p := p) (m := c) hT2 hp (by omega)
  simp only at e2 e3 e4
  -- what is heard in this minute
  have hcw : ∀ s, s < ns → CellOk nv (X2 (359 + p) (12 * c + s)) (M2 39 s) := fun s hs => by
    rw [d3 (359 + p) (by omega) (by omega) (by omega), c4 s hs, d8 s hs]
    by_cases q : Xm (51 + 4) s = 2
    · have r1 := b3.2.2.2.2.2.2.2.2.2.1 s hs q
      have r2 := b3.2.2.2.2.2.2.1 s hs
      rw [if_pos q, if_pos q]
      exact Or.inr ⟨rfl, r1.1, r2.2⟩
    · rw [if_neg q, if_neg q]
      exact Or.inl ⟨rfl, rfl⟩
  have m3 : ∀ a, a ≠ 44 → 39 < a → M3 a = M1 a := fun a q1 q2 => by rw [e2 a q1]; funext i; exact d4 a i (by omega)
  have m30 : M3 0 = M1 0 := by rw [e2 0 (by omega)]; funext i; exact d4 0 i (by omega)
  have hm3 : QM M M3 := fun a i q => by
    by_cases e : a = 44
    · subst e; omega
    · rw [e2 a e, d4 a i (by omega)]; exact hm a i q
  have mm : ∀ a, (a = 41 ∨ a = 42 ∨ a = 43) → M3 a = M a := fun a q => by funext i; exact hm3 a i (by omega)
  have mm0 : M3 0 = M 0 := by funext i; exact hm3 0 i (by omega)
  have hw16 : w ≤ 16 := by rw [hw]; exact Nat.le_trans (cnt_le _ _) hH16
  obtain ⟨⟨s1, s2⟩, f1, f2⟩ := m_met (p := p) (m := c) (w := w) (M1 := M3) (X2 := X2) (v1 := u1) (v2 := u2) hnv hns hH hX (by rw [mm0]) (mm 41 (by omega)) (mm 42 (by omega)) (mm 43 (by omega)) hp (by omega) hw16 (fun s hs => by rw [e2 39 (by omega)]; exact hcw s hs)
  simp only at f2
  have hx2 : QX X X2 := fun a q1 q2 q3 q4 q5 => by rw [d3 a q1 q2 (by omega), c2 a (by omega), b2 a q1 q2 (by omega)]; exact hx a q1 q2 q3 q4 q5
  have hrow : ∀ q, q < 10 → q ≠ p → X2 (359 + q) = X1 (359 + q) := fun q q1 q2 => by rw [d3 _ (by omega) (by omega) (by omega), c2 _ (by omega), b2 _ (by omega) (by omega) (by omega)]
  have hrowp : ∀ j, j < 12 * c → X2 (359 + p) j = X1 (359 + p) j := fun j hj => by rw [d3 _ (by omega) (by omega) (by omega), c3 j hj, b2 _ (by omega) (by omega) (by omega)]
  have hsum : w + cnt (fun i => decide ((X 355 i).toNat = c ∧ Hit X X2 p i = true)) H = cnt (fun i => decide ((X 355 i).toNat < c + 1 ∧ Hit X X2 p i = true)) H := by
    have e0 : w = cnt (fun i => decide ((X 355 i).toNat < c ∧ Hit X X2 p i = true)) H := by
      rw [hw]
      refine cnt_ext fun i hi => ?_
      by_cases q : (X 355 i).toNat < c
      · obtain ⟨g1, g2, g3, g4, g5, g6, g7⟩ := z4 i (by omega)
        have : Hit X X1 p i = Hit X X2 p i := by
          unfold Hit
          rw [hrowp _ (by omega)]
        rw [this]
      · rw [decide_eq_false (fun z => q z.1), decide_eq_false (fun z => q z.1)]
    rw [e0, ← cnt_pair (fun j hj q => by rw [decide_eq_true_eq, decide_eq_true_eq] at q; omega)]
    refine cnt_ext fun i hi => ?_
    rw [Bool.eq_iff_iff, Bool.or_eq_true, decide_eq_true_eq, decide_eq_true_eq, decide_eq_true_eq]
    constructor
    · rintro (q | q)
      · exact ⟨by omega, q.2⟩
      · exact ⟨by omega, q.2⟩
    · rintro ⟨q1, q2⟩
      by_cases q : (X 355 i).toNat < c
      · exact Or.inl ⟨q, q2⟩
      · exact Or.inr ⟨by omega, q2⟩
  rw [hsum] at f2
  subst f2
  refine ⟨h, d, Xm, Xw, X2, M2, M3, a1, a2, s2, _, b1, c1, d1, hall, d2, e1, f1, ?_, ?_, d6, hx2, hm3, by rw [d7, h13]; omega, ?_⟩
  · exact RT_of hT2 (fun _ _ _ _ => rfl) (by rw [e2 0 (by omega)]) (fun a q1 q2 => e2 a (by omega))
  · exact RS_of d5 (fun _ _ _ => rfl) (fun a q1 q2 => e2 a (by omega))
  · refine Cells_next hcell hC hc hrow hrowp (fun j hj => ?_) hns (fun s hs => ?_)
    · rw [e3 j hj]; exact d4 44 j (by omega)
    · rw [e4 s hs]; exact hcw s hs
