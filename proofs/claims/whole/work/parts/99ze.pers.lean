/-! THE PURE PART: town: two words with their numbers; persons -/
section TAIL
variable {C : Mem} {cnt inb j i p1 p2 : Nat} {X M : Mem}
theorem sim_tail (hC : TokC C cnt) (hA : AheadOK C cnt) (h : PB C cnt j X M) (t1 t2 : Nat) (ht1 : t1 < 23) (ht2 : t2 < 23) (a1 b1 a2 b2 : Int) (hr1 : 0 ≤ a1 ∧ a1 ≤ b1 ∧ b1 ≤ 9999) (hr2 : 0 ≤ a2 ∧ a2 ≤ b2 ∧ b2 ≤ 9999) (hp1 : 2 ≤ p1 ∧ p1 ≤ 17) (hp2 : 2 ≤ p2 ∧ p2 ≤ 17) (hp : p1 ≠ p2) (hk1 : bkOf p1 i = inb) (hk2 : bkOf p2 i = inb) :
    ∃ u1 u2 X' M', (∀ Kx : Int → Int → Mem → Option Mem, bnd (x_Reader_require (t1 : Int) X) (fun M3 => bnd2 (x_Reader_number a1 b1 M3) (fun r4 M4 => bnd (x_Reader_require (t2 : Int) M4) (fun M5 => bnd2 (x_Reader_number a2 b2 M5) (fun r6 M6 => Kx r4 r6 M6)))) = Kx u1 u2 X') ∧
      (∀ Km : Mem → Option Mem, bnd (m_must_ (ownW t1) M) (fun M3 => bnd2 (m_number a1 b1 M3) (fun r4 M4 => bnd (m_must_ (ownW t2) (upM M4 p1 i r4)) (fun M5 => bnd2 (m_number a2 b2 M5) (fun r6 M6 => Km (upM M6 p2 i r6))))) = Km M') ∧
      (∀ q, q ≠ 3 → X' q = X q) ∧ FrS inb M M' ∧
      ((PB C cnt (j + 4) X' M' ∧ a1 ≤ u1 ∧ u1 ≤ b1 ∧ a2 ≤ u2 ∧ u2 ≤ b2 ∧ (∀ a, a ≠ 0 → a ≠ p1 → a ≠ p2 → M' a = M a) ∧ (∀ z, z ≠ i → M' p1 z = M p1 z ∧ M' p2 z = M p2 z) ∧ M' p1 i = u1 ∧ M' p2 i = u2 ∧ (∀ z, 13 ≤ z → M' 0 z = M 0 z)) ∨ (FltS cnt X' M' ∧ FMs8 M')) := by
  have fu1 : ∀ (Y : Mem) v, FrS inb Y (upM Y p1 i v) := fun Y v => FrS_up (Or.inr (Or.inl ⟨by omega, by omega, hk1⟩))
  have fu2 : ∀ (Y : Mem) v, FrS inb Y (upM Y p2 i v) := fun Y v => FrS_up (Or.inr (Or.inl ⟨by omega, by omega, hk2⟩))
  have ffr : ∀ (jj : Nat) (z : Int) (Y : Mem), ∀ q, q ≠ 3 → (fX C jj z Y) q = Y q := fun jj z Y q hq => by unfold fX; rw [upM_row hq, upM_row hq]
  have up8 : ∀ (Y : Mem) (p : Nat) v z, 2 ≤ p → (upM Y p i v) 0 z = Y 0 z := fun Y p v z hp => up_k (by omega)
  obtain ⟨c1, c2⟩ := sim_must hC hA h t1 ht1
  by_cases h1 : C 0 j = (t1 : Int)
  · obtain ⟨Ma, d1, d2, d3, d4⟩ := c1 h1
    obtain ⟨Xa, hXa⟩ : ∃ Xa, Xa = upM X 3 4 ((j : Int) + 1) := ⟨_, rfl⟩
    rw [← hXa] at d1 d3
    have xa : ∀ q, q ≠ 3 → Xa q = X q := fun q hq => by rw [hXa, upM_row hq]
    rcases sim_num hC hA d3 a1 b1 hr1 with ⟨u1, Mb, e1, e2, e3, e4, e5, e6⟩ | ⟨z, u1, u1', z1, z2, e1, e2⟩
    · obtain ⟨Xb, hXb⟩ : ∃ Xb, Xb = upM Xa 3 4 (((j + 1 : Nat) : Int) + 1) := ⟨_, rfl⟩
      rw [← hXb] at e1 e5
      have xb : ∀ q, q ≠ 3 → Xb q = X q := fun q hq => by rw [hXb, upM_row hq]; exact xa q hq
      obtain ⟨Mb', hMb'⟩ : ∃ Mb', Mb' = upM Mb p1 i u1 := ⟨_, rfl⟩
      have pb : PB C cnt (j + 1 + 1) Xb Mb' := by rw [hMb']; exact PB_up e5 (by omega) (by omega)
      have frb : FrS inb M Mb' := by rw [hMb']; exact FrS_trans (FrS_trans (FrS_A d4) (FrS_A e6)) (fu1 Mb u1)
      obtain ⟨g1, g2⟩ := sim_must hC hA pb t2 ht2
      by_cases h2 : C 0 (j + 1 + 1) = (t2 : Int)
      · obtain ⟨Mc, k1, k2, k3, k4⟩ := g1 h2
        obtain ⟨Xc, hXc⟩ : ∃ Xc, Xc = upM Xb 3 4 (((j + 1 + 1 : Nat) : Int) + 1) := ⟨_, rfl⟩
        rw [← hXc] at k1 k3
        have xc : ∀ q, q ≠ 3 → Xc q = X q := fun q hq => by rw [hXc, upM_row hq]; exact xb q hq
        rcases sim_num hC hA k3 a2 b2 hr2 with ⟨u2, Md, l1, l2, l3, l4, l5, l6⟩ | ⟨z, u2, u2', z1, z2, l1, l2⟩
        · refine ⟨u1, u2, upM Xc 3 4 (((j + 1 + 1 + 1 : Nat) : Int) + 1), upM Md p2 i u2, fun Kx => ?_, fun Km => ?_, fun q hq => ?_, FrS_trans frb (FrS_trans (FrS_trans (FrS_A k4) (FrS_A l6)) (fu2 Md u2)), Or.inl ⟨PB_up l5 (by omega) (by omega), e3, e4, l3, l4, fun a q1 q2 q3 => ?_, fun z hz => ⟨?_, ?_⟩, ?_, up_e, fun z hz => ?_⟩⟩
          · rw [d1, bnd_some, e1, bnd2_some, k1, bnd_some, l1, bnd2_some]
          · rw [d2, bnd_some, e2, bnd2_some, ← hMb', k2, bnd_some, l2, bnd2_some]
          · rw [upM_row hq]; exact xc q hq
          · rw [upM_row q3, l6.1 a q1, k4.1 a q1, hMb', upM_row q2, e6.1 a q1, d4.1 a q1]
          · rw [up_k hp, l6.1 p1 (by omega), k4.1 p1 (by omega), hMb', up_i hz, e6.1 p1 (by omega), d4.1 p1 (by omega)]
          · rw [up_i hz, l6.1 p2 (by omega), k4.1 p2 (by omega), hMb', up_k (fun q => hp q.symm), e6.1 p2 (by omega), d4.1 p2 (by omega)]
          · rw [up_k hp, l6.1 p1 (by omega), k4.1 p1 (by omega), hMb', up_e]
          · rw [up8 _ _ _ _ hp2.1, l6.2 z (by omega) (by omega) (by omega) (by omega) (by omega) (by omega), k4.2 z (by omega) (by omega) (by omega) (by omega) (by omega) (by omega), hMb', up8 _ _ _ _ hp1.1, e6.2 z (by omega) (by omega) (by omega) (by omega) (by omega) (by omega), d4.2 z (by omega) (by omega) (by omega) (by omega) (by omega) (by omega)]
        · have fm := fM_f (C := C) (j := j + 1 + 1 + 1) (M := Mc) ⟨z1, z2⟩
          refine ⟨u1, u2, fX C (j + 1 + 1 + 1) z Xc, upM (fM C (j + 1 + 1 + 1) z Mc) p2 i u2', fun Kx => ?_, fun Km => ?_, fun q hq => ?_, FrS_trans frb (FrS_trans (FrS_fM (FrS_A k4)) (fu2 _ _)), Or.inr ⟨FltS_mk hC k3 ⟨z1, z2⟩ (up8 _ _ _ _ hp2.1) (up8 _ _ _ _ hp2.1), ?_⟩⟩
          · rw [d1, bnd_some, e1, bnd2_some, k1, bnd_some, l1, bnd2_some]
          · rw [d2, bnd_some, e2, bnd2_some, ← hMb', k2, bnd_some, l2, bnd2_some]
          · rw [ffr _ _ _ q hq]; exact xc q hq
          · unfold FMs8; rw [up8 _ _ _ _ hp2.1]; exact fm
      · obtain ⟨k1, k2⟩ := g2 h2
        have fs := (PB_flt hC pb (a := 1) (by omega)).1
        have fm := fM_f (C := C) (j := j + 1 + 1) (a := 1) (M := Mb') (by omega)
        obtain ⟨u2, l1⟩ := f_number fs a2 b2
        refine ⟨u1, u2, fX C (j + 1 + 1) 1 Xb, upM (fM C (j + 1 + 1) 1 Mb') p2 i 0, fun Kx => ?_, fun Km => ?_, fun q hq => ?_, FrS_trans frb (FrS_trans (FrS_fM (FrS_refl inb Mb')) (fu2 _ _)), Or.inr ⟨FltS_mk hC pb (by omega) (up8 _ _ _ _ hp2.1) (up8 _ _ _ _ hp2.1), ?_⟩⟩
        · rw [d1, bnd_some, e1, bnd2_some, k1, bnd_some, l1, bnd2_some]
        · rw [d2, bnd_some, e2, bnd2_some, ← hMb', k2, bnd_some, m_number_f fm, bnd2_some]
        · rw [ffr _ _ _ q hq]; exact xb q hq
        · unfold FMs8; rw [up8 _ _ _ _ hp2.1]; exact fm
    · have fs := (PB_flt hC d3 (a := z) ⟨z1, z2⟩).1
      have fm := fM_f (C := C) (j := j + 1) (M := Ma) ⟨z1, z2⟩
      have fm2 : FMs8 (upM (fM C (j + 1) z Ma) p1 i u1') := by unfold FMs8; rw [up8 _ _ _ _ hp1.1]; exact fm
      obtain ⟨u2, l1⟩ := f_number fs a2 b2
      refine ⟨u1, u2, fX C (j + 1) z Xa, upM (upM (fM C (j + 1) z Ma) p1 i u1') p2 i 0, fun Kx => ?_, fun Km => ?_, fun q hq => ?_, FrS_trans (FrS_fM (FrS_A d4)) (FrS_trans (fu1 _ _) (fu2 _ _)), Or.inr ⟨FltS_mk hC d3 ⟨z1, z2⟩ (by rw [up8 _ _ _ _ hp2.1, up8 _ _ _ _ hp1.1]) (by rw [up8 _ _ _ _ hp2.1, up8 _ _ _ _ hp1.1]), ?_⟩⟩
      · rw [d1, bnd_some, e1, bnd2_some, f_require fs, bnd_some, l1, bnd2_some]
      · rw [d2, bnd_some, e2, bnd2_some, m_must_f fm2, bnd_some, m_number_f fm2, bnd2_some]
      · rw [ffr _ _ _ q hq]; exact xa q hq
      · unfold FMs8; rw [up8 _ _ _ _ hp2.1]; exact fm2
  · obtain ⟨d1, d2⟩ := c2 h1
    have fs := (PB_flt hC h (a := 1) (by omega)).1
    have fm := fM_f (C := C) (j := j) (a := 1) (M := M) (by omega)
    have fm2 : FMs8 (upM (fM C j 1 M) p1 i 0) := by unfold FMs8; rw [up8 _ _ _ _ hp1.1]; exact fm
    obtain ⟨u1, l0⟩ := f_number fs a1 b1
    obtain ⟨u2, l1⟩ := f_number fs a2 b2
    refine ⟨u1, u2, fX C j 1 X, upM (upM (fM C j 1 M) p1 i 0) p2 i 0, fun Kx => ?_, fun Km => ?_, fun q hq => ffr _ _ _ q hq, FrS_trans (FrS_fM (FrS_refl inb M)) (FrS_trans (fu1 _ _) (fu2 _ _)), Or.inr ⟨FltS_mk hC h (by omega) (by rw [up8 _ _ _ _ hp2.1, up8 _ _ _ _ hp1.1]) (by rw [up8 _ _ _ _ hp2.1, up8 _ _ _ _ hp1.1]), ?_⟩⟩
    · rw [d1, bnd_some, l0, bnd2_some, f_require fs, bnd_some, l1, bnd2_some]
    · rw [d2, bnd_some, m_number_f fm, bnd2_some, m_must_f fm2, bnd_some, m_number_f fm2, bnd2_some]
    · unfold FMs8; rw [up8 _ _ _ _ hp2.1]; exact fm2
/-- behind a fault the two words change nothing but the reference's draft -/
theorem flt_tail {X M : Mem} (hx : FSt cnt X) (hm : FMs8 M) (t1 t2 a1 b1 a2 b2 w1 w2 : Int) (hp1 : 2 ≤ p1 ∧ p1 ≤ 17) (hp2 : 2 ≤ p2 ∧ p2 ≤ 17) (hk1 : bkOf p1 i = inb) (hk2 : bkOf p2 i = inb) :
    ∃ u1 u2 M', (∀ Kx : Int → Int → Mem → Option Mem, bnd (x_Reader_require t1 X) (fun M3 => bnd2 (x_Reader_number a1 b1 M3) (fun r4 M4 => bnd (x_Reader_require t2 M4) (fun M5 => bnd2 (x_Reader_number a2 b2 M5) (fun r6 M6 => Kx r4 r6 M6)))) = Kx u1 u2 X) ∧
      (∀ Km : Mem → Option Mem, bnd (m_must_ w1 M) (fun M3 => bnd2 (m_number a1 b1 M3) (fun r4 M4 => bnd (m_must_ w2 (upM M4 p1 i r4)) (fun M5 => bnd2 (m_number a2 b2 M5) (fun r6 M6 => Km (upM M6 p2 i r6))))) = Km M') ∧ FrS inb M M' ∧ M' 0 8 = M 0 8 ∧ M' 0 9 = M 0 9 := by
  have fu1 : ∀ (Y : Mem) v, FrS inb Y (upM Y p1 i v) := fun Y v => FrS_up (Or.inr (Or.inl ⟨by omega, by omega, hk1⟩))
  have fu2 : ∀ (Y : Mem) v, FrS inb Y (upM Y p2 i v) := fun Y v => FrS_up (Or.inr (Or.inl ⟨by omega, by omega, hk2⟩))
  have up8 : ∀ (Y : Mem) (p : Nat) v z, 2 ≤ p → (upM Y p i v) 0 z = Y 0 z := fun Y p v z hp => up_k (by omega)
  have fm2 : FMs8 (upM M p1 i 0) := by unfold FMs8; rw [up8 _ _ _ _ hp1.1]; exact hm
  obtain ⟨u1, l0⟩ := f_number hx a1 b1
  obtain ⟨u2, l1⟩ := f_number hx a2 b2
  refine ⟨u1, u2, upM (upM M p1 i 0) p2 i 0, fun Kx => ?_, fun Km => ?_, FrS_trans (fu1 _ _) (fu2 _ _), ?_, ?_⟩
  · rw [f_require hx, bnd_some, l0, bnd2_some, f_require hx, bnd_some, l1, bnd2_some]
  · rw [m_must_f hm, bnd_some, m_number_f hm, bnd2_some, m_must_f fm2, bnd_some, m_number_f fm2, bnd2_some]
  · rw [up8 _ _ _ _ hp2.1, up8 _ _ _ _ hp1.1]
  · rw [up8 _ _ _ _ hp2.1, up8 _ _ _ _ hp1.1]
end TAIL
section PERS
variable {C : Mem} {cnt inb j nv np ns : Nat} {L : List (Int × Int)} {X M : Mem}
theorem PB_x {X1 : Mem} (h : PB C cnt j X M) (e3 : X1 3 = X 3) (e : ∀ q, 13 ≤ q → X1 q = X q) : PB C cnt j X1 M := by
  obtain ⟨⟨p1, p2, p3, p4, p5, p6, p7⟩, pc, pj, pr⟩ := h
  exact ⟨⟨by rw [e3]; exact p1, by rw [e3]; exact p2, by rw [e3]; exact p3, by rw [e 19 (by omega)]; exact p4, by rw [e 20 (by omega)]; exact p5, by rw [e 21 (by omega)]; exact p6, ⟨by rw [e 22 (by omega)]; exact p7.1, by rw [e3]; exact p7.2⟩⟩, pc, pj, by rw [e 13 (by omega)]; exact pr⟩
theorem TDr_of {X1 M1 : Mem} (h : TDr inb L X M) (e : ∀ q, 13 ≤ q → q ≤ 17 → X1 q = X q) (e30 : M1 0 30 = M 0 30) (em : ∀ q, 12 ≤ q → q ≤ 15 → M1 q = M q) : TDr inb L X1 M1 := by
  obtain ⟨r1, r2, r3, r4⟩ := h
  refine ⟨by rw [e 13 (by omega) (by omega)]; exact r1, by rw [e30]; exact r2, CodOK_of r3 (fun i _ => by rw [e 15 (by omega) (by omega)]) (fun i _ => ⟨by rw [em 14 (by omega) (by omega)], by rw [em 15 (by omega) (by omega)]⟩), fun w hw => ?_⟩
  have := RuleD_of (l := []) (r4 w hw) (by rw [e 16 (by omega) (by omega)] : X1 16 w = X 16 w) (by rw [e 17 (by omega) (by omega)]) (by rw [em 12 (by omega) (by omega)] : M1 12 (3 * inb + w) = _) (by rw [em 13 (by omega) (by omega)])
  rw [List.append_nil] at this
  exact this
theorem sim_personing (hC : TokC C cnt) (hA : AheadOK C cnt) (h : TD C cnt inb j nv np ns L X M) (hk : C 0 j = 1) : two (x_Reader_readPerson X) (m_personing M) (fun X1 M1 => FrXS X X1 ∧ FrS inb M M1 ∧ Stm C cnt inb j X1 M1) := by
  obtain ⟨hP, hT, hR, hL⟩ := h
  have hT' := hT
  obtain ⟨⟨n1, n2, n3, n4, n5, n6⟩, ⟨m1, hin, m3, m4, m5⟩, hstr, hv, hp, hs⟩ := hT
  have h8 := hP.2.1.1
  have hj := hP.2.2.1
  have q : ∀ z : Int, -1 ≤ z → z ≤ 2000 → w32 z = z := fun z h1 h2 => w32_eq (by omega) (by omega)
  obtain ⟨hg, h4, hl⟩ := good_of_cur hP.2.1 (by omega)
  have ex4 : ∀ (jj : Nat) (z : Int) (Y : Mem) i, (fX C jj z Y) 4 i = Y 4 i := fun jj z Y i => by unfold fX; rw [up_k (by omega), up_k (by omega)]
  have hbk : ∀ (a : Nat), a = 17 ∨ a = 5 ∨ a = 6 → np < 8 → bkOf a (8 * inb + np) = inb := fun a ha hn => by unfold bkOf; rw [if_neg (by omega), if_pos (by omega)]; omega
  by_cases hfull : np < 8
  · obtain ⟨Ma, a1, a2, a3⟩ := PB_next hC hA hP (by omega) (by omega)
    have ic := m_counted0 hP a1 a2.2.1.1
    have rq := (x_req hC hP.1 hj (c := 1) (by omega)).1 hk
    obtain ⟨Xa, hXa⟩ : ∃ Xa, Xa = upM X 3 4 ((j : Int) + 1) := ⟨_, rfl⟩
    rw [← hXa] at a2 rq
    have xa : ∀ z, z ≠ 3 → Xa z = X z := fun z hz => by rw [hXa, upM_row hz]
    have ta : TDn inb nv np ns Xa Ma := TDn_of hT' (fun a h1 h2 => xa a (by omega)) (a3.2 31 (by omega) (by omega) (by omega) (by omega) (by omega) (by omega)) (fun a h1 h2 => a3.1 a (by omega)) (a3.1 16 (by omega)) (a3.1 17 (by omega))
    have e31 : Ma 0 31 = (inb : Int) := ta.2.1.1
    have e4 : Ma 4 inb = (np : Int) := ta.2.1.2.2.2.1
    have hc16 : 0 ≤ (8 * (inb : Int) + (np : Int)) ∧ (8 * (inb : Int) + (np : Int)) < 16 := by omega
    have hlt : (np : Int) < 8 := by omega
    have hlt2 : 0 ≤ (np : Int) ∧ (np : Int) < 8 := by omega
    -- the two functions, in the shape of the lemmas
    obtain ⟨Kx, hKx⟩ : ∃ Kx : Int → Int → Int → Mem → Option Mem, Kx = fun r2 r4 r6 M6 => if ¬ w32 (M6 3 1) = 0 then some M6 else some (upM (upM (upM (upM M6 7 np r2) 8 np r4) 9 np r6) 4 1 (((upM (upM (upM M6 7 np r2) 8 np r4) 9 np r6) 4 1) + 1)) := ⟨_, rfl⟩
    obtain ⟨Km, hKm⟩ : ∃ Km : Mem → Option Mem, Km = fun M94 => if ¬ w32 (M94 0 8) = 0 then some M94 else (if 0 ≤ (M94 0 31) ∧ (M94 0 31) < 2 then (if 0 ≤ (M94 0 31) ∧ (M94 0 31) < 2 then some (upM M94 4 (M94 0 31).toNat ((M94 4 (M94 0 31).toNat) + 1)) else none) else none) := ⟨_, rfl⟩
    have hx2 : x_Reader_readPerson X = bnd2 (x_Reader_newName Xa) (fun r2 M2 => bnd (x_Reader_require ((7 : Nat) : Int) M2) (fun M3 => bnd2 (x_Reader_number 0 9 M3) (fun r4 M4 => bnd (x_Reader_require ((8 : Nat) : Int) M4) (fun M5 => bnd2 (x_Reader_number 0 99 M5) (fun r6 M6 => Kx r2 r4 r6 M6))))) := by
      unfold x_Reader_readPerson x_Reader_readPerson_B20 chk
      dsimp only [lt]
      rw [n2, q np (by omega) (by omega), q 8 (by omega) (by omega), if_pos hlt, rq, bnd_some, Int.toNat_natCast, hKx]
      simp only [if_pos hlt, if_pos hlt2]
      rfl
    have hm2 : m_personing M = bnd2 (m_fresh Ma) (fun r2 M2 => bnd (m_must_ (ownW 7) (upM M2 17 (8 * inb + np) r2)) (fun M3 => bnd2 (m_number 0 9 M3) (fun r4 M4 => bnd (m_must_ (ownW 8) (upM M4 5 (8 * inb + np) r4)) (fun M5 => bnd2 (m_number 0 99 M5) (fun r6 M6 => Km (upM M6 6 (8 * inb + np) r6)))))) := by
      unfold m_personing m_personing_B20 chk
      dsimp only [lt]
      rw [m1, Int.toNat_natCast, m4, if_pos (by omega), q np (by omega) (by omega), q 8 (by omega) (by omega), if_pos (by omega), ic, bnd2_some, if_pos rfl, e31, Int.toNat_natCast, e4, tn8, if_pos (by omega), hKm]
      simp only [if_pos hc16]
      rfl
    rw [hx2, hm2]
    have kxf : ∀ (a b c : Int) (Y : Mem), FSt cnt Y → Kx a b c Y = some Y := fun a b c Y hy => by rw [hKx]; show (if ¬ w32 (Y 3 1) = 0 then _ else _) = _; rw [if_pos (f_e0 hy)]
    have kmf : ∀ (Y : Mem), FMs8 Y → Km Y = some Y := fun Y hy => by rw [hKm]; show (if ¬ w32 (Y 0 8) = 0 then _ else _) = _; rw [if_pos (fm_e0 hy)]
    have fxa : FrXS X Xa := by rw [hXa]; exact FrXS_up (by omega)
    rcases sim_new hC hA a2 ta with ⟨v, wd, Mb, b1, b2, b3, b4, b5⟩ | ⟨z, v, v', z1, z2, b1, b2⟩
    · obtain ⟨Xb, hXb⟩ : ∃ Xb, Xb = upM Xa 3 4 (((j + 1 : Nat) : Int) + 1) := ⟨_, rfl⟩
      rw [← hXb] at b1 b4
      obtain ⟨Mb', hMb'⟩ : ∃ Mb', Mb' = upM Mb 17 (8 * inb + np) wd := ⟨_, rfl⟩
      have pb : PB C cnt (j + 1 + 1) Xb Mb' := by rw [hMb']; exact PB_up b4 (by omega) (by omega)
      have frb : FrS inb M Mb' := by rw [hMb']; exact FrS_trans (FrS_trans (FrS_A a3) (FrS_A b5)) (FrS_up (Or.inr (Or.inl ⟨by omega, by omega, hbk 17 (Or.inl rfl) hfull⟩)))
      have xb : ∀ z, z ≠ 3 → Xb z = X z := fun z hz => by rw [hXb, upM_row hz]; exact xa z hz
      obtain ⟨u1, u2, Xd, Md, d1, d2, d3, d4, d5⟩ := sim_tail (inb := inb) (i := 8 * inb + np) (p1 := 5) (p2 := 6) hC hA pb 7 8 (by omega) (by omega) 0 9 0 99 (by omega) (by omega) (by omega) (by omega) (by omega) (hbk 5 (Or.inr (Or.inl rfl)) hfull) (hbk 6 (Or.inr (Or.inr rfl)) hfull)
      rw [b1, bnd2_some, b2, bnd2_some, d1 (Kx v), ← hMb', d2 Km]
      have xd : ∀ z, z ≠ 3 → Xd z = X z := fun z hz => by rw [d3 z hz]; exact xb z hz
      have fxd : FrXS X Xd := fun z hz => xd z (by omega)
      have frd : FrS inb M Md := FrS_trans frb d4
      rcases d5 with ⟨e5, e3, e4', g3, g4, md', md2, md5, md6, md0⟩ | ⟨hfl, hfm⟩
      · have md : ∀ a, a ≠ 0 → a ≠ 5 → a ≠ 6 → a ≠ 17 → Md a = M a := fun a h1 h2 h3 h4 => by rw [md' a h1 h2 h3, hMb', upM_row h4, b5.1 a h1]; exact a3.1 a h1
        have md17 : ∀ i, i ≠ 8 * inb + np → Md 17 i = M 17 i := fun i hi => by rw [md' 17 (by omega) (by omega) (by omega), hMb', up_i hi, b5.1 17 (by omega), a3.1 17 (by omega)]
        have md17e : Md 17 (8 * inb + np) = wd := by rw [md' 17 (by omega) (by omega) (by omega), hMb', up_e]
        have mb5 : ∀ i, i ≠ 8 * inb + np → Md 5 i = M 5 i ∧ Md 6 i = M 6 i := fun i hi => by
          obtain ⟨y1, y2⟩ := md2 i hi
          rw [y1, y2, hMb', up_k (by omega), up_k (by omega), b5.1 5 (by omega), b5.1 6 (by omega), a3.1 5 (by omega), a3.1 6 (by omega)]
          exact ⟨rfl, rfl⟩
        have md0' : ∀ i, 13 ≤ i → Md 0 i = M 0 i := fun i hi => by
          rw [md0 i hi, hMb', up_k (by omega), b5.2 i (by omega) (by omega) (by omega) (by omega) (by omega) (by omega)]
          exact a3.2 i (by omega) (by omega) (by omega) (by omega) (by omega) (by omega)
        have me8 := e5.2.1.1
        have e31d : Xd 3 1 = 0 := e5.1.1
        have me31 : Md 0 31 = (inb : Int) := by rw [md0' 31 (by omega)]; exact m1
        have me4 : Md 4 inb = (np : Int) := by rw [md 4 (by omega) (by omega) (by omega) (by omega)]; exact m4
        obtain ⟨Mf, hMf⟩ : ∃ Mf, Mf = upM Md 4 inb ((np : Int) + 1) := ⟨_, rfl⟩
        obtain ⟨Xf, hXf⟩ : ∃ Xf, Xf = upM (upM (upM (upM Xd 7 np v) 8 np u1) 9 np u2) 4 1 ((np : Int) + 1) := ⟨_, rfl⟩
        have x4 : (upM (upM (upM Xd 7 np v) 8 np u1) 9 np u2) 4 1 = (np : Int) := by rw [up_k (by omega), up_k (by omega), up_k (by omega), xd 4 (by omega)]; exact n2
        have hxf : Kx v u1 u2 Xd = some Xf := by
          rw [hKx]
          show (if ¬ w32 (Xd 3 1) = 0 then _ else some (upM (upM (upM (upM Xd 7 np v) 8 np u1) 9 np u2) 4 1 (((upM (upM (upM Xd 7 np v) 8 np u1) 9 np u2) 4 1) + 1))) = _
          rw [e31d, w32_0, if_neg (by omega), x4, hXf]
        have hmf : Km Md = some Mf := by
          rw [hKm]
          show (if ¬ w32 (Md 0 8) = 0 then _ else (if 0 ≤ (Md 0 31) ∧ (Md 0 31) < 2 then (if 0 ≤ (Md 0 31) ∧ (Md 0 31) < 2 then some (upM Md 4 (Md 0 31).toNat ((Md 4 (Md 0 31).toNat) + 1)) else none) else none)) = _
          rw [me8, w32_0, if_neg (by omega), me31, if_pos (by omega), if_pos (by omega), Int.toNat_natCast, me4, hMf]
        have xf : ∀ z, z ≠ 3 → z ≠ 4 → z ≠ 7 → z ≠ 8 → z ≠ 9 → Xf z = X z := fun z h1 h2 h3 h4 h5 => by rw [hXf, upM_row h2, upM_row h5, upM_row h4, upM_row h3]; exact xd z h1
        have mf : ∀ a, a ≠ 0 → a ≠ 4 → a ≠ 5 → a ≠ 6 → a ≠ 17 → Mf a = M a := fun a h1 h2 h3 h4 h5 => by rw [hMf, upM_row h2]; exact md a h1 h3 h4 h5
        have mf0 : ∀ i, 13 ≤ i → Mf 0 i = M 0 i := fun i hi => by rw [hMf, up_k (by omega)]; exact md0' i hi
        refine ⟨Xf, Mf, hxf, hmf, ?_, ?_, Or.inl ⟨j + 1 + 1 + 4, nv, np + 1, ns, L, by omega, ?_, ?_, ?_, by omega⟩⟩
        · intro z hz; exact xf z (by omega) (by omega) (by omega) (by omega) (by omega)
        · refine FrS_trans frd ?_
          rw [hMf]; exact FrS_up (Or.inr (Or.inl ⟨by omega, by omega, by unfold bkOf; rw [if_neg (by omega), if_neg (by omega), if_neg (by omega), if_neg (by omega), if_neg (by omega)]⟩))
        · have := PB_x (X1 := Xf) e5 (by rw [hXf, upM_row (by omega), upM_row (by omega), upM_row (by omega), upM_row (by omega)]) (fun z hz => by rw [hXf, upM_row (by omega), upM_row (by omega), upM_row (by omega), upM_row (by omega)])
          rw [hMf]; exact PB_up this (by omega) (by omega)
        · refine ⟨⟨?_, ?_, ?_, n4, by omega, n6⟩, ⟨?_, hin, ?_, ?_, ?_⟩, ?_, ?_, ?_, ?_⟩
          · rw [hXf, up_i (by omega), up_k (by omega), up_k (by omega), up_k (by omega), xd 4 (by omega)]; exact n1
          · rw [hXf, up_e]; omega
          · rw [hXf, up_i (by omega), up_k (by omega), up_k (by omega), up_k (by omega), xd 4 (by omega)]; exact n3
          · rw [mf0 31 (by omega)]; exact m1
          · rw [mf 2 (by omega) (by omega) (by omega) (by omega) (by omega)]; exact m3
          · rw [hMf, up_e]; omega
          · rw [mf 7 (by omega) (by omega) (by omega) (by omega) (by omega)]; exact m5
          · have : Xf 4 3 = X 4 3 := by rw [hXf, up_i (by omega), up_k (by omega), up_k (by omega), up_k (by omega), xd 4 (by omega)]
            rw [mf 11 (by omega) (by omega) (by omega) (by omega) (by omega), this]; exact hstr
          · intro k hk'
            rw [xf 5 (by omega) (by omega) (by omega) (by omega) (by omega), xf 6 (by omega) (by omega) (by omega) (by omega) (by omega), mf 16 (by omega) (by omega) (by omega) (by omega) (by omega), mf 3 (by omega) (by omega) (by omega) (by omega) (by omega)]
            exact hv k hk'
          · intro k hk'
            by_cases e : k = np
            · subst e
              have y7 : Xf 7 k = v := by rw [hXf, up_k (by omega), up_k (by omega), up_k (by omega), up_e]
              have y8 : Xf 8 k = u1 := by rw [hXf, up_k (by omega), up_k (by omega), up_e]
              have y9 : Xf 9 k = u2 := by rw [hXf, up_k (by omega), up_e]
              have y17 : Mf 17 (8 * inb + k) = wd := by rw [hMf, up_k (by omega)]; exact md17e
              have y5 : Mf 5 (8 * inb + k) = u1 := by rw [hMf, up_k (by omega)]; exact md5
              have y6 : Mf 6 (8 * inb + k) = u2 := by rw [hMf, up_k (by omega)]; exact md6
              rw [y7, y8, y9, y17, y5, y6]
              exact ⟨b3, rfl, e3, e4', rfl, g3, g4⟩
            · have y7 : Xf 7 k = X 7 k := by rw [hXf, up_k (by omega), up_k (by omega), up_k (by omega), up_i e, xd 7 (by omega)]
              have y8 : Xf 8 k = X 8 k := by rw [hXf, up_k (by omega), up_k (by omega), up_i e, up_k (by omega), xd 8 (by omega)]
              have y9 : Xf 9 k = X 9 k := by rw [hXf, up_k (by omega), up_i e, up_k (by omega), up_k (by omega), xd 9 (by omega)]
              have y17 : Mf 17 (8 * inb + k) = M 17 (8 * inb + k) := by rw [hMf, up_k (by omega)]; exact md17 _ (by omega)
              have y5 : Mf 5 (8 * inb + k) = M 5 (8 * inb + k) := by rw [hMf, up_k (by omega)]; exact (mb5 _ (by omega)).1
              have y6 : Mf 6 (8 * inb + k) = M 6 (8 * inb + k) := by rw [hMf, up_k (by omega)]; exact (mb5 _ (by omega)).2
              rw [y7, y8, y9, y17, y5, y6]
              exact hp k (by omega)
          · intro k hk'
            rw [xf 10 (by omega) (by omega) (by omega) (by omega) (by omega), xf 11 (by omega) (by omega) (by omega) (by omega) (by omega), xf 12 (by omega) (by omega) (by omega) (by omega) (by omega), mf 8 (by omega) (by omega) (by omega) (by omega) (by omega), mf 9 (by omega) (by omega) (by omega) (by omega) (by omega), mf 10 (by omega) (by omega) (by omega) (by omega) (by omega)]
            obtain ⟨y1, y2, y3, y4⟩ := hs k hk'
            exact ⟨y1, y2, by omega, y4⟩
        · exact TDr_of hR (fun z h1 h2 => xf z (by omega) (by omega) (by omega) (by omega) (by omega)) (mf0 30 (by omega)) (fun z h1 h2 => mf z (by omega) (by omega) (by omega) (by omega) (by omega))
      · exact ⟨Xd, Md, kxf _ _ _ _ hfl.1, kmf _ hfm, fxd, frd, Or.inr (Or.inl hfl)⟩
    · -- no new name
      have fs := (PB_flt hC a2 (a := z) ⟨z1, z2⟩).1
      obtain ⟨Mb', hMb'⟩ : ∃ Mb', Mb' = upM (fM C (j + 1) z Ma) 17 (8 * inb + np) v' := ⟨_, rfl⟩
      have fm : FMs8 Mb' := by unfold FMs8; rw [hMb', up_k (by omega)]; exact fM_f ⟨z1, z2⟩
      obtain ⟨u1, u2, Md, d1, d2, d3, d4, d5⟩ := flt_tail (inb := inb) (i := 8 * inb + np) (p1 := 5) (p2 := 6) fs fm ((7 : Nat) : Int) ((8 : Nat) : Int) 0 9 0 99 (ownW 7) (ownW 8) (by omega) (by omega) (hbk 5 (Or.inr (Or.inl rfl)) hfull) (hbk 6 (Or.inr (Or.inr rfl)) hfull)
      rw [b1, bnd2_some, b2, bnd2_some, d1 (Kx v), ← hMb', d2 Km]
      have e8 : Md 0 8 = (fM C (j + 1) z Ma) 0 8 := by rw [d4, hMb', up_k (by omega)]
      have e9 : Md 0 9 = (fM C (j + 1) z Ma) 0 9 := by rw [d5, hMb', up_k (by omega)]
      have hfm : FMs8 Md := by unfold FMs8; rw [e8]; exact fM_f ⟨z1, z2⟩
      have f1 : FrS inb (fM C (j + 1) z Ma) Mb' := by rw [hMb']; exact FrS_up (Or.inr (Or.inl ⟨by omega, by omega, hbk 17 (Or.inl rfl) hfull⟩))
      exact ⟨_, Md, kxf _ _ _ _ fs, kmf _ hfm, FrXS_trans fxa (FrXS_P (fX_fr C _ z Xa)), FrS_trans (FrS_fM (FrS_A a3)) (FrS_trans f1 d3), Or.inr (Or.inl (FltS_mk hC a2 ⟨z1, z2⟩ e8 e9))⟩
  · -- the ninth
    have e8 : np = 8 := by omega
    subst e8
    have fs := (PB_flt hC hP (a := 6) (by omega)).1
    obtain ⟨v, hv'⟩ := f_newName fs (by rw [ex4]; exact n1) n4 (by rw [ex4]; exact n2) (by omega)
    obtain ⟨u, hu⟩ := f_number fs 0 9
    obtain ⟨u', hu'⟩ := f_number fs 0 99
    refine ⟨fX C j 6 X, fM C j 6 M, ?_, ?_, FrXS_P (fX_fr C j 6 X), FrS_fM (FrS_refl inb M), Or.inr (Or.inl (FltS_mk hC hP (by omega) rfl rfl))⟩
    · unfold x_Reader_readPerson
      dsimp only [lt]
      rw [n2, q ((8 : Nat) : Int) (by omega) (by omega), q 8 (by omega) (by omega), if_neg (by omega), x_refuse hC hP.1 hj, bnd_some]
      show x_Reader_readPerson_B20 _ (fX C j 6 X) = _
      unfold x_Reader_readPerson_B20
      rw [f_require fs, bnd_some, hv', bnd2_some, f_require fs, bnd_some, hu, bnd2_some, f_require fs, bnd_some, hu', bnd2_some, if_pos (f_e0 fs)]
    · unfold m_personing m_personing_B20 chk
      rw [m1, Int.toNat_natCast, m4, if_pos (by omega), q ((8 : Nat) : Int) (by omega) (by omega), q 8 (by omega) (by omega), if_neg (by omega), m_counted1 hP h4, bnd2_some, if_neg (by decide)]
end PERS
