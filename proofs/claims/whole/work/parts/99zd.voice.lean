/-! THE PURE PART: town: voices and persons -/
theorem PB_up {C : Mem} {cnt j k i : Nat} {v : Int} {X M : Mem} (h : PB C cnt j X M) (hk : k ≠ 0) (hk1 : k ≠ 1) : PB C cnt j X (upM M k i v) := ⟨h.1, Cur_up h.2.1 hk1 (fun q => absurd q hk), h.2.2⟩
theorem FltS_mk {C : Mem} {cnt j : Nat} {a : Int} {X M M2 : Mem} (hC : TokC C cnt) (h : PB C cnt j X M) (ha : 1 ≤ a ∧ a ≤ 6) (e8 : M2 0 8 = (fM C j a M) 0 8) (e9 : M2 0 9 = (fM C j a M) 0 9) : FltS cnt (fX C j a X) M2 := by
  obtain ⟨g1, g2, g3, g4, g5, g6, g7⟩ := PB_flt hC h ha
  have := hC.2.1
  have := h.2.2.1
  exact ⟨g1, by rw [g2, e8], by rw [g3, e9], g5, g6, by omega⟩
theorem f_e0 {cnt : Nat} {X : Mem} (h : FSt cnt X) : ¬ w32 (X 3 1) = 0 := by
  have h1 := h.1
  have h2 := h.2.1
  rw [w32_eq (by omega) (by omega)]; omega
theorem fm_e0 {M : Mem} (h : FMs8 M) : ¬ w32 (M 0 8) = 0 := by
  have h1 := h.1
  have h2 := h.2
  rw [w32_eq (by omega) (by omega)]; omega
theorem FrA_trans {X Y Z : Mem} (h : FrA X Y) (k : FrA Y Z) : FrA X Z := ⟨fun a ha => (k.1 a ha).trans (h.1 a ha), fun i h1 h2 h3 h4 h5 h6 => (k.2 i h1 h2 h3 h4 h5 h6).trans (h.2 i h1 h2 h3 h4 h5 h6)⟩
theorem m_counted0 {C : Mem} {cnt j : Nat} {X M M1 : Mem} (h : PB C cnt j X M) (e : m_ahead M = some M1) (h8 : M1 0 8 = 0) : m_isCounted 0 M = some (true, M1) := by
  have h8m := h.2.1.1
  unfold m_isCounted m_isCounted_B21 m_isCounted_B32
  rw [h8m, w32_0, if_neg (by omega), if_pos rfl, if_neg (by omega), e, bnd_some, h8, w32_0, if_neg (by omega)]
theorem m_counted1 {C : Mem} {cnt j : Nat} {X M : Mem} (h : PB C cnt j X M) (h4 : M 0 4 = C 1 j) : m_isCounted 1 M = some (false, fM C j 6 M) := by
  have h8 := h.2.1.1
  have hbl : m_blame 6 (C 1 j) M = some (fM C j 6 M) := m_blame_eq h8
  have e8 : (fM C j 6 M) 0 8 = 6 := fM_8.1
  unfold m_isCounted m_isCounted_B21 m_isCounted_B32
  rw [h8, w32_0, if_neg (by omega), w32_eq (x := (1 : Int)) (by omega) (by omega), if_neg (by omega), h4, hbl, bnd_some, e8, w32_eq (x := (6 : Int)) (by omega) (by omega), if_pos (by omega), if_pos (by omega)]
section VOICE
variable {C : Mem} {cnt inb j nv np ns : Nat} {L : List (Int × Int)} {X M : Mem}
theorem sim_voicing (hC : TokC C cnt) (hA : AheadOK C cnt) (h : TD C cnt inb j nv np ns L X M) (hk : C 0 j = 0) : two (x_Reader_readVoice X) (m_voicing M) (fun X1 M1 => FrXS X X1 ∧ FrS inb M M1 ∧ Stm C cnt inb j X1 M1) := by
  obtain ⟨hP, hT, hR, hL⟩ := h
  have hT' := hT
  obtain ⟨⟨n1, n2, n3, n4, n5, n6⟩, ⟨m1, hin, m3, m4, m5⟩, hstr, hv, hp, hs⟩ := hT
  have h8 := hP.2.1.1
  have hj := hP.2.2.1
  have q : ∀ z : Int, -1 ≤ z → z ≤ 2000 → w32 z = z := fun z h1 h2 => w32_eq (by omega) (by omega)
  obtain ⟨hg, h4, hl⟩ := good_of_cur hP.2.1 (by omega)
  have ex4 : ∀ (jj : Nat) (z : Int) (Y : Mem) i, (fX C jj z Y) 4 i = Y 4 i := fun jj z Y i => by unfold fX; rw [up_k (by omega), up_k (by omega)]
  by_cases hfull : nv < 7
  · -- one more
    have hx : ∀ z, x_Reader_readVoice_B20 (nv : Int) X = z → x_Reader_readVoice X = z := fun z hz => by
      unfold x_Reader_readVoice
      dsimp only [lt]
      rw [n1, q nv (by omega) (by omega), q 7 (by omega) (by omega), if_pos (by omega)]
      exact hz
    have hm : ∀ z, m_voicing_B20 0 M = z → m_voicing M = z := fun z hz => by
      unfold m_voicing chk
      rw [m1, Int.toNat_natCast, m3, if_pos (by omega), q nv (by omega) (by omega), q 7 (by omega) (by omega), if_pos (by omega)]
      exact hz
    obtain ⟨Ma, a1, a2, a3⟩ := PB_next hC hA hP (by omega) (by omega)
    have ic := m_counted0 hP a1 a2.2.1.1
    have rq := (x_req hC hP.1 hj (c := 0) (by omega)).1 hk
    obtain ⟨Xa, hXa⟩ : ∃ Xa, Xa = upM X 3 4 ((j : Int) + 1) := ⟨_, rfl⟩
    rw [← hXa] at a2 rq
    have xa : ∀ z, z ≠ 3 → Xa z = X z := fun z hz => by rw [hXa, upM_row hz]
    have ta : TDn inb nv np ns Xa Ma := TDn_of hT' (fun a h1 h2 => xa a (by omega)) (a3.2 31 (by omega) (by omega) (by omega) (by omega) (by omega) (by omega)) (fun a h1 h2 => a3.1 a (by omega)) (a3.1 16 (by omega)) (a3.1 17 (by omega))
    have e31 : Ma 0 31 = (inb : Int) := ta.2.1.1
    have e2 : Ma 2 inb = (nv : Int) := ta.2.1.2.2.1
    have tp : 7 * (inb : Int) + (nv : Int) = ((7 * inb + nv : Nat) : Int) := by omega
    have hm2 : ∀ z, bnd2 (m_fresh Ma) (fun r2 M2 => chk (0 ≤ (7 * (inb : Int) + (nv : Int)) ∧ (7 * (inb : Int) + (nv : Int)) < 14) (bnd (m_must_ 482805572456 (upM M2 16 (7 * (inb : Int) + (nv : Int)).toNat r2)) (fun M3 => bnd2 (m_number 0 9 M3) (fun r4 M4 => chk (0 ≤ (7 * (inb : Int) + (nv : Int)) ∧ (7 * (inb : Int) + (nv : Int)) < 14) ((if ¬ w32 ((upM M4 3 (7 * (inb : Int) + (nv : Int)).toNat r4) 0 8) = 0 then some (upM M4 3 (7 * (inb : Int) + (nv : Int)).toNat r4) else chk (0 ≤ ((upM M4 3 (7 * (inb : Int) + (nv : Int)).toNat r4) 0 31) ∧ ((upM M4 3 (7 * (inb : Int) + (nv : Int)).toNat r4) 0 31) < 2) (chk (0 ≤ ((upM M4 3 (7 * (inb : Int) + (nv : Int)).toNat r4) 0 31) ∧ ((upM M4 3 (7 * (inb : Int) + (nv : Int)).toNat r4) 0 31) < 2) (some (upM (upM M4 3 (7 * (inb : Int) + (nv : Int)).toNat r4) 2 ((upM M4 3 (7 * (inb : Int) + (nv : Int)).toNat r4) 0 31).toNat (((upM M4 3 (7 * (inb : Int) + (nv : Int)).toNat r4) 2 ((upM M4 3 (7 * (inb : Int) + (nv : Int)).toNat r4) 0 31).toNat) + 1))))))))))
        = z → m_voicing M = z := fun z hz => hm z (by
      unfold m_voicing_B20
      dsimp only [lt]
      rw [ic, bnd2_some, if_pos rfl, e31, Int.toNat_natCast, e2]
      unfold chk
      unfold chk at hz
      rw [if_pos (by omega)]
      exact hz)
    have hc14 : 0 ≤ (7 * (inb : Int) + (nv : Int)) ∧ (7 * (inb : Int) + (nv : Int)) < 14 := by omega
    unfold chk at hm2
    rw [tn7] at hm2
    have hbk : ∀ (a : Nat), a = 16 ∨ a = 3 → bkOf a (7 * inb + nv) = inb := fun a ha => by unfold bkOf; rw [if_pos (by omega)]; omega
    have hx2 : ∀ z, bnd2 (x_Reader_newName Xa) (fun r2 M2 => bnd (x_Reader_require 7 M2) (fun M3 => bnd2 (x_Reader_number 0 9 M3) (fun r4 M4 => (if ¬ w32 (M4 3 1) = 0 then some M4 else some (upM (upM (upM M4 5 nv r2) 6 nv r4) 4 0 (((upM (upM M4 5 nv r2) 6 nv r4) 4 0) + 1)))))) = z → x_Reader_readVoice X = z := fun z hz => hx z (by
      unfold x_Reader_readVoice_B20 chk
      dsimp only [lt]
      rw [rq, bnd_some, q nv (by omega) (by omega), q 7 (by omega) (by omega), Int.toNat_natCast]
      have hlt : (nv : Int) < 7 := by omega
      have hlt2 : 0 ≤ (nv : Int) ∧ (nv : Int) < 7 := by omega
      simp only [if_pos hlt, if_pos hlt2]
      exact hz)
    rcases sim_new hC hA a2 ta with ⟨v, wd, Mb, b1, b2, b3, b4, b5⟩ | ⟨z, v, v', z1, z2, b1, b2⟩
    · obtain ⟨Xb, hXb⟩ : ∃ Xb, Xb = upM Xa 3 4 (((j + 1 : Nat) : Int) + 1) := ⟨_, rfl⟩
      rw [← hXb] at b1 b4
      obtain ⟨Mb', hMb'⟩ : ∃ Mb', Mb' = upM Mb 16 (7 * inb + nv) wd := ⟨_, rfl⟩
      have pb : PB C cnt (j + 1 + 1) Xb Mb' := by rw [hMb']; exact PB_up b4 (by omega) (by omega)
      obtain ⟨c1, c2⟩ := sim_must hC hA pb 7 (by omega)
      by_cases h7 : C 0 (j + 1 + 1) = ((7 : Nat) : Int)
      · obtain ⟨Mc, d1, d2, d3, d4⟩ := c1 h7
        have d1 : x_Reader_require 7 Xb = some (upM Xb 3 4 (((j + 1 + 1 : Nat) : Int) + 1)) := d1
        have d2 : m_must_ 482805572456 Mb' = some Mc := d2
        obtain ⟨Xc, hXc⟩ : ∃ Xc, Xc = upM Xb 3 4 (((j + 1 + 1 : Nat) : Int) + 1) := ⟨_, rfl⟩
        rw [← hXc] at d1 d3
        rcases sim_num hC hA d3 0 9 (by omega) with ⟨u, Md, e1, e2', e3, e4, e5, e6⟩ | ⟨z, u, u', z1, z2, e1, e2'⟩
        · -- all is well
          obtain ⟨Xd, hXd⟩ : ∃ Xd, Xd = upM Xc 3 4 (((j + 1 + 1 + 1 : Nat) : Int) + 1) := ⟨_, rfl⟩
          rw [← hXd] at e1 e5
          have xd : ∀ z, z ≠ 3 → Xd z = X z := fun z hz => by rw [hXd, upM_row hz, hXc, upM_row hz, hXb, upM_row hz]; exact xa z hz
          have md : ∀ a, a ≠ 0 → a ≠ 16 → Md a = M a := fun a h1 h2 => by rw [e6.1 a h1, d4.1 a h1, hMb', upM_row h2, b5.1 a h1]; exact a3.1 a h1
          have md16 : ∀ i, i ≠ 7 * inb + nv → Md 16 i = M 16 i := fun i hi => by rw [e6.1 16 (by omega), d4.1 16 (by omega), hMb', up_i hi, b5.1 16 (by omega), a3.1 16 (by omega)]
          have md16e : Md 16 (7 * inb + nv) = wd := by rw [e6.1 16 (by omega), d4.1 16 (by omega), hMb', up_e]
          have md0 : ∀ i, 13 ≤ i → Md 0 i = M 0 i := fun i hi => by
            rw [e6.2 i (by omega) (by omega) (by omega) (by omega) (by omega) (by omega), d4.2 i (by omega) (by omega) (by omega) (by omega) (by omega) (by omega), hMb', up_k (by omega), b5.2 i (by omega) (by omega) (by omega) (by omega) (by omega) (by omega)]
            exact a3.2 i (by omega) (by omega) (by omega) (by omega) (by omega) (by omega)
          have e8d := e5.2.1.1
          have e31d : Xd 3 1 = 0 := e5.1.1
          obtain ⟨Me, hMe⟩ : ∃ Me, Me = upM Md 3 (7 * inb + nv) u := ⟨_, rfl⟩
          have me31 : Me 0 31 = (inb : Int) := by rw [hMe, up_k (by omega), md0 31 (by omega)]; exact m1
          have me2 : Me 2 inb = (nv : Int) := by rw [hMe, up_k (by omega), md 2 (by omega) (by omega)]; exact m3
          have me8 : Me 0 8 = 0 := by rw [hMe, up_k (by omega)]; exact e8d
          obtain ⟨Mf, hMf⟩ : ∃ Mf, Mf = upM Me 2 inb ((nv : Int) + 1) := ⟨_, rfl⟩
          obtain ⟨Xf, hXf⟩ : ∃ Xf, Xf = upM (upM (upM Xd 5 nv v) 6 nv u) 4 0 ((nv : Int) + 1) := ⟨_, rfl⟩
          have x4 : (upM (upM Xd 5 nv v) 6 nv u) 4 0 = (nv : Int) := by rw [up_k (by omega), up_k (by omega), xd 4 (by omega)]; exact n1
          have hxf : x_Reader_readVoice X = some Xf := hx2 _ (by rw [b1, bnd2_some, d1, bnd_some, e1, bnd2_some, e31d, w32_0, if_neg (by omega), x4, hXf])
          have hmf : m_voicing M = some Mf := hm2 _ (by
            rw [b2, bnd2_some, if_pos hc14, ← hMb', d2, bnd_some, e2', bnd2_some, if_pos hc14, ← hMe, me8, w32_0, if_neg (by omega), me31, if_pos (by omega), if_pos (by omega), Int.toNat_natCast, me2, hMf])
          have xf : ∀ z, z ≠ 3 → z ≠ 4 → z ≠ 5 → z ≠ 6 → Xf z = X z := fun z h1 h2 h3 h4 => by rw [hXf, upM_row h2, upM_row h4, upM_row h3]; exact xd z h1
          have mf : ∀ a, a ≠ 0 → a ≠ 2 → a ≠ 3 → a ≠ 16 → Mf a = M a := fun a h1 h2 h3 h4 => by rw [hMf, upM_row h2, hMe, upM_row h3]; exact md a h1 h4
          have mf0 : ∀ i, 13 ≤ i → Mf 0 i = M 0 i := fun i hi => by rw [hMf, up_k (by omega), hMe, up_k (by omega)]; exact md0 i hi
          refine ⟨Xf, Mf, hxf, hmf, ?_, ?_, Or.inl ⟨j + 1 + 1 + 1 + 1, nv + 1, np, ns, L, by omega, ?_, ?_, ?_, by omega⟩⟩
          · intro z hz; exact xf z (by omega) (by omega) (by omega) (by omega)
          · refine FrS_trans (FrS_trans (FrS_trans (FrS_A a3) (FrS_A b5)) ?_) (FrS_trans (FrS_trans (FrS_A d4) (FrS_A e6)) ?_)
            · rw [hMb']; exact FrS_up (Or.inr (Or.inl ⟨by omega, by omega, hbk 16 (Or.inl rfl)⟩))
            · rw [hMf, hMe]; exact FrS_trans (FrS_up (Or.inr (Or.inl ⟨by omega, by omega, hbk 3 (Or.inr rfl)⟩))) (FrS_up (Or.inr (Or.inl ⟨by omega, by omega, by unfold bkOf; rw [if_neg (by omega), if_neg (by omega), if_neg (by omega), if_neg (by omega), if_neg (by omega)]⟩)))
          · obtain ⟨⟨p1, p2, p3, p4, p5, p6, p7⟩, pc, pj, pr⟩ := e5
            refine ⟨⟨?_, ?_, ?_, ?_, ?_, ?_, ?_⟩, ?_, pj, ?_⟩
            · rw [hXf, up_k (by omega), up_k (by omega), up_k (by omega)]; exact p1
            · rw [hXf, up_k (by omega), up_k (by omega), up_k (by omega)]; exact p2
            · rw [hXf, up_k (by omega), up_k (by omega), up_k (by omega)]; exact p3
            · rw [hXf, up_k (by omega), up_k (by omega), up_k (by omega)]; exact p4
            · rw [hXf, upM_row (by omega), upM_row (by omega), upM_row (by omega)]; exact p5
            · rw [hXf, upM_row (by omega), upM_row (by omega), upM_row (by omega)]; exact p6
            · exact ⟨by rw [hXf, upM_row (by omega), upM_row (by omega), upM_row (by omega)]; exact p7.1, by rw [hXf, up_k (by omega), up_k (by omega), up_k (by omega)]; exact p7.2⟩
            · rw [hMf, hMe]; exact Cur_up (Cur_up pc (by omega) (by omega)) (by omega) (by omega)
            · rw [hXf, up_k (by omega), up_k (by omega), up_k (by omega)]; exact pr
          · refine ⟨⟨?_, ?_, ?_, by omega, n5, n6⟩, ⟨?_, hin, ?_, ?_, ?_⟩, ?_, ?_, ?_, ?_⟩
            · rw [hXf, up_e]; omega
            · rw [hXf, up_i (by omega), up_k (by omega), up_k (by omega), xd 4 (by omega)]; exact n2
            · rw [hXf, up_i (by omega), up_k (by omega), up_k (by omega), xd 4 (by omega)]; exact n3
            · rw [mf0 31 (by omega)]; exact m1
            · rw [hMf, up_e]; omega
            · rw [mf 4 (by omega) (by omega) (by omega) (by omega)]; exact m4
            · rw [mf 7 (by omega) (by omega) (by omega) (by omega)]; exact m5
            · have : Xf 4 3 = X 4 3 := by rw [hXf, up_i (by omega), up_k (by omega), up_k (by omega), xd 4 (by omega)]
              rw [mf 11 (by omega) (by omega) (by omega) (by omega), this]; exact hstr
            · intro k hk'
              by_cases e : k = nv
              · subst e
                have y5 : Xf 5 k = v := by rw [hXf, up_k (by omega), up_k (by omega), up_e]
                have y6 : Xf 6 k = u := by rw [hXf, up_k (by omega), up_e]
                have y16 : Mf 16 (7 * inb + k) = wd := by rw [hMf, up_k (by omega), hMe, up_k (by omega)]; exact md16e
                have y3 : Mf 3 (7 * inb + k) = u := by rw [hMf, up_k (by omega), hMe, up_e]
                rw [y5, y6, y16, y3]
                exact ⟨b3, rfl, e3, e4⟩
              · have y5 : Xf 5 k = X 5 k := by rw [hXf, up_k (by omega), up_k (by omega), up_i e, xd 5 (by omega)]
                have y6 : Xf 6 k = X 6 k := by rw [hXf, up_k (by omega), up_i e, up_k (by omega), xd 6 (by omega)]
                have y16 : Mf 16 (7 * inb + k) = M 16 (7 * inb + k) := by rw [hMf, up_k (by omega), hMe, up_k (by omega)]; exact md16 _ (by omega)
                have y3 : Mf 3 (7 * inb + k) = M 3 (7 * inb + k) := by rw [hMf, up_k (by omega), hMe, up_i (by omega), md 3 (by omega) (by omega)]
                rw [y5, y6, y16, y3]
                exact hv k (by omega)
            · intro k hk'
              rw [xf 7 (by omega) (by omega) (by omega) (by omega), xf 8 (by omega) (by omega) (by omega) (by omega), xf 9 (by omega) (by omega) (by omega) (by omega), mf 17 (by omega) (by omega) (by omega) (by omega), mf 5 (by omega) (by omega) (by omega) (by omega), mf 6 (by omega) (by omega) (by omega) (by omega)]
              exact hp k hk'
            · intro k hk'
              rw [xf 10 (by omega) (by omega) (by omega) (by omega), xf 11 (by omega) (by omega) (by omega) (by omega), xf 12 (by omega) (by omega) (by omega) (by omega), mf 8 (by omega) (by omega) (by omega) (by omega), mf 9 (by omega) (by omega) (by omega) (by omega), mf 10 (by omega) (by omega) (by omega) (by omega)]
              exact hs k hk'
          · obtain ⟨r1, r2, r3, r4⟩ := hR
            refine ⟨by rw [xf 13 (by omega) (by omega) (by omega) (by omega)]; exact r1, by rw [mf0 30 (by omega)]; exact r2, CodOK_of r3 (fun i _ => by rw [xf 15 (by omega) (by omega) (by omega) (by omega)]) (fun i _ => ⟨by rw [mf 14 (by omega) (by omega) (by omega) (by omega)], by rw [mf 15 (by omega) (by omega) (by omega) (by omega)]⟩), fun w hw => ?_⟩
            have := RuleD_of (l := []) (r4 w hw) (by rw [xf 16 (by omega) (by omega) (by omega) (by omega)] : Xf 16 w = X 16 w) (by rw [xf 17 (by omega) (by omega) (by omega) (by omega)]) (by rw [mf 12 (by omega) (by omega) (by omega) (by omega)] : Mf 12 (3 * inb + w) = _) (by rw [mf 13 (by omega) (by omega) (by omega) (by omega)])
            rw [List.append_nil] at this
            exact this
        · -- no such number
          have fs := (PB_flt hC d3 (a := z) ⟨z1, z2⟩).1
          have fm := fM_f (C := C) (j := j + 1 + 1 + 1) (M := Mc) ⟨z1, z2⟩
          have e0 := fm_e0 fm
          refine ⟨fX C (j + 1 + 1 + 1) z Xc, upM (fM C (j + 1 + 1 + 1) z Mc) 3 (7 * inb + nv) u', hx2 _ (by rw [b1, bnd2_some, d1, bnd_some, e1, bnd2_some, if_pos (f_e0 fs)]), hm2 _ ?_, ?_, ?_, Or.inr (Or.inl (FltS_mk hC d3 ⟨z1, z2⟩ (up_k (by omega)) (up_k (by omega))))⟩
          · have : (upM (fM C (j + 1 + 1 + 1) z Mc) 3 (7 * inb + nv) u') 0 8 = (fM C (j + 1 + 1 + 1) z Mc) 0 8 := up_k (by omega)
            rw [b2, bnd2_some, if_pos hc14, ← hMb', d2, bnd_some, e2', bnd2_some, if_pos hc14, this, if_pos e0]
          · refine FrXS_trans ?_ (FrXS_P (fX_fr C _ z Xc))
            rw [hXc, hXb, hXa]; exact FrXS_trans (FrXS_trans (FrXS_up (by omega)) (FrXS_up (by omega))) (FrXS_up (by omega))
          · refine FrS_trans (FrS_trans (FrS_trans (FrS_A a3) (FrS_A b5)) ?_) (FrS_trans (FrS_fM (FrS_A d4)) (FrS_up (Or.inr (Or.inl ⟨by omega, by omega, hbk 3 (Or.inr rfl)⟩))))
            rw [hMb']; exact FrS_up (Or.inr (Or.inl ⟨by omega, by omega, hbk 16 (Or.inl rfl)⟩))
      · -- no pitch
        obtain ⟨d1, d2⟩ := c2 h7
        have d1 : x_Reader_require 7 Xb = some (fX C (j + 1 + 1) 1 Xb) := d1
        have d2 : m_must_ 482805572456 Mb' = some (fM C (j + 1 + 1) 1 Mb') := d2
        have fs := (PB_flt hC pb (a := 1) (by omega)).1
        have fm := fM_f (C := C) (j := j + 1 + 1) (a := 1) (M := Mb') (by omega)
        have e0 := fm_e0 fm
        obtain ⟨u, hu⟩ := f_number fs 0 9
        refine ⟨fX C (j + 1 + 1) 1 Xb, upM (fM C (j + 1 + 1) 1 Mb') 3 (7 * inb + nv) 0, hx2 _ (by rw [b1, bnd2_some, d1, bnd_some, hu, bnd2_some, if_pos (f_e0 fs)]), hm2 _ ?_, ?_, ?_, Or.inr (Or.inl (FltS_mk hC pb (by omega) (up_k (by omega)) (up_k (by omega))))⟩
        · have : (upM (fM C (j + 1 + 1) 1 Mb') 3 (7 * inb + nv) 0) 0 8 = (fM C (j + 1 + 1) 1 Mb') 0 8 := up_k (by omega)
          rw [b2, bnd2_some, if_pos hc14, ← hMb', d2, bnd_some, m_number_f fm, bnd2_some, if_pos hc14, this, if_pos e0]
        · refine FrXS_trans ?_ (FrXS_P (fX_fr C _ 1 Xb))
          rw [hXb, hXa]; exact FrXS_trans (FrXS_up (by omega)) (FrXS_up (by omega))
        · refine FrS_trans (FrS_trans (FrS_trans (FrS_A a3) (FrS_A b5)) ?_) (FrS_trans (FrS_fM (FrS_refl inb Mb')) (FrS_up (Or.inr (Or.inl ⟨by omega, by omega, hbk 3 (Or.inr rfl)⟩))))
          rw [hMb']; exact FrS_up (Or.inr (Or.inl ⟨by omega, by omega, hbk 16 (Or.inl rfl)⟩))
    · -- no new name
      have fs := (PB_flt hC a2 (a := z) ⟨z1, z2⟩).1
      obtain ⟨Mb', hMb'⟩ : ∃ Mb', Mb' = upM (fM C (j + 1) z Ma) 16 (7 * inb + nv) v' := ⟨_, rfl⟩
      have fm : FMs8 Mb' := by unfold FMs8; rw [hMb', up_k (by omega)]; exact fM_f ⟨z1, z2⟩
      have e0 := fm_e0 fm
      obtain ⟨u, hu⟩ := f_number fs 0 9
      refine ⟨fX C (j + 1) z Xa, upM Mb' 3 (7 * inb + nv) 0, hx2 _ (by rw [b1, bnd2_some, f_require fs, bnd_some, hu, bnd2_some, if_pos (f_e0 fs)]), hm2 _ ?_, ?_, ?_, Or.inr (Or.inl (FltS_mk hC a2 ⟨z1, z2⟩ (by rw [up_k (by omega), hMb', up_k (by omega)]) (by rw [up_k (by omega), hMb', up_k (by omega)])))⟩
      · have : (upM Mb' 3 (7 * inb + nv) 0) 0 8 = Mb' 0 8 := up_k (by omega)
        rw [b2, bnd2_some, if_pos hc14, ← hMb', m_must_f fm, bnd_some, m_number_f fm, bnd2_some, if_pos hc14, this, if_pos e0]
      · refine FrXS_trans ?_ (FrXS_P (fX_fr C _ z Xa))
        rw [hXa]; exact FrXS_up (by omega)
      · have f1 : FrS inb (fM C (j + 1) z Ma) Mb' := by rw [hMb']; exact FrS_up (Or.inr (Or.inl ⟨by omega, by omega, hbk 16 (Or.inl rfl)⟩))
        exact FrS_trans (FrS_fM (FrS_A a3)) (FrS_trans f1 (FrS_up (Or.inr (Or.inl ⟨by omega, by omega, hbk 3 (Or.inr rfl)⟩))))
  · -- the eighth
    have e7 : nv = 7 := by omega
    subst e7
    have fs := (PB_flt hC hP (a := 6) (by omega)).1
    obtain ⟨v, hv'⟩ := f_newName fs (by rw [ex4]; exact n1) (by omega) (by rw [ex4]; exact n2) n5
    obtain ⟨u, hu⟩ := f_number fs 0 9
    refine ⟨fX C j 6 X, fM C j 6 M, ?_, ?_, FrXS_P (fX_fr C j 6 X), FrS_fM (FrS_refl inb M), Or.inr (Or.inl (FltS_mk hC hP (by omega) rfl rfl))⟩
    · unfold x_Reader_readVoice
      dsimp only [lt]
      rw [n1, q ((7 : Nat) : Int) (by omega) (by omega), q 7 (by omega) (by omega), if_neg (by omega), x_refuse hC hP.1 hj, bnd_some]
      show x_Reader_readVoice_B20 _ (fX C j 6 X) = _
      unfold x_Reader_readVoice_B20
      rw [f_require fs, bnd_some, hv', bnd2_some, f_require fs, bnd_some, hu, bnd2_some, if_pos (f_e0 fs)]
    · unfold m_voicing m_voicing_B20 chk
      rw [m1, Int.toNat_natCast, m3, if_pos (by omega), q ((7 : Nat) : Int) (by omega) (by omega), q 7 (by omega) (by omega), if_neg (by omega), m_counted1 hP h4, bnd2_some, if_neg (by decide)]
end VOICE
