/-! THE PURE PART: town: wants, stroke -/
section WANT
variable {C : Mem} {cnt inb j nv np ns : Nat} {L : List (Int × Int)} {X M : Mem}
/-- a person that is asked for; behind it the reference goes on with f -/
theorem sim_who (hC : TokC C cnt) (hA : AheadOK C cnt) (h : PB C cnt j X M) (hT : TDn inb nv np ns X M) :
    (∃ r M1, x_Reader_personName X = some (r, upM X 3 4 ((j : Int) + 1)) ∧ 0 ≤ r ∧ r < (np : Int) ∧ m_ahead M = some M1 ∧ PB C cnt (j + 1) (upM X 3 4 ((j : Int) + 1)) M1 ∧ FrA M M1 ∧
      bnd (m_lex M) (fun M2 => (if w32 (M2 0 8) ≤ 0 then (if ¬ w32 (M2 0 3) = w32 1 then m_wanting_B58 M2 else bnd (m_isOwn (M2 0 7)) (fun r11 => (if r11 = true then m_wanting_B58 M2 else m_wanting_B67 M2))) else some M2)) = m_wanting_B108 r M) ∨
    (∃ z r, 1 ≤ z ∧ z ≤ 6 ∧ x_Reader_personName X = some (r, fX C j z X) ∧ bnd (m_lex M) (fun M2 => (if w32 (M2 0 8) ≤ 0 then (if ¬ w32 (M2 0 3) = w32 1 then m_wanting_B58 M2 else bnd (m_isOwn (M2 0 7)) (fun r11 => (if r11 = true then m_wanting_B58 M2 else m_wanting_B67 M2))) else some M2)) = some (fM C j z M)) := by
  obtain ⟨⟨n1, n2, n3, n4, n5, n6⟩, ⟨m1, m2, m3, m4, m5⟩, -, hv, hp, -⟩ := hT
  have h8 := h.2.1.1
  have hcr := hC.2.2.1 j h.2.2.1
  have ex4 : ∀ z i, (fX C j z X) 4 i = X 4 i := fun z i => by unfold fX; rw [up_k (by omega), up_k (by omega)]
  have w1 : w32 (-1) = -1 := w32_eq (by omega) (by omega)
  have w11 : w32 1 = 1 := w32_eq (by omega) (by omega)
  have b108 : ∀ (z s : Int), 1 ≤ z → z ≤ 6 → m_wanting_B108 s (fM C j z M) = some (fM C j z M) := fun z s h1 h2 => by
    have e8 : (fM C j z M) 0 8 = z := fM_8.1
    unfold m_wanting_B108
    rw [e8, w32_eq (x := z) (by omega) (by omega), if_neg (by omega)]
  by_cases h23 : C 0 j = 23
  · obtain ⟨hg, h4, hl⟩ := good_of_cur h.2.1 (by omega)
    obtain ⟨tn, tv⟩ := tok_name hg
    obtain ⟨t1, t2, t3, t4⟩ := tv (by omega)
    have hvr := NameEq_rng t1
    have xp := x_po (name := C 2 j) n2 n5 (fun k hk => by have := NameEq_rng (hp k hk).1; omega) (by omega)
    have mp := m_pn (wd := M 0 7) m1 m2 m4 n5 (fun k hk => by have := NameEq_rng (hp k hk).1; omega) (by omega)
    have e2 : fsI (fun k => decide (X 7 k = C 2 j)) np 0 = fsI (fun k => decide (M 17 (8 * inb + k) = M 0 7)) np 0 := fsI_ext np 0 (fun i _ hi => decide_eq_decide.mpr (NameEq_iff (hp i (by omega)).1 t1))
    obtain ⟨b, hb⟩ : ∃ b, b = fsI (fun k => decide (M 17 (8 * inb + k) = M 0 7)) np 0 := ⟨_, rfl⟩
    have br : b = -1 ∨ (0 ≤ b ∧ b < (np : Int)) := by rw [hb]; rcases fsI_rng (p := fun k => decide (M 17 (8 * inb + k) = M 0 7)) np 0 with ⟨q, -⟩ | ⟨q1, q2, -⟩ <;> omega
    rw [e2, ← hb] at xp
    rw [← hb] at mp
    have mo := m_own (w := M 0 7) ⟨t2, t3⟩ (K := C 0 j) (by omega) t4
    have wb : w32 b = b := w32_eq (by omega) (by omega)
    have ref : bnd (m_lex M) (fun M2 => (if w32 (M2 0 8) ≤ 0 then (if ¬ w32 (M2 0 3) = w32 1 then m_wanting_B58 M2 else bnd (m_isOwn (M2 0 7)) (fun r11 => (if r11 = true then m_wanting_B58 M2 else m_wanting_B67 M2))) else some M2)) = m_wanting_B86 b M := by
      unfold m_wanting_B67
      rw [hl, bnd_some, h8, w32_0, if_pos (by omega), if_neg (fun q => q (tn ▸ (by omega : 0 ≤ C 0 j ∧ C 0 j ≤ 23))), mo, bnd_some, ifd, if_neg (by omega), if_pos (by omega), mp, bnd_some]
    rw [ref]
    rcases br with e | e
    · -- nobody
      refine Or.inr ⟨3, -1, by omega, by omega, ?_, ?_⟩
      · have e8 : (fX C j 3 X) 3 1 = 3 := by unfold fX; rw [up_i (by omega), up_e]
        have eb : x_Reader_personName_B36 (-1) (fX C j 3 X) = some (-1, fX C j 3 X) := by
          unfold x_Reader_personName_B36
          rw [e8, w32_eq (x := (3 : Int)) (by omega) (by omega), if_pos (by omega)]
        unfold x_Reader_personName x_Reader_personName_B14
        rw [x_at hC h.1 h.2.2.1 (by omega), bnd_some, ifd, if_pos h23, x_value hC h.1 h.2.2.1, bnd_some, xp, bnd_some, e, w1, if_neg (by omega), x_refuse hC h.1 h.2.2.1, bnd_some]
        exact eb
      · have hbl : m_blame 3 (C 1 j) M = some (fM C j 3 M) := m_blame_eq h8
        unfold m_wanting_B86
        rw [h8, w32_0, if_neg (by omega), e, w1, if_neg (by omega), h4, hbl, bnd_some, b108 3 _ (by omega) (by omega)]
    · obtain ⟨M1, a1, a2, a3⟩ := PB_next hC hA h (by omega) (by omega)
      refine Or.inl ⟨b, M1, ?_, e.1, e.2, a1, a2, a3, ?_⟩
      · unfold x_Reader_personName x_Reader_personName_B14 x_Reader_personName_B36
        rw [x_at hC h.1 h.2.2.1 (by omega), bnd_some, ifd, if_pos h23, x_value hC h.1 h.2.2.1, bnd_some, xp, bnd_some, wb, w1, if_pos (by omega), h.1.1, w32_0, if_neg (by omega), h.1.2.1]
        rfl
      · unfold m_wanting_B86
        rw [h8, w32_0, if_neg (by omega), wb, w1, if_pos (by omega)]
  · -- no name
    obtain ⟨fs, -⟩ := PB_flt hC h (a := 1) (by omega)
    obtain ⟨v, hv'⟩ := f_value fs
    obtain ⟨r, hr⟩ := f_perB fs (by rw [ex4]; exact n2) n5 hv'
    have hx : x_Reader_personName X = some (r, fX C j 1 X) := by
      unfold x_Reader_personName
      rw [x_at hC h.1 h.2.2.1 (by omega), bnd_some, ifd, if_neg h23, x_refuse hC h.1 h.2.2.1, bnd_some]
      exact hr
    have hbl : m_blame 1 (C 1 j) M = some (fM C j 1 M) := m_blame_eq h8
    have e8 : (fM C j 1 M) 0 8 = 1 := fM_8.1
    refine Or.inr ⟨1, r, by omega, by omega, hx, ?_⟩
    rcases lex_cases h.2.1 with ⟨e26, e0, el⟩ | ⟨el, e4, e0, hg⟩
    · have el : m_lex M = some (fM C j 1 M) := el
      rw [el, bnd_some, e8, w11, if_neg (by omega)]
    · obtain ⟨tn, tv⟩ := tok_name hg
      have e58 : m_wanting_B58 M = some (fM C j 1 M) := by
        unfold m_wanting_B58 m_wanting_B67 m_wanting_B86
        rw [e4, hbl, bnd_some, e8, w11, if_neg (by omega), if_pos (by omega), b108 1 _ (by omega) (by omega)]
      rw [el, bnd_some, h8, w32_0, if_pos (by omega), e58]
      by_cases hk : 0 ≤ C 0 j ∧ C 0 j ≤ 23
      · obtain ⟨t1, t2, t3, t4⟩ := tv hk
        have mo := m_own (w := M 0 7) ⟨t2, t3⟩ (K := C 0 j) hk t4
        rw [if_neg (fun q => q (tn ▸ hk)), mo, bnd_some, ifd, if_pos h23]
      · rw [if_pos (fun q => hk (tn ▸ q))]
theorem sim_wanting (hC : TokC C cnt) (hA : AheadOK C cnt) (h : TD C cnt inb j nv np ns L X M) (hk : C 0 j = 2) : two (x_Reader_readWants X) (m_wanting M) (fun X1 M1 => FrXS X X1 ∧ FrS inb M M1 ∧ Stm C cnt inb j X1 M1) := by
  obtain ⟨hP, hT, hR, hL⟩ := h
  have hT' := hT
  obtain ⟨⟨n1, n2, n3, n4, n5, n6⟩, ⟨m1, hin, m3, m4, m5⟩, hstr, hv, hp, hs⟩ := hT
  have h8 := hP.2.1.1
  have hj := hP.2.2.1
  have q : ∀ z : Int, -1 ≤ z → z ≤ 2000 → w32 z = z := fun z h1 h2 => w32_eq (by omega) (by omega)
  obtain ⟨hg, h4, hl⟩ := good_of_cur hP.2.1 (by omega)
  have ex4 : ∀ (jj : Nat) (z : Int) (Y : Mem) i, (fX C jj z Y) 4 i = Y 4 i := fun jj z Y i => by unfold fX; rw [up_k (by omega), up_k (by omega)]
  have hbk : ∀ (a : Nat), a = 8 ∨ a = 9 ∨ a = 10 → ns < 12 → bkOf a (12 * inb + ns) = inb := fun a ha hn => by unfold bkOf; rw [if_neg (by omega), if_neg (by omega), if_pos (by omega)]; omega
  by_cases hfull : ns < 12
  · obtain ⟨Ma, a1, a2, a3⟩ := PB_next hC hA hP (by omega) (by omega)
    have ic := m_counted0 hP a1 a2.2.1.1
    have rq := (x_req hC hP.1 hj (c := 2) (by omega)).1 hk
    obtain ⟨Xa, hXa⟩ : ∃ Xa, Xa = upM X 3 4 ((j : Int) + 1) := ⟨_, rfl⟩
    rw [← hXa] at a2 rq
    have xa : ∀ z, z ≠ 3 → Xa z = X z := fun z hz => by rw [hXa, upM_row hz]
    have ta : TDn inb nv np ns Xa Ma := TDn_of hT' (fun a h1 h2 => xa a (by omega)) (a3.2 31 (by omega) (by omega) (by omega) (by omega) (by omega) (by omega)) (fun a h1 h2 => a3.1 a (by omega)) (a3.1 16 (by omega)) (a3.1 17 (by omega))
    have hc24 : 0 ≤ (12 * (inb : Int) + (ns : Int)) ∧ (12 * (inb : Int) + (ns : Int)) < 24 := by omega
    have hlt : (ns : Int) < 12 := by omega
    have hlt2 : 0 ≤ (ns : Int) ∧ (ns : Int) < 12 := by omega
    obtain ⟨Kx, hKx⟩ : ∃ Kx : Int → Int → Int → Mem → Option Mem, Kx = fun r2 r4 r6 M6 => if ¬ w32 (M6 3 1) = 0 then some M6 else some (upM (upM (upM (upM M6 10 ns r2) 11 ns r4) 12 ns r6) 4 2 (((upM (upM (upM M6 10 ns r2) 11 ns r4) 12 ns r6) 4 2) + 1)) := ⟨_, rfl⟩
    obtain ⟨Km, hKm⟩ : ∃ Km : Mem → Option Mem, Km = fun M94 => if ¬ w32 (M94 0 8) = 0 then some M94 else (if 0 ≤ (M94 0 31) ∧ (M94 0 31) < 2 then (if 0 ≤ (M94 0 31) ∧ (M94 0 31) < 2 then some (upM M94 7 (M94 0 31).toNat ((M94 7 (M94 0 31).toNat) + 1)) else none) else none) := ⟨_, rfl⟩
    have hx2 : x_Reader_readWants X = bnd2 (x_Reader_personName Xa) (fun r2 M2 => bnd (x_Reader_require ((9 : Nat) : Int) M2) (fun M3 => bnd2 (x_Reader_number 0 999 M3) (fun r4 M4 => bnd (x_Reader_require ((10 : Nat) : Int) M4) (fun M5 => bnd2 (x_Reader_number 1 20 M5) (fun r6 M6 => Kx r2 r4 r6 M6))))) := by
      unfold x_Reader_readWants x_Reader_readWants_B20 chk
      dsimp only [lt]
      rw [n3, q ns (by omega) (by omega), q 12 (by omega) (by omega), if_pos hlt, rq, bnd_some, Int.toNat_natCast, hKx]
      simp only [if_pos hlt, if_pos hlt2]
      rfl
    have hm2 : m_wanting M = bnd (m_lex Ma) (fun M2 => (if w32 (M2 0 8) ≤ 0 then (if ¬ w32 (M2 0 3) = w32 1 then m_wanting_B58 M2 else bnd (m_isOwn (M2 0 7)) (fun r11 => (if r11 = true then m_wanting_B58 M2 else m_wanting_B67 M2))) else some M2)) := by
      unfold m_wanting m_wanting_B20 chk
      rw [m1, Int.toNat_natCast, m5, if_pos (by omega), q ns (by omega) (by omega), q 12 (by omega) (by omega), if_pos (by omega), ic, bnd2_some, if_pos rfl]
    have kxf : ∀ (a b c : Int) (Y : Mem), FSt cnt Y → Kx a b c Y = some Y := fun a b c Y hy => by rw [hKx]; show (if ¬ w32 (Y 3 1) = 0 then _ else _) = _; rw [if_pos (f_e0 hy)]
    have kmf : ∀ (Y : Mem), FMs8 Y → Km Y = some Y := fun Y hy => by rw [hKm]; show (if ¬ w32 (Y 0 8) = 0 then _ else _) = _; rw [if_pos (fm_e0 hy)]
    have fxa : FrXS X Xa := by rw [hXa]; exact FrXS_up (by omega)
    rw [hx2, hm2]
    rcases sim_who hC hA a2 ta with ⟨r, Mb, b1, b2, b3, b4, b5, b6, b7⟩ | ⟨z, r, z1, z2, b1, b2⟩
    · obtain ⟨Xb, hXb⟩ : ∃ Xb, Xb = upM Xa 3 4 (((j + 1 : Nat) : Int) + 1) := ⟨_, rfl⟩
      rw [← hXb] at b1 b5
      obtain ⟨Mb', hMb'⟩ : ∃ Mb', Mb' = upM Mb 8 (12 * inb + ns) r := ⟨_, rfl⟩
      have pb : PB C cnt (j + 1 + 1) Xb Mb' := by rw [hMb']; exact PB_up b5 (by omega) (by omega)
      have frb : FrS inb M Mb' := by rw [hMb']; exact FrS_trans (FrS_trans (FrS_A a3) (FrS_A b6)) (FrS_up (Or.inr (Or.inl ⟨by omega, by omega, hbk 8 (Or.inl rfl) hfull⟩)))
      have xb : ∀ z, z ≠ 3 → Xb z = X z := fun z hz => by rw [hXb, upM_row hz]; exact xa z hz
      have e31 : Mb 0 31 = (inb : Int) := by rw [b6.2 31 (by omega) (by omega) (by omega) (by omega) (by omega) (by omega)]; exact ta.2.1.1
      have e7 : Mb 7 inb = (ns : Int) := by rw [b6.1 7 (by omega)]; exact ta.2.1.2.2.2.2
      have h8a := a2.2.1.1
      have h108 : m_wanting_B108 r Ma = bnd (m_must_ (ownW 9) Mb') (fun M3 => bnd2 (m_number 0 999 M3) (fun r4 M4 => bnd (m_must_ (ownW 10) (upM M4 9 (12 * inb + ns) r4)) (fun M5 => bnd2 (m_number 1 20 M5) (fun r6 M6 => Km (upM M6 10 (12 * inb + ns) r6))))) := by
        unfold m_wanting_B108 chk
        dsimp only [lt]
        rw [h8a, w32_0, if_pos (by omega), b4, bnd_some, e31, Int.toNat_natCast, e7, tn12, if_pos (by omega), hKm]
        simp only [if_pos hc24]
        rw [← hMb']
        rfl
      obtain ⟨u1, u2, Xd, Md, d1, d2, d3, d4, d5⟩ := sim_tail (inb := inb) (i := 12 * inb + ns) (p1 := 9) (p2 := 10) hC hA pb 9 10 (by omega) (by omega) 0 999 1 20 (by omega) (by omega) (by omega) (by omega) (by omega) (hbk 9 (Or.inr (Or.inl rfl)) hfull) (hbk 10 (Or.inr (Or.inr rfl)) hfull)
      rw [b1, bnd2_some, b7, h108, d1 (Kx r), d2 Km]
      have xd : ∀ z, z ≠ 3 → Xd z = X z := fun z hz => by rw [d3 z hz]; exact xb z hz
      have fxd : FrXS X Xd := fun z hz => xd z (by omega)
      have frd : FrS inb M Md := FrS_trans frb d4
      rcases d5 with ⟨e5, e3, e4', g3, g4, md', md2, md9, md10, md0⟩ | ⟨hfl, hfm⟩
      · have md : ∀ a, a ≠ 0 → a ≠ 9 → a ≠ 10 → a ≠ 8 → Md a = M a := fun a h1 h2 h3 h4 => by rw [md' a h1 h2 h3, hMb', upM_row h4, b6.1 a h1]; exact a3.1 a h1
        have md8 : ∀ i, i ≠ 12 * inb + ns → Md 8 i = M 8 i := fun i hi => by rw [md' 8 (by omega) (by omega) (by omega), hMb', up_i hi, b6.1 8 (by omega), a3.1 8 (by omega)]
        have md8e : Md 8 (12 * inb + ns) = r := by rw [md' 8 (by omega) (by omega) (by omega), hMb', up_e]
        have mb5 : ∀ i, i ≠ 12 * inb + ns → Md 9 i = M 9 i ∧ Md 10 i = M 10 i := fun i hi => by
          obtain ⟨y1, y2⟩ := md2 i hi
          rw [y1, y2, hMb', up_k (by omega), up_k (by omega), b6.1 9 (by omega), b6.1 10 (by omega), a3.1 9 (by omega), a3.1 10 (by omega)]
          exact ⟨rfl, rfl⟩
        have md0' : ∀ i, 13 ≤ i → Md 0 i = M 0 i := fun i hi => by
          rw [md0 i hi, hMb', up_k (by omega), b6.2 i (by omega) (by omega) (by omega) (by omega) (by omega) (by omega)]
          exact a3.2 i (by omega) (by omega) (by omega) (by omega) (by omega) (by omega)
        have me8 := e5.2.1.1
        have e31d : Xd 3 1 = 0 := e5.1.1
        have me31 : Md 0 31 = (inb : Int) := by rw [md0' 31 (by omega)]; exact m1
        have me7 : Md 7 inb = (ns : Int) := by rw [md 7 (by omega) (by omega) (by omega) (by omega)]; exact m5
        obtain ⟨Mf, hMf⟩ : ∃ Mf, Mf = upM Md 7 inb ((ns : Int) + 1) := ⟨_, rfl⟩
        obtain ⟨Xf, hXf⟩ : ∃ Xf, Xf = upM (upM (upM (upM Xd 10 ns r) 11 ns u1) 12 ns u2) 4 2 ((ns : Int) + 1) := ⟨_, rfl⟩
        have x4 : (upM (upM (upM Xd 10 ns r) 11 ns u1) 12 ns u2) 4 2 = (ns : Int) := by rw [up_k (by omega), up_k (by omega), up_k (by omega), xd 4 (by omega)]; exact n3
        have hxf : Kx r u1 u2 Xd = some Xf := by
          rw [hKx]
          show (if ¬ w32 (Xd 3 1) = 0 then _ else some (upM (upM (upM (upM Xd 10 ns r) 11 ns u1) 12 ns u2) 4 2 (((upM (upM (upM Xd 10 ns r) 11 ns u1) 12 ns u2) 4 2) + 1))) = _
          rw [e31d, w32_0, if_neg (by omega), x4, hXf]
        have hmf : Km Md = some Mf := by
          rw [hKm]
          show (if ¬ w32 (Md 0 8) = 0 then _ else (if 0 ≤ (Md 0 31) ∧ (Md 0 31) < 2 then (if 0 ≤ (Md 0 31) ∧ (Md 0 31) < 2 then some (upM Md 7 (Md 0 31).toNat ((Md 7 (Md 0 31).toNat) + 1)) else none) else none)) = _
          rw [me8, w32_0, if_neg (by omega), me31, if_pos (by omega), if_pos (by omega), Int.toNat_natCast, me7, hMf]
        have xf : ∀ z, z ≠ 3 → z ≠ 4 → z ≠ 10 → z ≠ 11 → z ≠ 12 → Xf z = X z := fun z h1 h2 h3 h4 h5 => by rw [hXf, upM_row h2, upM_row h5, upM_row h4, upM_row h3]; exact xd z h1
        have mf : ∀ a, a ≠ 0 → a ≠ 7 → a ≠ 8 → a ≠ 9 → a ≠ 10 → Mf a = M a := fun a h1 h2 h3 h4 h5 => by rw [hMf, upM_row h2]; exact md a h1 h4 h5 h3
        have mf0 : ∀ i, 13 ≤ i → Mf 0 i = M 0 i := fun i hi => by rw [hMf, up_k (by omega)]; exact md0' i hi
        refine ⟨Xf, Mf, hxf, hmf, ?_, ?_, Or.inl ⟨j + 1 + 1 + 4, nv, np, ns + 1, L, by omega, ?_, ?_, ?_, by omega⟩⟩
        · intro z hz; exact xf z (by omega) (by omega) (by omega) (by omega) (by omega)
        · refine FrS_trans frd ?_
          rw [hMf]; exact FrS_up (Or.inr (Or.inl ⟨by omega, by omega, by unfold bkOf; rw [if_neg (by omega), if_neg (by omega), if_neg (by omega), if_neg (by omega), if_neg (by omega)]⟩))
        · have := PB_x (X1 := Xf) e5 (by rw [hXf, upM_row (by omega), upM_row (by omega), upM_row (by omega), upM_row (by omega)]) (fun z hz => by rw [hXf, upM_row (by omega), upM_row (by omega), upM_row (by omega), upM_row (by omega)])
          rw [hMf]; exact PB_up this (by omega) (by omega)
        · refine ⟨⟨?_, ?_, ?_, n4, n5, by omega⟩, ⟨?_, hin, ?_, ?_, ?_⟩, ?_, ?_, ?_, ?_⟩
          · rw [hXf, up_i (by omega), up_k (by omega), up_k (by omega), up_k (by omega), xd 4 (by omega)]; exact n1
          · rw [hXf, up_i (by omega), up_k (by omega), up_k (by omega), up_k (by omega), xd 4 (by omega)]; exact n2
          · rw [hXf, up_e]; omega
          · rw [mf0 31 (by omega)]; exact m1
          · rw [mf 2 (by omega) (by omega) (by omega) (by omega) (by omega)]; exact m3
          · rw [mf 4 (by omega) (by omega) (by omega) (by omega) (by omega)]; exact m4
          · rw [hMf, up_e]; omega
          · have : Xf 4 3 = X 4 3 := by rw [hXf, up_i (by omega), up_k (by omega), up_k (by omega), up_k (by omega), xd 4 (by omega)]
            rw [mf 11 (by omega) (by omega) (by omega) (by omega) (by omega), this]; exact hstr
          · intro k hk'
            rw [xf 5 (by omega) (by omega) (by omega) (by omega) (by omega), xf 6 (by omega) (by omega) (by omega) (by omega) (by omega), mf 16 (by omega) (by omega) (by omega) (by omega) (by omega), mf 3 (by omega) (by omega) (by omega) (by omega) (by omega)]
            exact hv k hk'
          · intro k hk'
            rw [xf 7 (by omega) (by omega) (by omega) (by omega) (by omega), xf 8 (by omega) (by omega) (by omega) (by omega) (by omega), xf 9 (by omega) (by omega) (by omega) (by omega) (by omega), mf 17 (by omega) (by omega) (by omega) (by omega) (by omega), mf 5 (by omega) (by omega) (by omega) (by omega) (by omega), mf 6 (by omega) (by omega) (by omega) (by omega) (by omega)]
            exact hp k hk'
          · intro k hk'
            by_cases e : k = ns
            · subst e
              have y7 : Xf 10 k = r := by rw [hXf, up_k (by omega), up_k (by omega), up_k (by omega), up_e]
              have y8 : Xf 11 k = u1 := by rw [hXf, up_k (by omega), up_k (by omega), up_e]
              have y9 : Xf 12 k = u2 := by rw [hXf, up_k (by omega), up_e]
              have y17 : Mf 8 (12 * inb + k) = r := by rw [hMf, up_k (by omega)]; exact md8e
              have y5 : Mf 9 (12 * inb + k) = u1 := by rw [hMf, up_k (by omega)]; exact md9
              have y6 : Mf 10 (12 * inb + k) = u2 := by rw [hMf, up_k (by omega)]; exact md10
              rw [y7, y8, y9, y17, y5, y6]
              exact ⟨rfl, b2, b3, rfl, e3, e4', rfl, g3, g4⟩
            · have y7 : Xf 10 k = X 10 k := by rw [hXf, up_k (by omega), up_k (by omega), up_k (by omega), up_i e, xd 10 (by omega)]
              have y8 : Xf 11 k = X 11 k := by rw [hXf, up_k (by omega), up_k (by omega), up_i e, up_k (by omega), xd 11 (by omega)]
              have y9 : Xf 12 k = X 12 k := by rw [hXf, up_k (by omega), up_i e, up_k (by omega), up_k (by omega), xd 12 (by omega)]
              have y17 : Mf 8 (12 * inb + k) = M 8 (12 * inb + k) := by rw [hMf, up_k (by omega)]; exact md8 _ (by omega)
              have y5 : Mf 9 (12 * inb + k) = M 9 (12 * inb + k) := by rw [hMf, up_k (by omega)]; exact (mb5 _ (by omega)).1
              have y6 : Mf 10 (12 * inb + k) = M 10 (12 * inb + k) := by rw [hMf, up_k (by omega)]; exact (mb5 _ (by omega)).2
              rw [y7, y8, y9, y17, y5, y6]
              exact hs k (by omega)
        · exact TDr_of hR (fun z h1 h2 => xf z (by omega) (by omega) (by omega) (by omega) (by omega)) (mf0 30 (by omega)) (fun z h1 h2 => mf z (by omega) (by omega) (by omega) (by omega) (by omega))
      · exact ⟨Xd, Md, kxf _ _ _ _ hfl.1, kmf _ hfm, fxd, frd, Or.inr (Or.inl hfl)⟩
    · -- nobody
      have fs := (PB_flt hC a2 (a := z) ⟨z1, z2⟩).1
      have fm := fM_f (C := C) (j := j + 1) (M := Ma) ⟨z1, z2⟩
      obtain ⟨u1, u2, Md, d1, -, -, -, -⟩ := flt_tail (inb := inb) (i := 12 * inb + ns) (p1 := 9) (p2 := 10) fs fm ((9 : Nat) : Int) ((10 : Nat) : Int) 0 999 1 20 (ownW 9) (ownW 10) (by omega) (by omega) (hbk 9 (Or.inr (Or.inl rfl)) hfull) (hbk 10 (Or.inr (Or.inr rfl)) hfull)
      rw [b1, bnd2_some, b2, d1 (Kx r)]
      exact ⟨_, _, kxf _ _ _ _ fs, rfl, FrXS_trans fxa (FrXS_P (fX_fr C _ z Xa)), FrS_fM (FrS_A a3), Or.inr (Or.inl (FltS_mk hC a2 ⟨z1, z2⟩ rfl rfl))⟩
  · -- the thirteenth
    have e8 : ns = 12 := by omega
    subst e8
    have fs := (PB_flt hC hP (a := 6) (by omega)).1
    obtain ⟨v, hv'⟩ := f_perName fs (by rw [ex4]; exact n2) n5
    obtain ⟨u, hu⟩ := f_number fs 0 999
    obtain ⟨u', hu'⟩ := f_number fs 1 20
    refine ⟨fX C j 6 X, fM C j 6 M, ?_, ?_, FrXS_P (fX_fr C j 6 X), FrS_fM (FrS_refl inb M), Or.inr (Or.inl (FltS_mk hC hP (by omega) rfl rfl))⟩
    · unfold x_Reader_readWants
      dsimp only [lt]
      rw [n3, q ((12 : Nat) : Int) (by omega) (by omega), q 12 (by omega) (by omega), if_neg (by omega), x_refuse hC hP.1 hj, bnd_some]
      show x_Reader_readWants_B20 _ (fX C j 6 X) = _
      unfold x_Reader_readWants_B20
      rw [f_require fs, bnd_some, hv', bnd2_some, f_require fs, bnd_some, hu, bnd2_some, f_require fs, bnd_some, hu', bnd2_some, if_pos (f_e0 fs)]
    · unfold m_wanting m_wanting_B20 chk
      rw [m1, Int.toNat_natCast, m5, if_pos (by omega), q ((12 : Nat) : Int) (by omega) (by omega), q 12 (by omega) (by omega), if_neg (by omega), m_counted1 hP h4, bnd2_some, if_neg (by decide)]
theorem sim_stroking (hC : TokC C cnt) (hA : AheadOK C cnt) (h : TD C cnt inb j nv np ns L X M) (hk : C 0 j = 6) : two (bnd (x_Reader_require 6 X) (fun M7 => bnd2 (x_Reader_number 0 100 M7) (fun r8 M8 => some (upM M8 4 3 r8)))) (m_stroking M) (fun X1 M1 => FrXS X X1 ∧ FrS inb M M1 ∧ Stm C cnt inb j X1 M1) := by
  obtain ⟨hP, hT, hR, hL⟩ := h
  have hT' := hT
  obtain ⟨⟨n1, n2, n3, n4, n5, n6⟩, ⟨m1, hin, m3, m4, m5⟩, hstr, hv, hp, hs⟩ := hT
  have hj := hP.2.2.1
  obtain ⟨Ma, a1, a2, a3⟩ := PB_next hC hA hP (by omega) (by omega)
  have ic := m_counted0 hP a1 a2.2.1.1
  have rq := (x_req hC hP.1 hj (c := 6) (by omega)).1 hk
  obtain ⟨Xa, hXa⟩ : ∃ Xa, Xa = upM X 3 4 ((j : Int) + 1) := ⟨_, rfl⟩
  rw [← hXa] at a2 rq
  have xa : ∀ z, z ≠ 3 → Xa z = X z := fun z hz => by rw [hXa, upM_row hz]
  have fxa : FrXS X Xa := by rw [hXa]; exact FrXS_up (by omega)
  unfold m_stroking
  rw [rq, bnd_some, ic, bnd2_some, if_pos rfl]
  rcases sim_num hC hA a2 0 100 (by omega) with ⟨u, Mb, e1, e2, e3, e4, e5, e6⟩ | ⟨z, u, u', z1, z2, e1, e2⟩
  · obtain ⟨Xb, hXb⟩ : ∃ Xb, Xb = upM Xa 3 4 (((j + 1 : Nat) : Int) + 1) := ⟨_, rfl⟩
    rw [← hXb] at e1 e5
    have xb : ∀ z, z ≠ 3 → Xb z = X z := fun z hz => by rw [hXb, upM_row hz]; exact xa z hz
    have mb : ∀ a, a ≠ 0 → Mb a = M a := fun a h1 => by rw [e6.1 a h1]; exact a3.1 a h1
    have mb0 : ∀ i, 13 ≤ i → Mb 0 i = M 0 i := fun i hi => by rw [e6.2 i (by omega) (by omega) (by omega) (by omega) (by omega) (by omega)]; exact a3.2 i (by omega) (by omega) (by omega) (by omega) (by omega) (by omega)
    have e8 := e5.2.1.1
    have e31 : Mb 0 31 = (inb : Int) := by rw [mb0 31 (by omega)]; exact m1
    refine ⟨upM Xb 4 3 u, upM Mb 11 inb u, by rw [e1, bnd2_some], ?_, ?_, ?_, Or.inl ⟨j + 1 + 1, nv, np, ns, L, by omega, ?_, ?_, ?_, by omega⟩⟩
    · unfold chk
      rw [e2, bnd2_some, e8, w32_0, if_neg (by omega), e31, if_pos (by omega), Int.toNat_natCast]
      rfl
    · intro z hz; rw [upM_row (by omega)]; exact xb z (by omega)
    · exact FrS_trans (FrS_trans (FrS_A a3) (FrS_A e6)) (FrS_up (Or.inr (Or.inl ⟨by omega, by omega, by unfold bkOf; rw [if_neg (by omega), if_neg (by omega), if_neg (by omega), if_neg (by omega), if_neg (by omega)]⟩)))
    · exact PB_up (PB_x (X1 := upM Xb 4 3 u) e5 (upM_row (by omega)) (fun z hz => upM_row (by omega))) (by omega) (by omega)
    · refine ⟨⟨?_, ?_, ?_, n4, n5, n6⟩, ⟨?_, hin, ?_, ?_, ?_⟩, ?_, ?_, ?_, ?_⟩
      · rw [up_i (by omega), xb 4 (by omega)]; exact n1
      · rw [up_i (by omega), xb 4 (by omega)]; exact n2
      · rw [up_i (by omega), xb 4 (by omega)]; exact n3
      · rw [up_k (by omega)]; exact e31
      · rw [up_k (by omega), mb 2 (by omega)]; exact m3
      · rw [up_k (by omega), mb 4 (by omega)]; exact m4
      · rw [up_k (by omega), mb 7 (by omega)]; exact m5
      · rw [up_e, up_e]; exact ⟨rfl, e3, e4⟩
      · intro k hk'
        rw [upM_row (by omega), upM_row (by omega), upM_row (by omega), upM_row (by omega), xb 5 (by omega), xb 6 (by omega), mb 16 (by omega), mb 3 (by omega)]
        exact hv k hk'
      · intro k hk'
        simp (disch := omega) only [upM_row]
        rw [xb 7 (by omega), xb 8 (by omega), xb 9 (by omega), mb 17 (by omega), mb 5 (by omega), mb 6 (by omega)]
        exact hp k hk'
      · intro k hk'
        simp (disch := omega) only [upM_row]
        rw [xb 10 (by omega), xb 11 (by omega), xb 12 (by omega), mb 8 (by omega), mb 9 (by omega), mb 10 (by omega)]
        exact hs k hk'
    · exact TDr_of hR (fun z h1 h2 => by rw [upM_row (by omega)]; exact xb z (by omega)) (by rw [up_k (by omega)]; exact mb0 30 (by omega)) (fun z h1 h2 => by rw [upM_row (by omega)]; exact mb z (by omega))
  · have fm := fM_f (C := C) (j := j + 1) (M := Ma) ⟨z1, z2⟩
    obtain ⟨y1, y2, y3, y4, y5, y6⟩ := FltS_mk hC a2 ⟨z1, z2⟩ (rfl : (fM C (j + 1) z Ma) 0 8 = _) rfl
    refine ⟨upM (fX C (j + 1) z Xa) 4 3 u, fM C (j + 1) z Ma, by rw [e1, bnd2_some], ?_, ?_, FrS_fM (FrS_A a3), Or.inr (Or.inl ⟨?_, ?_, ?_, ?_, ?_, ?_⟩)⟩
    · rw [e2, bnd2_some, if_pos (fm_e0 fm)]
    · exact FrXS_trans (FrXS_trans fxa (FrXS_P (fX_fr C _ z Xa))) (FrXS_up (by omega))
    · obtain ⟨w1, w2, w3, w4, w5, w6, w7, w8⟩ := y1
      exact ⟨by rw [up_k (by omega)]; exact w1, by rw [up_k (by omega)]; exact w2, by rw [up_k (by omega)]; exact w3, by rw [up_k (by omega)]; exact w4, by rw [up_k (by omega)]; exact w5, w6, by rw [up_k (by omega)]; exact w7, by rw [up_k (by omega)]; exact w8⟩
    · rw [up_k (by omega)]; exact y2
    · rw [up_k (by omega)]; exact y3
    · rw [up_k (by omega)]; exact y4
    · rw [up_k (by omega)]; exact y5
    · rw [up_k (by omega)]; exact y6
end WANT
