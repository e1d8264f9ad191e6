/-! THE PURE PART: town: a rule is read -/
def RuleD (inb w : Nat) (L : List (Int × Int)) (X M : Mem) : Prop :=
  (X 17 w ≤ X 16 w ∧ 0 ≤ X 17 w ∧ X 16 w ≤ 1600 ∧ M 12 (3 * inb + w) = -1) ∨
  (∃ f n : Nat, X 16 w = (f : Int) ∧ X 17 w = ((f + n : Nat) : Int) ∧ 0 < n ∧ f + n ≤ L.length ∧ M 12 (3 * inb + w) = (f : Int) ∧ M 13 (3 * inb + w) = ((f + n : Nat) : Int) ∧ TRun w (fun c => (L.getD c (0, 0)).1) n f [] [decide (w ≠ 0)])
def TDr (inb : Nat) (L : List (Int × Int)) (X M : Mem) : Prop := X 13 5 = (L.length : Int) ∧ M 0 30 = (L.length : Int) ∧ CodOK inb X M L ∧ ∀ w, w < 3 → RuleD inb w L X M
def TD (C : Mem) (cnt inb j nv np ns : Nat) (L : List (Int × Int)) (X M : Mem) : Prop := PB C cnt j X M ∧ TDn inb nv np ns X M ∧ TDr inb L X M ∧ L.length ≤ j
def bkOf (a i : Nat) : Nat := if a = 3 ∨ a = 16 then i / 7 else if a = 5 ∨ a = 6 ∨ a = 17 then i / 8 else if a = 8 ∨ a = 9 ∨ a = 10 then i / 12 else if a = 12 ∨ a = 13 then i / 3 else if a = 14 ∨ a = 15 then i / 1600 else i
def own1 (i : Nat) : Prop := i = 1 ∨ i = 2 ∨ i = 10 ∨ i = 11 ∨ (12 < i ∧ i < 30) ∨ i = 31 ∨ (32 < i ∧ i < 38) ∨ i = 40 ∨ 42 < i
def FrS (inb : Nat) (M M1 : Mem) : Prop := (∀ a, (a = 1 ∨ 24 ≤ a) → M1 a = M a) ∧ (∀ a i, 2 ≤ a → a ≤ 17 → bkOf a i ≠ inb → M1 a i = M a i) ∧ (∀ i, own1 i → M1 0 i = M 0 i)
def FrXS (X X1 : Mem) : Prop := ∀ q, (q < 3 ∨ 17 < q) → X1 q = X q
theorem FrXS_refl (X : Mem) : FrXS X X := fun _ _ => rfl
theorem FrXS_trans {X Y Z : Mem} (h : FrXS X Y) (k : FrXS Y Z) : FrXS X Z := fun q hq => (k q hq).trans (h q hq)
theorem FrXS_up {X : Mem} {k i : Nat} {v : Int} (h : 3 ≤ k ∧ k ≤ 17) : FrXS X (upM X k i v) := fun q hq => upM_row (by omega)
theorem FrXS_P {X X1 : Mem} (h : FrPX X X1) : FrXS X X1 := fun q hq => h q (by omega) (by omega) (by omega)
theorem FrS_refl (inb : Nat) (M : Mem) : FrS inb M M := ⟨fun _ _ => rfl, fun _ _ _ _ _ => rfl, fun _ _ => rfl⟩
theorem FrS_trans {inb : Nat} {X Y Z : Mem} (h : FrS inb X Y) (k : FrS inb Y Z) : FrS inb X Z := ⟨fun a ha => (k.1 a ha).trans (h.1 a ha), fun a i h1 h2 h3 => (k.2.1 a i h1 h2 h3).trans (h.2.1 a i h1 h2 h3), fun i hi => (k.2.2 i hi).trans (h.2.2 i hi)⟩
theorem FrS_P {inb : Nat} {M M1 : Mem} (h : FrPM inb M M1) : FrS inb M M1 := by
  refine ⟨fun a ha => h.1 a (by omega) (by omega) (by omega) (by omega), fun a i h1 h2 h3 => ?_, fun i hi => h.2.2 i (by unfold own1 at hi; unfold own0; omega)⟩
  by_cases e : a = 14 ∨ a = 15
  · have hb : i < 1600 * inb ∨ 1600 * inb + 1600 ≤ i := by
      have : bkOf a i = i / 1600 := by unfold bkOf; rw [if_neg (by omega), if_neg (by omega), if_neg (by omega), if_neg (by omega), if_pos e]
      rw [this] at h3
      omega
    rcases e with rfl | rfl
    · exact (h.2.1 i hb).1
    · exact (h.2.1 i hb).2
  · rw [h.1 a (by omega) (by omega) (by omega) (by omega)]
theorem FrS_A {inb : Nat} {M M1 : Mem} (h : FrA M M1) : FrS inb M M1 := FrS_P (FrPM_A h)
theorem FrS_up {inb : Nat} {M : Mem} {k i : Nat} {v : Int} (h : (k = 0 ∧ ¬ own1 i) ∨ (2 ≤ k ∧ k ≤ 17 ∧ bkOf k i = inb) ∨ (18 ≤ k ∧ k ≤ 23)) : FrS inb M (upM M k i v) := by
  refine ⟨fun a ha => upM_row (by omega), fun a q h1 h2 h3 => ?_, fun q hq => ?_⟩
  · by_cases e : a = k
    · subst e
      refine up_i (fun z => ?_)
      subst z
      rcases h with ⟨h, -⟩ | ⟨-, -, h⟩ | h
      · omega
      · exact h3 h
      · omega
    · exact up_k e
  · by_cases e : k = 0
    · subst e
      refine up_i (fun z => ?_)
      subst z
      rcases h with ⟨-, h⟩ | h | h
      · exact h hq
      · omega
      · omega
    · exact up_k (by omega)
theorem FrS_fM {inb : Nat} {C : Mem} {j : Nat} {a : Int} {M M1 : Mem} (h : FrS inb M M1) : FrS inb M (fM C j a M1) := FrS_trans h (FrS_P (fM_fr (FrPM_refl inb M1)))
/-- a fault in both -/
def FltS (cnt : Nat) (X M : Mem) : Prop := FSt cnt X ∧ X 3 1 = M 0 8 ∧ X 3 2 = M 0 9 ∧ 0 ≤ X 3 2 ∧ X 3 2 ≤ 1600 ∧ X 3 4 ≤ 10000
theorem TRun_of_TL {w : Nat} {so : Nat → Int} : ∀ {l : List Int} {c : Nat} {st st1 : List Bool}, TL w l st st1 → (∀ i, i < l.length → so (c + i) = l.getD i 0) → TRun w so l.length c st st1 := by
  intro l
  induction l with
  | nil => intro c st st1 h _; exact h
  | cons s r ih =>
    rintro c st st1 ⟨st2, h1, h2, h3⟩ h
    have h0 := h 0 (by rw [List.length_cons]; omega)
    have h0' : so c = s := h0
    refine ⟨st2, by rw [h0']; exact h1, h2, ih h3 (fun i hi => ?_)⟩
    have := h (i + 1) (by rw [List.length_cons]; omega)
    rw [show c + 1 + i = c + (i + 1) by omega, this]
    rfl
theorem TRun_ext {w : Nat} {so so' : Nat → Int} : ∀ {n c : Nat} {st st1 : List Bool}, TRun w so n c st st1 → (∀ i, c ≤ i → i < c + n → so' i = so i) → TRun w so' n c st st1 := by
  intro n
  induction n with
  | zero => intro c st st1 h _; exact h
  | succ n ih =>
    rintro c st st1 ⟨st2, h1, h2, h3⟩ h
    exact ⟨st2, by rw [h c (by omega) (by omega)]; exact h1, h2, ih h3 (fun i g1 g2 => h i (by omega) (by omega))⟩
theorem getD_left {L l : List (Int × Int)} {i : Nat} (h : i < L.length) : (L ++ l).getD i (0, 0) = L.getD i (0, 0) := by
  rw [List.getD_eq_getElem?_getD, List.getD_eq_getElem?_getD, List.getElem?_append_left h]
theorem getD_right {L l : List (Int × Int)} {i : Nat} : ((L ++ l).getD (L.length + i) (0, 0)).1 = (l.map Prod.fst).getD i 0 := by
  rw [List.getD_eq_getElem?_getD, List.getD_eq_getElem?_getD, List.getElem?_append_right (by omega), List.getElem?_map]
  rw [show L.length + i - L.length = i by omega]
  cases l[i]? <;> rfl
/-- a rule that is there stays -/
theorem RuleD_of {inb w : Nat} {L l : List (Int × Int)} {X M X1 M1 : Mem} (h : RuleD inb w L X M) (h16 : X1 16 w = X 16 w) (h17 : X1 17 w = X 17 w) (h12 : M1 12 (3 * inb + w) = M 12 (3 * inb + w)) (h13 : M1 13 (3 * inb + w) = M 13 (3 * inb + w)) : RuleD inb w (L ++ l) X1 M1 := by
  unfold RuleD at h ⊢
  rw [h16, h17, h12, h13]
  rcases h with h | ⟨f, n, a1, a2, a3, a4, a5, a6, a7⟩
  · exact Or.inl h
  · refine Or.inr ⟨f, n, a1, a2, a3, by rw [List.length_append]; omega, a5, a6, TRun_ext a7 (fun i g1 g2 => ?_)⟩
    show ((L ++ l).getD i (0, 0)).1 = (L.getD i (0, 0)).1
    rw [getD_left (by omega)]
section RULE
variable {C : Mem} {cnt inb j nv np ns w : Nat} {L : List (Int × Int)} {X M : Mem}
theorem m_reads_end {k : Nat} {M M1 M2 : Mem} {kd : Int} (h8 : M 0 8 = 0) (hkd : kd = 0 ∨ kd = 1) (hM1 : m_pushes kd (upM (upM (upM (upM M 0 38 0) 0 39 0) 0 41 0) 0 42 0) = some M1) (hr : RdTo k M1 M2 0) (hk : k ≤ 5000) : m_reads kd M = some M2 := by
  obtain ⟨G, hG⟩ : ∃ G, FUEL = (G + 1) + k := ⟨FUEL - 1 - k, by unfold FUEL; omega⟩
  have e := hr (G + 1)
  have e0 : itr2 m_reads_L43 (G + 1) 0 M2 = some (0, M2) := by
    show m_reads_L43 (itr2 m_reads_L43 G) 0 M2 = some (0, M2)
    unfold m_reads_L43
    rw [w32_0, if_pos rfl]
  have key : itr2 m_reads_L43 FUEL 1 M1 = some (0, M2) := by rw [hG, e, e0]
  unfold m_reads m_reads_B38
  dsimp only [lt]
  rw [h8, w32_0, if_pos (by omega), w32_eq (x := kd) (by omega) (by omega)]
  rcases hkd with e | e
  · rw [if_pos e]; rw [e] at hM1; rw [hM1, bnd_some, key, bnd_some]
  · rw [if_neg (by omega)]; rw [e] at hM1; rw [hM1, bnd_some, key, bnd_some]
/-- what a statement leaves: both stand at a later token, or a fault in both, or the token there is wrong in itself and the reference has told so -/
def Stm (C : Mem) (cnt inb j : Nat) (X1 M1 : Mem) : Prop := (∃ j1 nv np ns L1, j < j1 ∧ TD C cnt inb j1 nv np ns L1 X1 M1) ∨ FltS cnt X1 M1 ∨ (∃ j1, j < j1 ∧ j1 < cnt ∧ Prs C cnt j1 0 X1 ∧ C 0 j1 = 26 ∧ 0 ≤ X1 13 5 ∧ X1 13 5 ≤ 1600 ∧ M1 0 8 = 1 ∧ M1 0 9 = C 1 j1)
theorem sim_rule (hC : TokC C cnt) (hA : AheadOK C cnt) (hw : w < 3) (h : TD C cnt inb j nv np ns L X M) (hk1 : C 0 j ≠ 25) (hk2 : C 0 j ≠ 26) : two (x_Reader_readRule (w : Int) X) (m_reading (w : Int) M) (fun X1 M1 => FrXS X X1 ∧ FrS inb M M1 ∧ Stm C cnt inb j X1 M1) := by
  obtain ⟨hP, hT, ⟨r1, r2, r3, r4⟩, hL⟩ := h
  have hin := hT.2.1.2.1
  have h31 := hT.2.1.1
  have hcn := hC.2.1
  have h8 := hP.2.1.1
  have hj := hP.2.2.1
  obtain ⟨hg, h4, hl⟩ := good_of_cur hP.2.1 hk2
  have hrw := r4 w hw
  have q : ∀ z : Int, -1 ≤ z → z ≤ 2000 → w32 z = z := fun z h1 h2 => w32_eq (by omega) (by omega)
  have rng : -1 ≤ X 17 w ∧ X 17 w ≤ 1601 ∧ -1 ≤ X 16 w ∧ X 16 w ≤ 1601 ∧ -1 ≤ M 12 (3 * inb + w) ∧ M 12 (3 * inb + w) ≤ 1601 := by
    rcases hrw with ⟨a1, a2, a3, a4⟩ | ⟨f, n, a1, a2, a3, a4, a5, a6, -⟩
    · omega
    · omega
  have htold : x_Rules_isTold 13 (w : Int) X = some (decide (X 16 w < X 17 w)) := by
    unfold x_Rules_isTold chk
    rw [q w (by omega) (by omega), q 3 (by omega) (by omega), if_neg (by omega), if_neg (by omega), if_pos (by omega), if_pos (by omega), Int.toNat_natCast]
    show (if w32 (X 17 w) ≤ w32 (X 16 w) then some false else some true) = _
    rw [q (X 17 w) (by omega) (by omega), q (X 16 w) (by omega) (by omega)]
    by_cases e : X 17 w ≤ X 16 w
    · rw [if_pos e, decide_eq_false (by omega)]
    · rw [if_neg e, decide_eq_true (by omega)]
  have tt : ((3 * (inb : Int)) + (w : Int)).toNat = 3 * inb + w := tn3
  have hm : m_reading (w : Int) M = (if M 12 (3 * inb + w) = -1 then m_reading_B25 (w : Int) (3 * (inb : Int) + (w : Int)) 0 M else m_reading_B25 (w : Int) (3 * (inb : Int) + (w : Int)) 1 M) := by
    unfold m_reading chk
    dsimp only [lt]
    rw [h31, tt, if_pos (by omega), q (M 12 (3 * inb + w)) (by omega) (by omega), q (-1) (by omega) (by omega)]
  by_cases hto : M 12 (3 * inb + w) = -1
  · -- not told yet
    have hnt : ¬ X 16 w < X 17 w := by
      rcases hrw with ⟨a1, a2, a3, a4⟩ | ⟨f, n, a1, a2, a3, a4, a5, a6, -⟩
      · omega
      · omega
    obtain ⟨Ma, a1, a2, a3⟩ := PB_next hC hA hP hk1 hk2
    have hj1 : j + 1 < cnt := a2.2.2.1
    obtain ⟨Xa, hXa⟩ : ∃ Xa, Xa = upM (upM (upM X 3 4 ((j : Int) + 1)) 3 6 (w : Int)) 16 w (L.length : Int) := ⟨_, rfl⟩
    have xa : ∀ z, z ≠ 3 → z ≠ 16 → Xa z = X z := fun z h1 h2 => by rw [hXa, upM_row h2, upM_row h1, upM_row h1]
    have xa3 : ∀ z, z ≠ 4 → z ≠ 6 → Xa 3 z = X 3 z := fun z h1 h2 => by rw [hXa, up_k (by omega), up_i h2, up_i h1]
    -- the reference's loop is set up
    obtain ⟨kd, hkd⟩ : ∃ kd : Int, kd = (if w = 0 then 0 else 1) := ⟨_, rfl⟩
    have hkd01 : kd = 0 ∨ kd = 1 := by rw [hkd]; split; exact Or.inl rfl; exact Or.inr rfl
    obtain ⟨Mb, hMb⟩ : ∃ Mb, Mb = upM (upM Ma 0 32 (w : Int)) 12 (3 * inb + w) (L.length : Int) := ⟨_, rfl⟩
    have a30 : Ma 0 30 = (L.length : Int) := by rw [a3.2 30 (by omega) (by omega) (by omega) (by omega) (by omega) (by omega)]; exact r2
    have mb : ∀ z, z ≠ 0 → z ≠ 12 → Mb z = M z := fun z h1 h2 => by rw [hMb, upM_row h2, upM_row h1]; exact a3.1 z h1
    have mb0 : ∀ z, 13 ≤ z → z ≠ 32 → Mb 0 z = M 0 z := fun z h1 h2 => by rw [hMb, up_k (by omega), up_i h2]; exact a3.2 z (by omega) (by omega) (by omega) (by omega) (by omega) (by omega)
    have cb : Cur C (j + 1) Mb := by rw [hMb]; exact Cur_up (Cur_up a2.2.1 (by omega) (by omega)) (by omega) (by omega)
    obtain ⟨Mc, hMc⟩ : ∃ Mc, Mc = upM (upM (upM (upM Mb 0 38 0) 0 39 0) 0 41 0) 0 42 0 := ⟨_, rfl⟩
    have mc : ∀ z, z ≠ 0 → Mc z = Mb z := fun z h1 => by rw [hMc, upM_row h1, upM_row h1, upM_row h1, upM_row h1]
    have mc0 : ∀ z, z ≠ 38 → z ≠ 39 → z ≠ 41 → z ≠ 42 → Mc 0 z = Mb 0 z := fun z h1 h2 h3 h4 => by rw [hMc, up_i h4, up_i h3, up_i h2, up_i h1]
    have cc : Cur C (j + 1) Mc := by rw [hMc]; exact Cur_up (Cur_up (Cur_up (Cur_up cb (by omega) (by omega)) (by omega) (by omega)) (by omega) (by omega)) (by omega) (by omega)
    have msc : MS C inb w (j + 1) 0 0 L [] [] [] Xa Mc := by
      refine ⟨CodOK_of r3 (fun i _ => by rw [xa 15 (by omega) (by omega)]) (fun i _ => ⟨by rw [mc 14 (by omega), mb 14 (by omega) (by omega)], by rw [mc 15 (by omega), mb 15 (by omega) (by omega)]⟩), cc, ?_, ?_, ?_, ?_, trivial, ?_, ?_, trivial, ?_⟩
      · rw [mc0 31 (by omega) (by omega) (by omega) (by omega), mb0 31 (by omega) (by omega)]; exact h31
      · rw [mc0 32 (by omega) (by omega) (by omega) (by omega), hMb, up_k (by omega), up_e]
      · rw [mc0 30 (by omega) (by omega) (by omega) (by omega), mb0 30 (by omega) (by omega)]; exact r2
      · rw [hMc]; simp (disch := omega) only [up_i, up_e]; rfl
      · rw [hMc]; simp (disch := omega) only [up_i, up_e]; rfl
      · rw [hMc]; simp (disch := omega) only [up_i, up_e]; rfl
      · rw [hMc, up_e]
    obtain ⟨Md, d1, d2, d3⟩ := MS_push msc (kd := kd) (by simp)
    have hXa' : StX C cnt w (j + 1) 0 L [] Xa := by
      obtain ⟨p1, p2, p3, p4, p5, p6, p7⟩ := hP.1
      refine ⟨⟨by rw [xa3 1 (by omega) (by omega)]; exact p1, ?_, by rw [xa3 5 (by omega) (by omega)]; exact p3, by rw [xa 19 (by omega) (by omega)]; exact p4, by rw [xa 20 (by omega) (by omega)]; exact p5, by rw [xa 21 (by omega) (by omega)]; exact p6, ⟨by rw [xa 22 (by omega) (by omega)]; exact p7.1, by rw [xa3 2 (by omega) (by omega)]; exact p7.2⟩⟩, ?_, by rw [xa 13 (by omega) (by omega), r1]; rfl, trivial, by rw [List.length_nil]; omega⟩
      · rw [hXa, up_k (by omega), up_i (by omega), up_e]; omega
      · rw [hXa, up_k (by omega), up_e]
    have hpre : ∀ ex, Pre C cnt inb w (j + 1) 0 ex L (kd, 0, 1, 0, ([] : List Int).length) [] [] [] Xa Md := fun ex => ⟨⟨hXa', d2⟩, hj1, by omega, by simp, by simp, by simp, by rcases hkd01 with e | e <;> rw [e] <;> decide, Or.inr rfl, Nat.le_refl _⟩
    obtain ⟨gP, gS, gF, gT⟩ := goals_all (w := w) hC hA hin hw 64 (by omega)
    -- the class's start
    have hstart : x_Rules_start 13 (w : Int) (upM (upM X 3 4 (X 3 4 + 1)) 3 6 (w : Int)) = some Xa := by
      unfold x_Rules_start chk
      dsimp only [lt]
      rw [q w (by omega) (by omega), q 3 (by omega) (by omega), if_neg (by omega), if_neg (by omega), if_pos (by omega), Int.toNat_natCast, up_k (by omega), up_k (by omega), r1, hP.1.2.1, hXa]
    have h31x := hP.1.1
    have hx : ∀ (sel : Nat) (Xz : Mem), sel = (if w = 0 then 2 else 3) → x_rec 64 sel Xa = some Xz → x_Reader_readRule (w : Int) X = some (upM Xz 17 w (Xz 13 5)) := fun sel Xz hs hz => by
      have hstop : x_Reader_readRule_B69 (w : Int) Xz = some (upM Xz 17 w (Xz 13 5)) := by
        unfold x_Reader_readRule_B69 x_Rules_stop chk
        dsimp only [lt]
        rw [q w (by omega) (by omega), q 3 (by omega) (by omega), if_neg (by omega), if_neg (by omega), if_pos (by omega), Int.toNat_natCast, bnd_some]
      unfold x_Reader_readRule x_Reader_readRule_B20
      dsimp only [lt]
      rw [htold, bnd_some, ifd, if_neg hnt, h31x, w32_0, if_pos rfl, hstart, bnd_some, q w (by omega) (by omega)]
      by_cases e : w = 0
      · rw [if_neg (by omega)]
        rw [if_pos e] at hs
        rw [hs] at hz
        rw [hz, bnd_some, hstop]
      · rw [if_pos (by omega)]
        rw [if_neg e] at hs
        rw [hs] at hz
        rw [hz, bnd_some, hstop]
    have h8a := a2.2.1.1
    have hmr : ∀ k Mz, RdTo k Md Mz 0 → k ≤ 5000 → m_reading (w : Int) M = some (upM Mz 13 (3 * inb + w) (Mz 0 30)) := fun k Mz hr hk => by
      have hrd : m_reads kd Mb = some Mz := m_reads_end cb.1 hkd01 (by rw [← hMc]; exact d1) hr hk
      have h57 : m_reading_B57 (3 * (inb : Int) + (w : Int)) kd Mb = some (upM Mz 13 (3 * inb + w) (Mz 0 30)) := by
        unfold m_reading_B57 chk
        dsimp only [lt]
        rw [hrd, bnd_some, tt, if_pos (by omega)]
      have hic : m_isCounted 0 M = some (true, Ma) := by
        unfold m_isCounted m_isCounted_B21 m_isCounted_B32
        rw [h8, w32_0, if_neg (by omega), if_pos rfl, if_neg (by omega), a1, bnd_some, h8a, w32_0, if_neg (by omega)]
      rw [hm, if_pos hto]
      unfold m_reading_B25 chk
      dsimp only [lt]
      rw [hic, bnd2_some, if_pos rfl, tt, if_pos (by omega), up_i (by omega), a30, ← hMb, q w (by omega) (by omega)]
      by_cases e : w = 0
      · rw [if_pos (by omega)]
        rw [if_pos e] at hkd
        rw [hkd] at h57
        exact h57
      · rw [if_neg (by omega)]
        rw [if_neg e] at hkd
        rw [hkd] at h57
        exact h57
    have frMd : FrS inb M Md := by
      have f1 : FrS inb Ma Mb := by
        rw [hMb]
        exact FrS_trans (FrS_up (Or.inl ⟨rfl, by unfold own1; omega⟩)) (FrS_up (Or.inr (Or.inl ⟨by omega, by omega, by unfold bkOf; rw [if_neg (by omega), if_neg (by omega), if_neg (by omega), if_pos (by omega)]; omega⟩)))
      have f2 : FrS inb Mb Mc := by
        rw [hMc]
        exact FrS_trans (FrS_trans (FrS_trans (FrS_up (Or.inl ⟨rfl, by unfold own1; omega⟩)) (FrS_up (Or.inl ⟨rfl, by unfold own1; omega⟩))) (FrS_up (Or.inl ⟨rfl, by unfold own1; omega⟩))) (FrS_up (Or.inl ⟨rfl, by unfold own1; omega⟩))
      exact FrS_trans (FrS_A a3) (FrS_trans f1 (FrS_trans f2 (FrS_P d3)))
    have frXa : FrXS X Xa := by
      rw [hXa]
      exact FrXS_trans (FrXS_trans (FrXS_up (by omega)) (FrXS_up (by omega))) (FrXS_up (by omega))
    have b13 : ∀ Mz : Mem, ∀ v, FrS inb Mz (upM Mz 13 (3 * inb + w) v) := fun Mz v => FrS_up (Or.inr (Or.inl ⟨by omega, by omega, by unfold bkOf; rw [if_neg (by omega), if_neg (by omega), if_neg (by omega), if_pos (by omega)]; omega⟩))
    -- both results at once
    have hres : ∃ sel X2, sel = (if w = 0 then 2 else 3) ∧ x_rec 64 sel Xa = some X2 ∧ FrPX Xa X2 ∧ ((∃ (k : Nat) (M1 : Mem) (j1 : Nat) (l : List (Int × Int)) (P : List Int) (ph : Int), j + 1 < j1 ∧ j1 < cnt ∧ k ≤ j1 - (j + 1) ∧ RdTo k Md M1 1 ∧ FrPM inb Md M1 ∧ St C cnt inb w j1 0 1 (L ++ l) P ((kd, ph, 0, 0, 0) :: []) (P ++ []) X2 M1 ∧ TL w (l.map Prod.fst ++ P) [] (decide (w ≠ 0) :: []) ∧ P.length ≤ 12 ∧ 0 ≤ ph ∧ ph ≤ 2 ∧ (ph = 2 ∨ nonOp (C 0 j1)) ∧ (¬ isT (kd, ph, 0, 0, 0) ∨ (ph ≠ 0 ∧ C 0 j1 ≠ 17 ∧ C 0 j1 ≠ 18))) ∨ FOut cnt inb 64 (1700 - (j + 1)) X2 Md) := by
      by_cases e : w = 0
      · have hk0 : kd = 0 := by rw [hkd, if_pos e]
        obtain ⟨X2, s1, s2, s3⟩ := gS Xa Md (j + 1) 0 L (kd, 0, 1, 0, ([] : List Int).length) [] [] [] (hpre 3) (fun z => absurd z (by rw [hk0]; unfold isT; simp)) (Or.inl rfl) (Or.inl rfl) (by omega)
        refine ⟨2, X2, by rw [if_pos e], s1, s2, ?_⟩
        rcases s3 with ⟨k, M1, j1, l, P, ph, t1, t2, t3, t4, t5, t6, t7, t8, t9, t10, t11, t12⟩ | hF
        · exact Or.inl ⟨k, M1, j1, l, P, ph, t1, t2, t3, t4, t5, t6, by rw [decide_eq_false (by omega)]; exact t8, by omega, by rw [t11]; simp, by rw [t11]; simp, Or.inr t12, Or.inl (by rw [hk0]; unfold isT; simp)⟩
        · exact Or.inr hF
      · have hk1 : kd = 1 := by rw [hkd, if_neg e]
        obtain ⟨X2, s1, s2, s3⟩ := gT Xa Md (j + 1) 0 L (kd, 0, 1, 0, ([] : List Int).length) [] [] [] (hpre 0) (Or.inl hk1) rfl rfl rfl (by omega)
        refine ⟨3, X2, by rw [if_neg e], s1, s2, ?_⟩
        rcases s3 with ⟨k, M1, j1, l, P, ph, t1, t2, t3, t4, t5, t6, t7, t8, t9, t10, t11, t12⟩ | hF
        · exact Or.inl ⟨k, M1, j1, l, P, ph, t1, t2, t3, t4, t5, t6, by rw [decide_eq_true (by omega)]; exact t8, t9, by rcases t10 with ⟨z, -⟩ | z <;> rw [z] <;> decide, by rcases t10 with ⟨z, -⟩ | z <;> rw [z] <;> decide, by rcases t10 with ⟨-, z⟩ | z; exact Or.inr z; exact Or.inl z, Or.inr ⟨by rcases t10 with ⟨z, -⟩ | z <;> rw [z] <;> decide, t11, t12⟩⟩
        · exact Or.inr hF
    obtain ⟨sel, X2, hs, s1, s2, s3⟩ := hres
    have hxe := hx sel X2 hs s1
    have fx2 : FrXS X (upM X2 17 w (X2 13 5)) := FrXS_trans frXa (FrXS_trans (FrXS_P s2) (FrXS_up (by omega)))
    rcases s3 with ⟨k, M1, j1, l, P, ph, t1, t2, t3, t4, t5, t6, t8, t9, t10, t10', t11, t12⟩ | hF
    · have hX2 := t6.1
      have c13 : X2 13 5 = (((L ++ l).length + P.length : Nat) : Int) := hX2.2.2.1
      have hlen : ((L ++ l) ++ ups P).length = (L ++ l).length + P.length := by rw [List.length_append, ups_len]
      rcases lex_cases t6.2.2.1 with ⟨e26, e0, el⟩ | ⟨el, e4, e0, hg2⟩
      · -- the token behind is wrong in itself
        have gb := goes_lexbad el
        have t := turn_goes t6.2.2.2.2.2.2.2.2.2.2.2 gb (Or.inr (by rw [fM_8.1]; omega))
        rw [if_neg (by simp)] at t
        refine ⟨_, _, hxe, hmr (k + 1) (fM C j1 1 M1) (RdTo_trans t4 t) (by omega), fx2, FrS_trans frMd (FrS_trans (FrS_P (FrPM_trans t5 (fM_fr (FrPM_refl inb M1)))) (b13 _ _)), Or.inr (Or.inr ⟨j1, by omega, t2, ?_, e26, ?_, ?_, ?_, ?_⟩)⟩
        · obtain ⟨p1, p2, p3, p4, p5, p6, p7⟩ := hX2.1
          exact ⟨by rw [up_k (by omega)]; exact p1, by rw [up_k (by omega)]; exact p2, by rw [up_k (by omega)]; exact p3, by rw [up_k (by omega)]; exact p4, by rw [upM_row (by omega)]; exact p5, by rw [upM_row (by omega)]; exact p6, ⟨by rw [upM_row (by omega)]; exact p7.1, by rw [up_k (by omega)]; exact p7.2⟩⟩
        · rw [up_k (by omega), c13]; omega
        · have := hX2.2.2.2.2; rw [up_k (by omega), c13]; omega
        · rw [up_k (by omega)]; exact fM_8.1
        · rw [up_k (by omega)]; exact fM_8.2
      · obtain ⟨M3, g1, g2, g3⟩ := goes_top hC t2 t6 hin (by omega) (by simp) hkd01 ⟨t10, t10'⟩ t11 t12 el hg2 rfl (by simp; omega)
        have c30 : M3 0 30 = (((L ++ l) ++ ups P).length : Int) := g3.2.2.2.2.1
        have frm3 : FrS inb M M3 := FrS_trans frMd (FrS_P (FrPM_trans t5 g2))
        have pmd : FrPM inb Md M3 := FrPM_trans t5 g2
        have rows : ∀ a, 2 ≤ a → a ≤ 17 → a ≠ 12 → a ≠ 14 → a ≠ 15 → M3 a = M a := fun a h1 h2 h3 h4 h5 => by
          rw [pmd.1 a (by omega) h4 h5 (by omega), d3.1 a (by omega) h4 h5 (by omega), mc a (by omega), mb a (by omega) h3]
        have row12 : M3 12 = Mb 12 := by rw [pmd.1 12 (by omega) (by omega) (by omega) (by omega), d3.1 12 (by omega) (by omega) (by omega) (by omega), mc 12 (by omega)]
        have xr : ∀ a, a ≠ 3 → a ≠ 13 → a ≠ 15 → a ≠ 16 → X2 a = X a := fun a h1 h2 h3 h4 => by rw [s2 a h1 h2 h3, xa a h1 h4]
        have hx16 : X2 16 = Xa 16 := s2 16 (by omega) (by omega) (by omega)
        refine ⟨_, _, hxe, hmr (k + 1) M3 (RdTo_trans t4 g1) (by omega), fx2, FrS_trans frm3 (b13 _ _), Or.inl ⟨j1, nv, np, ns, (L ++ l) ++ ups P, by omega, ?_, ?_, ⟨?_, ?_, ?_, ?_⟩, ?_⟩⟩
        · obtain ⟨p1, p2, p3, p4, p5, p6, p7⟩ := hX2.1
          refine ⟨⟨by rw [up_k (by omega)]; exact p1, by rw [up_k (by omega)]; exact p2, by rw [up_k (by omega)]; exact p3, by rw [up_k (by omega)]; exact p4, by rw [upM_row (by omega)]; exact p5, by rw [upM_row (by omega)]; exact p6, ⟨by rw [upM_row (by omega)]; exact p7.1, by rw [up_k (by omega)]; exact p7.2⟩⟩, Cur_up g3.2.1 (by omega) (by omega), t2, ?_⟩
          have := hX2.2.2.2.2
          rw [up_k (by omega), c13]; omega
        · refine TDn_of hT (fun a h1 h2 => by rw [upM_row (by omega)]; exact xr a (by omega) (by omega) (by omega) (by omega)) ?_ (fun a h1 h2 => by rw [upM_row (by omega)]; exact rows a (by omega) (by omega) (by omega) (by omega) (by omega)) (by rw [upM_row (by omega)]; exact rows 16 (by omega) (by omega) (by omega) (by omega) (by omega)) (by rw [upM_row (by omega)]; exact rows 17 (by omega) (by omega) (by omega) (by omega) (by omega))
          rw [up_k (by omega)]; exact frm3.2.2 31 (by unfold own1; omega)
        · rw [up_k (by omega), c13, hlen]
        · rw [up_k (by omega)]; exact c30
        · exact CodOK_of g3.1 (fun i _ => by rw [up_k (by omega)]) (fun i _ => ⟨by rw [up_k (by omega)], by rw [up_k (by omega)]⟩)
        · intro w' hw'
          by_cases e : w' = w
          · subst e
            refine Or.inr ⟨L.length, l.length + P.length, ?_, ?_, ?_, ?_, ?_, ?_, ?_⟩
            · rw [up_k (by omega), hx16, hXa, up_e]
            · rw [up_e, c13, List.length_append]; omega
            · rcases Nat.eq_zero_or_pos (l.length + P.length) with z | z
              · have hl0 : l = [] := List.length_eq_zero_iff.mp (by omega)
                have hp0 : P = [] := List.length_eq_zero_iff.mp (by omega)
                rw [hl0, hp0] at t8
                cases t8
              · exact z
            · rw [hlen, List.length_append]; omega
            · rw [up_k (by omega), row12, hMb, up_e]
            · rw [up_e, c30, hlen, List.length_append]; omega
            · have hll : (l.map Prod.fst ++ P).length = l.length + P.length := by rw [List.length_append, List.length_map]
              rw [← hll]
              refine TRun_of_TL t8 (fun i hi => ?_)
              show (((L ++ l) ++ ups P).getD (L.length + i) (0, 0)).1 = _
              rw [List.append_assoc, getD_right, List.map_append, ups_fst]
          · rw [List.append_assoc]
            refine RuleD_of (r4 w' hw') ?_ ?_ ?_ ?_
            · rw [up_k (by omega), hx16, hXa, up_i e, up_k (by omega), up_k (by omega)]
            · rw [up_i e, xr 17 (by omega) (by omega) (by omega) (by omega)]
            · rw [up_k (by omega), row12, hMb, up_i (by omega), up_k (by omega), a3.1 12 (by omega)]
            · rw [up_i (by omega), rows 13 (by omega) (by omega) (by omega) (by omega) (by omega)]
        · rw [hlen]; exact hX2.2.2.2.2
    · -- a fault within
      obtain ⟨k2, M2, y1, y2, y3, y4, y5, y6, y7, y8, y9⟩ := hF
      refine ⟨_, _, hxe, hmr k2 M2 y2 (by omega), fx2, FrS_trans frMd (FrS_trans (FrS_P y3) (b13 _ _)), Or.inr (Or.inl ⟨?_, ?_, ?_, ?_, ?_, ?_⟩)⟩
      · obtain ⟨z1, z2, z3, z4, z5, z6, z7, z8⟩ := y8
        exact ⟨by rw [up_k (by omega)]; exact z1, by rw [up_k (by omega)]; exact z2, by rw [up_k (by omega)]; exact z3, by rw [up_k (by omega)]; exact z4, by rw [up_k (by omega)]; exact z5, z6, by rw [up_k (by omega)]; exact z7, by rw [up_k (by omega)]; exact z8⟩
      · rw [up_k (by omega), up_k (by omega)]; exact y4
      · rw [up_k (by omega), up_k (by omega)]; exact y5
      · rw [up_k (by omega)]; exact y6
      · rw [up_k (by omega)]; exact y7
      · rw [up_k (by omega)]; omega
  · -- told before
    have hit : X 16 w < X 17 w := by
      rcases hrw with ⟨a1, a2, a3, a4⟩ | ⟨f, n, a1, a2, a3, a4, a5, a6, -⟩
      · omega
      · omega
    obtain ⟨g1, g2, g3, g4, g5, g6, g7⟩ := PB_flt hC hP (a := 6) (by omega)
    refine ⟨fX C j 6 X, fM C j 6 M, ?_, ?_, FrXS_P (fX_fr C j 6 X), FrS_fM (FrS_refl inb M), Or.inr (Or.inl ⟨g1, g2, g3, g5, g6, by omega⟩)⟩
    · have e0 : ¬ w32 ((fX C j 6 X) 3 1) = 0 := by rw [w32_eq (by have := g1.1; have := g1.2.1; omega) (by have := g1.1; have := g1.2.1; omega)]; have := g1.1; omega
      unfold x_Reader_readRule
      rw [htold, bnd_some, ifd, if_pos hit, x_refuse hC hP.1 hj, bnd_some]
      show x_Reader_readRule_B20 (w : Int) (fX C j 6 X) = _
      unfold x_Reader_readRule_B20
      rw [if_neg e0]
    · have hbl : m_blame 6 (C 1 j) M = some (fM C j 6 M) := m_blame_eq h8
      have e8 : (fM C j 6 M) 0 8 = 6 := fM_8.1
      rw [hm, if_neg hto]
      unfold m_reading_B25 m_isCounted m_isCounted_B21 m_isCounted_B32
      rw [h8, w32_0, if_neg (by omega), w32_eq (x := (1 : Int)) (by omega) (by omega), if_neg (by omega), h4, hbl, bnd_some, e8, w32_eq (x := (6 : Int)) (by omega) (by omega), if_pos (by omega), if_pos (by omega), bnd2_some, if_neg (by decide)]
end RULE
