/-! THE START: both worlds made, RR holds, the law's loop, its end -/
theorem rfh_nil {Rf : Nat → Nat → Nat} : Rfh Rf [] = Rf := by
  funext k j
  unfold Rfh
  rw [if_neg (by simp)]
set_option maxHeartbeats 4000000 in
theorem rr_zero : RR 0 (upM (upM (fun _ _ => 0) 3 2 (-1)) 0 10 1) (upM (upM (upM (upM (upM (upM (upM (upM (upM (upM (upM (upM (upM (upM (upM (upM (upM (upM (upM (upM (upM (upM (upM (upM (upM (upM (upM (upM (upM (upM (upM (fun _ _ => 0) 0 1 0) 0 2 0) 0 3 0) 0 4 0) 0 5 0) 0 6 0) 0 7 0) 0 8 0) 0 9 (-1)) 0 10 0) 0 11 (-1)) 0 12 (-1)) 0 13 0) 0 30 0) 0 31 1) 0 32 0) 0 38 0) 0 39 0) 0 41 0) 0 42 0) 0 56 0) 0 57 0) 0 58 1) 0 63 0) 0 69 0) 12 0 (-1)) 12 1 (-1)) 12 2 (-1)) 12 3 (-1)) 12 4 (-1)) 12 5 (-1)) := by
  have hx : ∀ a, a ≠ 0 → a ≠ 3 → ∀ j, (upM (upM (fun _ _ => 0) 3 2 (-1)) 0 10 1) a j = 0 := fun a h0 h3 j => by rw [upM_row h0, upM_row h3]
  have hm : ∀ a, a ≠ 0 → a ≠ 12 → ∀ j, (upM (upM (upM (upM (upM (upM (upM (upM (upM (upM (upM (upM (upM (upM (upM (upM (upM (upM (upM (upM (upM (upM (upM (upM (upM (upM (upM (upM (upM (upM (upM (fun _ _ => 0) 0 1 0) 0 2 0) 0 3 0) 0 4 0) 0 5 0) 0 6 0) 0 7 0) 0 8 0) 0 9 (-1)) 0 10 0) 0 11 (-1)) 0 12 (-1)) 0 13 0) 0 30 0) 0 31 1) 0 32 0) 0 38 0) 0 39 0) 0 41 0) 0 42 0) 0 56 0) 0 57 0) 0 58 1) 0 63 0) 0 69 0) 12 0 (-1)) 12 1 (-1)) 12 2 (-1)) 12 3 (-1)) 12 4 (-1)) 12 5 (-1)) a j = 0 := fun a h0 h12 j => by simp only [upM_row h0, upM_row h12]
  generalize hX : (upM (upM (fun _ _ => 0) 3 2 (-1)) 0 10 1 : Mem) = X at hx ⊢
  have x31 : X 3 1 = 0 := by rw [← hX]; rfl
  have x32 : X 3 2 = -1 := by rw [← hX]; rfl
  have x10 : X 0 10 = 1 := by rw [← hX]; rfl
  clear hX
  generalize hM : (upM (upM (upM (upM (upM (upM (upM (upM (upM (upM (upM (upM (upM (upM (upM (upM (upM (upM (upM (upM (upM (upM (upM (upM (upM (upM (upM (upM (upM (upM (upM (fun _ _ => 0) 0 1 0) 0 2 0) 0 3 0) 0 4 0) 0 5 0) 0 6 0) 0 7 0) 0 8 0) 0 9 (-1)) 0 10 0) 0 11 (-1)) 0 12 (-1)) 0 13 0) 0 30 0) 0 31 1) 0 32 0) 0 38 0) 0 39 0) 0 41 0) 0 42 0) 0 56 0) 0 57 0) 0 58 1) 0 63 0) 0 69 0) 12 0 (-1)) 12 1 (-1)) 12 2 (-1)) 12 3 (-1)) 12 4 (-1)) 12 5 (-1) : Mem) = M at hm ⊢
  have m1 : M 0 1 = 0 := by rw [← hM]; rfl
  have m10 : M 0 10 = 0 := by rw [← hM]; rfl
  have m11 : M 0 11 = -1 := by rw [← hM]; rfl
  have m13 : M 0 13 = 0 := by rw [← hM]; rfl
  have m56 : M 0 56 = 0 := by rw [← hM]; rfl
  have m57 : M 0 57 = 0 := by rw [← hM]; rfl
  have m58 : M 0 58 = 1 := by rw [← hM]; rfl
  have m63 : M 0 63 = 0 := by rw [← hM]; rfl
  have m69 : M 0 69 = 0 := by rw [← hM]; rfl
  have s0 : M 12 0 = -1 := by rw [← hM]; rfl
  have s1 : M 12 1 = -1 := by rw [← hM]; rfl
  have s2 : M 12 2 = -1 := by rw [← hM]; rfl
  clear hM
  refine ⟨0, 0, 0, 0, ⟨⟨by rw [m13]; rfl, by omega, by omega, by omega, by omega⟩, ⟨by rw [hx 23 (by omega) (by omega)]; rfl, by rw [hx 23 (by omega) (by omega)]; rfl, by rw [hx 23 (by omega) (by omega)]; rfl⟩, ⟨by rw [hm 2 (by omega) (by omega)]; rfl, by rw [hm 4 (by omega) (by omega)]; rfl, by rw [hm 7 (by omega) (by omega)]; rfl⟩, ⟨by rw [hm 11 (by omega) (by omega), hx 23 (by omega) (by omega)], by rw [hx 23 (by omega) (by omega)]; omega, by rw [hx 23 (by omega) (by omega)]; omega⟩, fun k hk => absurd hk (by omega), fun k hk => absurd hk (by omega), fun k hk => absurd hk (by omega), fun w hw => Or.inl ⟨by rw [hx 36 (by omega) (by omega), hx 35 (by omega) (by omega)]; omega, by rw [hx 36 (by omega) (by omega)]; omega, by rw [hx 35 (by omega) (by omega)]; omega, ?_⟩⟩, ?_, ?_, ?_, ?_, ?_, ?_, ?_, ?_, ?_⟩
  · rcases (show w = 0 ∨ w = 1 ∨ w = 2 by omega) with h | h | h
    · rw [h]; exact s0
    · rw [h]; exact s1
    · rw [h]; exact s2
  · have d38 := hx 38 (by omega) (by omega)
    refine ⟨fun k hk => absurd hk (by omega), fun k hk => absurd hk (by omega), fun k hk => absurd hk (by omega), fun k hk => absurd hk (by omega), fun k hk => absurd hk (by omega), fun k hk => absurd hk (by omega), fun k hk => absurd hk (by omega), fun k hk => absurd hk (by omega), fun k hk => absurd hk (by omega), ?_, ?_, fun k hk => ?_, fun k hk => ?_, fun k hk => ?_, ⟨?_, ?_⟩, ⟨?_, ?_⟩⟩
    · rw [d38, hm 35 (by omega) (by omega)]
    · rw [d38, hm 25 (by omega) (by omega)]
    · rw [d38] at hk; exact absurd hk (by omega)
    · rw [d38] at hk; exact absurd hk (by omega)
    · rw [d38] at hk; exact absurd hk (by omega)
    · rw [hm 28 (by omega) (by omega)]; omega
    · rw [hm 28 (by omega) (by omega)]; decide
    · rw [hm 34 (by omega) (by omega)]; omega
    · rw [hm 34 (by omega) (by omega)]; omega
  · have d38 := hx 38 (by omega) (by omega)
    refine ⟨fun k hk => absurd hk (by omega), fun k hk => absurd hk (by omega), fun k hk => absurd hk (by omega), fun k hk => absurd hk (by omega), fun k hk => absurd hk (by omega), fun k hk => absurd hk (by omega), fun k hk => absurd hk (by omega), fun k hk => absurd hk (by omega), fun k hk => absurd hk (by omega), fun k hk => absurd hk (by omega), fun k hk => absurd hk (by omega), fun k t hk => absurd hk (by omega), ⟨?_, ?_⟩, ⟨?_, ?_⟩⟩
    · rw [d38]; omega
    · rw [d38]; omega
    · rw [d38]; omega
    · rw [d38]; omega
  · refine ⟨0, 0, 0, ?_, ?_, by omega, ?_, by omega, ?_, by omega, fun i hi => absurd hi (by omega)⟩
    · rw [hx 64 (by omega) (by omega)]; rfl
    · rw [m57]; rfl
    · rw [hx 64 (by omega) (by omega)]; rfl
    · rw [m56]; rfl
  · refine ⟨?_, ?_, ?_, fun j hj => ⟨?_, ?_, ?_⟩⟩
    · rw [hx 1 (by omega) (by omega), m1]
    · rw [hx 1 (by omega) (by omega)]; omega
    · rw [hx 1 (by omega) (by omega)]; omega
    · rw [hx 2 (by omega) (by omega), hm 1 (by omega) (by omega)]
    · rw [hx 2 (by omega) (by omega)]; omega
    · rw [hx 2 (by omega) (by omega)]; omega
  · exact ⟨by rw [x31, m10], by rw [x32, m11], by omega, by omega, by omega, by omega⟩
  · intro j hj
    refine ⟨?_, ?_, ?_⟩
    · rw [hx 372 (by omega) (by omega), hm 24 (by omega) (by omega)]
    · rw [hx 372 (by omega) (by omega)]; omega
    · rw [hx 372 (by omega) (by omega)]; omega
  · exact ⟨by rw [x10, m58], by omega, by omega⟩
  · have d := hx 354 (by omega) (by omega)
    refine ⟨by rw [d, m63], by rw [d]; omega, by rw [d]; omega, fun i hi => ?_⟩
    rw [d] at hi
    exact absurd hi (by omega)
  · have d := hx 370 (by omega) (by omega)
    refine ⟨by rw [d, m69], by rw [d]; omega, by rw [d]; omega, fun i hi => ?_⟩
    rw [d] at hi
    exact absurd hi (by omega)
theorem known_NL {s : State} {args : Array Value} {own : String} {idx ci N : Nat} {kds : List Nat} (hts : ∀ w ∈ gws, w.before args s = true) (h : NL vwCl own idx ci kds N) : ∃ x : ClassId × (Nat → Nat), ∀ q : vw_C, vwCl[ci]? = some q → u_Kn s q.1 q.2.1 q.2.2 x.1 x.2 := by
  obtain ⟨C, T, ty, h1, -, h2, -, -, -, h6, -⟩ := h
  obtain ⟨cC, iS, hk⟩ := u_known hts h2 (hts _ h6)
  refine ⟨(cC, iS), fun q hq => ?_⟩
  rw [h1] at hq
  cases hq
  exact hk
theorem nl_RL_7 : NL vwCl "ThrownVoicesLaw" 7 10 xK_X 11 := ⟨RX11, TX11, tyX11, rfl, rfl, x_lays11, tyX11_ok, by decide +kernel, gw 144 (by decide +kernel) (by decide +kernel), gw 145 (by decide +kernel) (by decide +kernel), gw 123 (by decide +kernel) (by decide +kernel)⟩
theorem nl_RL_10 : NL vwCl "ThrownVoicesLaw" 10 11 mKds 70 := ⟨RX12, TX12, tyX12, rfl, rfl, mw_lays, tyX12_ok, by decide +kernel, gw 1238 (by decide +kernel) (by decide +kernel), gw 1239 (by decide +kernel) (by decide +kernel), gw 134 (by decide +kernel) (by decide +kernel)⟩
theorem ki_RL_9 : CLI "ThrownVoicesLaw" 9 yX11_init cX11_init 1 0 := ⟨gw 146 (by decide +kernel) (by decide +kernel), gw 147 (by decide +kernel) (by decide +kernel), rfl, gw 123 (by decide +kernel) (by decide +kernel), gwc 148 (by decide +kernel) (by decide +kernel), ⟨by decide +kernel, by decide +kernel⟩, by decide +kernel⟩
theorem ki_RL_12 : CLI "ThrownVoicesLaw" 12 yX12_init cX12_init 2 0 := ⟨gw 1240 (by decide +kernel) (by decide +kernel), gw 1241 (by decide +kernel) (by decide +kernel), rfl, gw 134 (by decide +kernel) (by decide +kernel), gwc 1242 (by decide +kernel) (by decide +kernel), ⟨by decide +kernel, by decide +kernel⟩, by decide +kernel⟩
theorem known_all {s : State} {args : Array Value} (hts : ∀ w ∈ gws, w.before args s = true) : ∃ (dC : Nat → ClassId) (dI : Nat → Nat → Nat), ∀ (k : Nat) (q : vw_C), vwCl[k]? = some q → u_Kn s q.1 q.2.1 q.2.2 (dC k) (dI k) := by
  have h : ∀ k : Nat, ∃ x : ClassId × (Nat → Nat), ∀ q : vw_C, vwCl[k]? = some q → u_Kn s q.1 q.2.1 q.2.2 x.1 x.2 := by
    intro k
    match k with
    | 0 => exact known_NL hts nl_RX11_58
    | 1 => exact known_NL hts nl_RX11_49
    | 2 => exact known_NL hts nl_RX11_42
    | 3 => exact known_NL hts nl_RX11_67
    | 4 => exact known_NL hts nl_RX11_16
    | 5 => exact known_NL hts nl_RX9_36
    | 6 => exact known_NL hts nl_RX11_30
    | 7 => exact known_NL hts nl_RX11_9
    | 8 => exact known_NL hts nl_RX4_22
    | 9 => exact known_NL hts nl_RX4_9
    | 10 => exact known_NL hts nl_RL_7
    | 11 => exact known_NL hts nl_RL_10
    | k + 12 => exact ⟨((0 : Nat), fun _ => 0), fun q hq => by simp at hq⟩
  obtain ⟨f, hf⟩ := Classical.axiomOfChoice h
  exact ⟨fun k => (f k).1, fun k => (f k).2, fun k q hq => hf k q hq⟩
theorem arr_one {s : State} {args : Array Value} {t : FieldType} (h : (Cond.arrayClass t).before args s = true) (hne : ∀ C, t ≠ .object C) : ∃ cA, ArrOfT s cA t ∧ va_RA s cA t := by
  obtain ⟨cA, kA, comp, h1, h2, h3⟩ := Cond.arrayClass_spec h
  refine ⟨cA, fun n z => ⟨fun k h => (by cases h), kA, h2, comp, h3⟩, ?_⟩
  cases t <;> first | exact h1 | exact absurd rfl (hne _)
theorem arr_obj {s : State} {args : Array Value} {n : String} (h : (Cond.arrayOver (.object n)).before args s = true) : ∃ cA, ArrOfT s cA (.object n) ∧ va_RA s cA (.object n) := by
  obtain ⟨comp, c, k, h1, h2, h3, h4, h5⟩ := Cond.arrayOver_spec h
  exact ⟨c, fun N z => ⟨fun k h => (by cases h), k, h3, comp, h4⟩, k, comp, h3, h4, h1, h5⟩
theorem arr_arr {s : State} {args : Array Value} {t : FieldType} (h : (Cond.arrayOver (.array t)).before args s = true) : ∃ cA, ArrOfT s cA (.array t) ∧ va_RA s cA (.array t) := by
  obtain ⟨comp, c, k, h1, h2, h3, h4, h5⟩ := arrayOverA_spec h
  exact ⟨c, fun N z => ⟨fun k h => (by cases h), k, h3, comp, h4⟩, h5⟩
theorem arr_all {s : State} {args : Array Value} (hts : ∀ w ∈ lw_tbl, w.before args s = true) : ∃ E : Nat → ClassId, ∀ (k : Nat) (q : ClassId × FieldType), (tysOf E)[k]? = some q → ArrOfT s q.1 q.2 ∧ va_RA s q.1 q.2 := by
  obtain ⟨c0, h0⟩ := arr_one (hts (.arrayClass .int) (List.mem_of_getElem? (i := 172) (by decide +kernel))) (fun C h => by cases h)
  obtain ⟨c1, h1⟩ := arr_one (hts (.arrayClass .long) (List.mem_of_getElem? (i := 1455) (by decide +kernel))) (fun C h => by cases h)
  obtain ⟨c2, h2⟩ := arr_one (hts (.arrayClass .boolean) (List.mem_of_getElem? (i := 1456) (by decide +kernel))) (fun C h => by cases h)
  obtain ⟨c3, h3⟩ := arr_arr (hts (.arrayOver (.array .int)) (List.mem_of_getElem? (i := 457) (by decide +kernel)))
  obtain ⟨c4, h4⟩ := arr_obj (hts (.arrayOver (.object "ThrownVoices$State")) (List.mem_of_getElem? (i := 437) (by decide +kernel)))
  refine ⟨fun k => match k with | 0 => c0 | 1 => c1 | 2 => c2 | 3 => c3 | _ => c4, fun k q hq => ?_⟩
  match k, hq with
  | 0, hq => cases hq; exact h0
  | 1, hq => cases hq; exact h1
  | 2, hq => cases hq; exact h2
  | 3, hq => cases hq; exact h3
  | 4, hq => cases hq; exact h4
  | k + 5, hq => simp [tysOf] at hq
theorem nest_all {s : State} {args : Array Value} (hts : ∀ w ∈ lw_tbl, w.before args s = true) : NExt xNest s := by
  refine ⟨fun w hw => ?_, va_AO.of (hts (.arrayOver (.object "ThrownVoices$State")) (List.mem_of_getElem? (i := 437) (by decide +kernel))), hts (.arrayOver (.array .int)) (List.mem_of_getElem? (i := 457) (by decide +kernel))⟩
  have hall : ∀ x ∈ xNest, x ∈ lw_tbl := by
    intro x hx
    simp only [xNest, List.mem_cons, List.not_mem_nil, or_false] at hx
    rcases hx with h | h | h | h | h | h
    · rw [h]; exact List.mem_of_getElem? (i := 154) (by decide +kernel)
    · rw [h]; exact List.mem_of_getElem? (i := 175) (by decide +kernel)
    · rw [h]; exact List.mem_of_getElem? (i := 181) (by decide +kernel)
    · rw [h]; exact List.mem_of_getElem? (i := 187) (by decide +kernel)
    · rw [h]; exact List.mem_of_getElem? (i := 289) (by decide +kernel)
    · rw [h]; exact List.mem_of_getElem? (i := 348) (by decide +kernel)
  have hb := hts w (hall w hw)
  simp only [xNest, List.mem_cons, List.not_mem_nil, or_false] at hw
  rcases hw with h | h | h | h | h | h <;> subst h <;> exact ⟨⟨_, _, _, _, rfl⟩, va_Nw.of rfl hb⟩
theorem tx_of {s : State} {args : Array Value} {A : Nat → Prop} {own : String} {idx : Nat} {bs : List Int} (hlen : bs.length < 2 ^ 31) (hex : (Cond.exactly (.string own idx) "java/lang/String").before args s = true) (hco : (Cond.eq (.field (.string own idx) "java/lang/String" "coder" "B") (.int 0)).before args s = true)
    (har : (Cond.arrayOf (.field (.string own idx) "java/lang/String" "value" "[B") .byte).before args s = true) (hle : (Cond.eq (.length (.field (.string own idx) "java/lang/String" "value" "[B")) (.int (Int32.ofNat bs.length))).before args s = true)
    (hel : ∀ j : Nat, j < bs.length → (Cond.eq (.elem (.field (.string own idx) "java/lang/String" "value" "[B") (.int (Int32.ofNat j))) (.int ((bs.map Int32.ofInt).getD j 0))).before args s = true) (hA : ∀ a : Nat, a < s.heap.size → ¬ A a) :
    ∃ a v : Nat, SX A a v bs s ∧ (Term.string own idx).eval args s none [] s = some (.ref a) := by
  have z : ∀ i : Nat, i < 1 → i = 0 := fun i hi => by omega
  obtain ⟨adK, adV, hS, hE⟩ := vk_Sof (args := args) (s := s) (N := 1) (tm := fun _ => .string own idx) (len := [bs.length]) (byt := [bs.map Int32.ofInt]) (A := A) (fun i hi => by rw [z i hi]; exact hlen) (fun _ _ => hex) (fun _ _ => hco) (fun _ _ => har) (fun i hi => by rw [z i hi]; exact hle) (fun i hi j hj => by rw [z i hi] at hj ⊢; exact hel j hj) (fun i j hi hj hij => absurd ((z i hi).trans (z j hj).symm) hij) hA
  obtain ⟨q1, q2, q3, q4⟩ := hS.1 0 (by omega)
  refine ⟨adK 0, adV 0, ⟨q1, q2, q3, ?_⟩, hE 0 (by omega)⟩
  have e : (fun j => Value.int ((([bs.map Int32.ofInt] : List (List Int32)).getD 0 []).getD j 0)) = (fun j => vI (bs.getD j 0)) := by
    funext j
    show Value.int ((bs.map Int32.ofInt).getD j 0) = Value.int (Int32.ofInt (bs.getD j 0))
    congr 1
    rw [List.getD_eq_getElem?_getD, List.getD_eq_getElem?_getD, List.getElem?_map]
    cases bs[j]? <;> rfl
  rw [e] at q4
  exact q4
set_option maxRecDepth 100000 in
theorem text_all {s : State} {args : Array Value} (hts : ∀ w ∈ lw_tbl, w.before args s = true) (hg : (Jvm.Cond.and given_1 narrow_1).before args s = true) : ∃ σ : Nat → Nat, xExt σ s.heap.size s := by
  have hs := flat_of_before _ hg
  have hA : ∀ a : Nat, a < s.heap.size → ¬ AW s.heap.size xN a := fun a h q => by have := q.1; omega
  have f0 : ∀ j : Nat, j < 138 → (Cond.eq (.elem (.field (.string "ThrownVoices$Word" 11) "java/lang/String" "value" "[B") (.int (Int32.ofNat j))) (.int ((xT0.map Int32.ofInt).getD j 0))) ∈ flatC (Jvm.Cond.and given_1 narrow_1) := by decide +kernel
  have f1 : ∀ j : Nat, j < 14 → (Cond.eq (.elem (.field (.string "ThrownVoices$Tokens" 65) "java/lang/String" "value" "[B") (.int (Int32.ofNat j))) (.int ((xT1.map Int32.ofInt).getD j 0))) ∈ flatC (Jvm.Cond.and given_1 narrow_1) := by decide +kernel
  have l0 : xT0.length = 138 := by decide +kernel
  have l1 : xT1.length = 14 := by decide +kernel
  obtain ⟨a0, v0, t0, e0⟩ := tx_of (s := s) (args := args) (A := AW s.heap.size xN) (own := "ThrownVoices$Word") (idx := 11) (bs := xT0) (by rw [l0]; omega) (hs _ (by decide +kernel)) (hs _ (by decide +kernel)) (hs _ (by decide +kernel)) (by rw [l0]; exact hs _ (by decide +kernel)) (fun j hj => hs _ (f0 j (by rw [l0] at hj; exact hj))) hA
  obtain ⟨a1, v1, t1, e1⟩ := tx_of (s := s) (args := args) (A := AW s.heap.size xN) (own := "ThrownVoices$Tokens") (idx := 65) (bs := xT1) (by rw [l1]; omega) (hs _ (by decide +kernel)) (hs _ (by decide +kernel)) (hs _ (by decide +kernel)) (by rw [l1]; exact hs _ (by decide +kernel)) (fun j hj => hs _ (f1 j (by rw [l1] at hj; exact hj))) hA
  have hz := va_Zof (A := AW s.heap.size xN) (hts (.laysStatic "java/lang/String" "COMPACT_STRINGS" "Z") (List.mem_of_getElem? (i := 628) (by decide +kernel))) (hts (.initialized "java/lang/String") (List.mem_of_getElem? (i := 136) (by decide +kernel))) (va_eqi (z := 1) (hs _ (by decide +kernel))) hA
  have hq := va_Zqof (A := AW s.heap.size xN) (hts (.laysStatic "jdk/internal/util/Preconditions" "SIOOBE_FORMATTER" "Ljava/util/function/BiFunction;") (List.mem_of_getElem? (i := 644) (by decide +kernel))) (hts (.initialized "jdk/internal/util/Preconditions") (List.mem_of_getElem? (i := 138) (by decide +kernel))) (hs _ (by decide +kernel)) hA
  refine ⟨fun k => match k with | 0 => a0 | 1 => v0 | 2 => a1 | _ => v1, ⟨hz, ?_⟩, vk_R.of (hts _ (List.mem_of_getElem? (i := 618) (by decide +kernel))) e0, t0, vk_R.of (hts _ (List.mem_of_getElem? (i := 671) (by decide +kernel))) e1, t1⟩
  rcases hq with hq | ⟨t, hq⟩
  · exact ⟨.null, Or.inl rfl, hq⟩
  · exact ⟨.ref t, Or.inr ⟨t, rfl⟩, hq⟩
section STARTS
variable {p : Program} {l : Launch} {e : Env} {R : Room} {s : State} {m : MethodId} {args : Array Value} {below : List Frame} {meth : Method} {c : Code} {cc : ByteArray} {nL : Nat} {own : String} {D : va_G} {E : Nat → ClassId} {bX bM ce sl n1 mc ms : Nat} {Rf Rf1 : Nat → Nat → Nat} {Q : State → Prop} {Mx M M1 : Mem} {pc : Nat} {rest : List Value} {H : Heap} {locs : List Loc} {ls : Array Slot}
/-- the size of the heap, where the second world has n objects -/
theorem st_size (hbX : s.heap.size = bX) (hbM : bM = bX + xN) {n : Nat} (hce : ce = xN + n) (hP : va_P D vwCl (Wd E xSh bX xN xRf Mx) H) (hP2 : va_P D vwCl (Wd E mSh bM n Rf M) H) {g : JFrame} (k : H.size = bM + n → W p l e R s m args below meth c H locs ce sl Q g) : W p l e R s m args below meth c H locs ce sl Q g := by
  intro T hT X
  refine k ?_ T hT X
  have h1 := X.heapSize
  rw [hT] at h1
  have h3 : bX + (xN - 1) < H.size := (hP (xN - 1) _ (Wd_at (by decide))).lt
  have hx : 0 < xN := by decide
  cases n with
  | zero => omega
  | succ i =>
    have h4 : bM + i < H.size := (hP2 i _ (Wd_at (Nat.lt_succ_self i))).lt
    omega
theorem st_new (C : CX p s m args meth c cc nL own D E vwCl (NExt xNest) (fun q => s.heap.size ≤ q)) (hbX : s.heap.size = bX) (hbM : bM = bX + xN) {idx ci N : Nat} {kds : List Nat} (hn : NL vwCl own idx ci kds N) (hs : mSh 0 = (ci + 4, kds)) (h0 : ∀ j, Rf 0 j = 0) (hm : ∀ j, M 0 j = 0) (hce : ce = xN) (hr : ce + 1 ≤ R.cells) (hsl : sl + N ≤ R.slots) (hP : va_P D vwCl (Wd E xSh bX xN xRf Mx) H) (hS : va_S (fun q => s.heap.size ≤ q) s.heap H locs) (d : decode cc pc = .ok (.new idx, 3))
    (kk : ∀ H1 : Heap, va_P D vwCl (Wd E xSh bX xN xRf Mx) H1 → va_P D vwCl (Wd E mSh bM 1 Rf M) H1 → va_S (fun q => s.heap.size ≤ q) s.heap H1 locs → W p l e R s m args below meth c H1 locs (ce + 1) (sl + N) Q (F0 m (pc + 3) ls (vR bM 0 :: rest))) : W p l e R s m args below meth c H locs ce sl Q (F0 m pc ls rest) := by
  obtain ⟨CN, T, ty, h1, hlen, h2, h3, h4, h5, h6, h7⟩ := hn
  have ok : ∀ w ∈ gws, w.before args s = true := C.2.2.2.2.1
  have hKn := C.2.2.2.2.2.1.1 ci _ h1
  refine st_size (n := 0) (M := M) (Rf := Rf) (E := E) hbX hbM hce hP (fun k x hx => by simp [Wd] at hx) (fun hz => ?_)
  refine W.newcK C.1 C.2.1 C.2.2.2.1 (ok _ h5) (ok _ h6) (ok _ h7) rfl d hr hsl hKn.2.1 hz fun H1 kC hkC e1 z1 o1 => ?_
  have hk : ∀ (k : Nat) (x : Nat × va_E), (Wd E xSh bX xN xRf Mx)[k]? = some x → H1[x.1]? = H[x.1]? := fun k x hx => o1 x.1 (by rw [← hz]; exact (hP k x hx).lt)
  refine kk H1 (hP.kept hk) (fun k x hx => ?_) ⟨Nat.le_trans hS.1 (by omega), fun x h1 h2 => (o1 x (by rw [← hz]; exact Nat.lt_of_lt_of_le h1 hS.1)).trans (hS.2.1 x h1 h2), hS.2.2⟩
  have hzk : k < 1 := (Wd_key hx).1
  rw [show k = 0 by omega] at hx
  rw [Wd_at (by omega)] at hx
  cases hx
  show va_at D vwCl (bM + 0, _) H1
  rw [hs, cellE_obj]
  refine ⟨_, h1, (u_born ty ok h2 hKn hkC e1 h3).to fun j hj => ?_⟩
  rw [h4 j hj]
  show _ = (List.mapIdx _ kds).getD j Value.null
  simp only [List.getD_eq_getElem?_getD, List.getElem?_mapIdx]
  have hj' : j < kds.length := by rw [hlen]; exact hj
  rw [List.getElem?_eq_getElem hj']
  exact (slotV_0 h0 hm j _).symm
theorem st_call (C : CX p s m args meth c cc nL own D E vwCl (NExt xNest) (fun q => s.heap.size ≤ q)) (hbX : s.heap.size = bX) (hbM : bM = bX + xN) {idx yL rf rl : Nat} {y : MethodName} {yc : ByteArray} {lv : List (Nat × Value)}
    (hM : CtN l y yc yL rf rl vwCl mSh (NExt xNest) (fun b => [vR b 0]) 1 n1 Rf Rf1 M M1 mc ms) (hc : CLI own idx y yc yL 0) (hce : ce = xN + 1) (hR : rf + 1 ≤ R.frames ∧ 8 + (yL + 11) + rl ≤ R.locals) (hcm : ce + mc ≤ R.cells) (hsl : sl + ms ≤ R.slots) (hrest : (rest.map fun v => v.category).sum ≤ 8)
    (hP : va_P D vwCl (Wd E xSh bX xN xRf Mx) H) (hP2 : va_P D vwCl (Wd E mSh bM 1 Rf M) H) (hS : va_S (fun q => s.heap.size ≤ q) s.heap H locs) (hl : lv_has ls nL lv) (d : decode cc pc = .ok (.invokespecial idx, 3))
    (kk : ∀ (H1 : Heap) (L : List Loc), va_P D vwCl (Wd E xSh bX xN xRf Mx) H1 → va_P D vwCl (Wd E mSh bM n1 Rf1 M1) H1 → va_S (fun q => s.heap.size ≤ q) s.heap H1 L → W p l e R s m args below meth c H1 L (ce + mc) (sl + ms) Q (F0 m (pc + 3) ls rest)) : W p l e R s m args below meth c H locs ce sl Q (F0 m pc ls (vR bM 0 :: rest)) := by
  obtain ⟨c1, c2, c3, c4, c5, c6, c7⟩ := hc
  have ok : ∀ w ∈ gws, w.before args s = true := C.2.2.2.2.1
  have hM' := hM D E bM
  refine st_size (n := 1) hbX hbM hce hP hP2 (fun hz => ?_)
  have hpn : ∀ U : State, U.heap = H → s.WarmedH U.vm → PN [vR bM 0] D vwCl E mSh bM 1 Rf (NExt xNest) M (Value.ref (bM + 0) :: ([] : List Value)).toArray U := fun U hU hW =>
    ⟨rfl, by rw [hU]; exact hz, by rw [hU]; exact hP2, va_K.moved hW.alike C.2.2.2.2.2.1, C.2.2.2.2.2.2.2 U hW (by rw [hU]; exact hS.1) (fun q h1 h2 => by rw [hU]; exact hS.2.1 q h1 h2)⟩
  have hrun := va_runI (R := R) (locs := locs) (cells := ce) (slots := sl) (g := F0 m pc ls (vR bM 0 :: rest)) (l := l) (p := p) (e := e) (below := below) (meth := meth) (b := bM + 0) (As := []) (rest := rest) (n := 0) ⟨C.1, C.2.1, C.2.2.1, C.2.2.2.1, ok⟩ hM' ⟨⟨rfl, rfl, hR.1, hR.2, pay_in ok (goodIn_gws c5), List.mem_cons_self, ok _ c5, ok _ c4, c6, fun sig h => by rw [h] at c7; exact (Option.some.inj c7).symm, ok _ c1⟩, c3, ok _ c2⟩ ⟨PN_blind (NExt_ok xNest _), hpn⟩ rfl rfl hl.1 rfl (lv_room hrest) d ⟨hcm, hsl⟩
  intro T hT X
  obtain ⟨v, st₀, t, T', L, h0, X', hL, e1, e2, ⟨hv, hb, hz2, hk⟩, sq⟩ := hrun T hT X
  have hv' : v = none := by cases hv; rfl
  subst hv'
  rw [h0] at hz2 hk
  have hbs : s.heap.size ≤ bM := by omega
  obtain ⟨t2, a1, b1⟩ := kk T'.heap (locs ++ L) (hP.kept (fun i z hi => by
      obtain ⟨w1, w2⟩ := Wd_key hi
      rw [e1]
      exact hk _ ((hP i z hi).lt) (fun w => by have w' : bM ≤ z.1 := w; omega))) (by rw [e1]; exact hb)
    ⟨Nat.le_trans hS.1 (by rw [e1]; exact hz2), fun q h1 h2 => by rw [e1, hk q (Nat.lt_of_lt_of_le h1 hS.1) (fun w => h2 (Nat.le_trans hbs w))]; exact hS.2.1 q h1 h2, fun q hq => by
      rcases List.mem_append.mp hq with h | h
      · exact hS.2.2 q h
      · exact Nat.le_trans hbs (hL q h)⟩ T' rfl X'
  exact ⟨t2, sq t2 a1, b1⟩
end STARTS
