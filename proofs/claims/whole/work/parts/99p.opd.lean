/-! THE PURE PART: town: turns of the reference's loop; what it takes as an operand -/
def RdTo (k : Nat) (M M1 : Mem) (s : Int) : Prop := ∀ N, itr2 m_reads_L43 (N + k) 1 M = itr2 m_reads_L43 N s M1
theorem RdTo_trans {k1 k2 : Nat} {M M1 M2 : Mem} {s : Int} (h : RdTo k1 M M1 1) (k : RdTo k2 M1 M2 s) : RdTo (k1 + k2) M M2 s := fun N => by
  have e1 := h (N + k2)
  have e2 := k N
  rw [← e2, ← e1]
  congr 1
  omega
theorem RdTo_refl (M : Mem) : RdTo 0 M M 1 := fun N => rfl
theorem turn_opd {M M3 : Mem} {b : Bool} (h42 : M 0 42 = 0) (e : m_operand M = some (b, M3)) (h8 : M3 0 8 = 0 ∨ (1 ≤ M3 0 8 ∧ M3 0 8 ≤ 6)) : RdTo 1 M (upM M3 0 42 (b2i b)) (if M3 0 8 = 0 then 1 else 0) := by
  intro N
  obtain ⟨rec, hrec⟩ : ∃ r, r = itr2 m_reads_L43 N := ⟨_, rfl⟩
  show m_reads_L43 (itr2 m_reads_L43 N) 1 M = itr2 m_reads_L43 N _ _
  rw [← hrec]
  unfold m_reads_L43 chk m_reads_L43_B70
  dsimp only [lt]
  rw [h42, e, bnd2_some, w32_0, w32_eq (x := (1 : Int)) (by omega) (by omega), if_neg (by omega), if_neg (by omega), if_pos (b2i01 b), if_neg (by omega), up_i (by omega)]
  by_cases h : M3 0 8 = 0
  · rw [if_pos h, h, w32_0, if_neg (by omega)]
  · rw [if_neg h, w32_eq (x := M3 0 8) (by omega) (by omega), if_pos h]
theorem turn_goes {M M2 : Mem} {b : Bool} (h42 : M 0 42 = 1) (e : m_goesOn M = some (b, M2)) (h8 : M2 0 8 = 0 ∨ (1 ≤ M2 0 8 ∧ M2 0 8 ≤ 6)) : RdTo 1 M M2 (if b = true ∧ M2 0 8 = 0 then 1 else 0) := by
  intro N
  obtain ⟨rec, hrec⟩ : ∃ r, r = itr2 m_reads_L43 N := ⟨_, rfl⟩
  show m_reads_L43 (itr2 m_reads_L43 N) 1 M = itr2 m_reads_L43 N _ _
  rw [← hrec]
  unfold m_reads_L43 chk m_reads_L43_B70
  dsimp only [lt]
  have w1 : w32 1 = 1 := w32_eq (by omega) (by omega)
  rw [h42, e, bnd2_some, w1, if_neg (by omega), if_pos (by omega)]
  cases b with
  | false =>
    show (if w32 0 = 0 then rec 0 M2 else _) = _
    rw [w32_0, if_pos rfl, if_neg (by simp)]
  | true =>
    show (if w32 1 = 0 then rec 0 M2 else _) = _
    rw [w1, if_neg (by omega)]
    by_cases h : M2 0 8 = 0
    · have e0 : w32 (M2 0 8) = 0 := by rw [h]; exact w32_0
      rw [if_neg (fun q => q e0), if_pos ⟨rfl, h⟩]
    · have e0 : ¬ w32 (M2 0 8) = 0 := by rw [w32_eq (x := M2 0 8) (by omega) (by omega)]; exact h
      rw [if_pos e0, if_neg (fun q => h q.2)]
theorem ifd {α : Type} {p : Prop} [Decidable p] {x y : α} : (if decide p = true then x else y) = if p then x else y := by
  by_cases h : p <;> simp [h]
theorem m_blame_eq {M : Mem} {a b : Int} (h : M 0 8 = 0) : m_blame a b M = some (upM (upM M 0 8 a) 0 9 b) := by
  unfold m_blame
  rw [h, w32_0, if_pos (by omega)]
  rfl
theorem m_blame_f {M : Mem} {a b : Int} (h : 1 ≤ M 0 8 ∧ M 0 8 ≤ 6) : m_blame a b M = some M := by
  unfold m_blame
  rw [w32_eq (x := M 0 8) (by omega) (by omega), if_neg (by omega)]
theorem lex_cases {C : Mem} {j : Nat} {M : Mem} (h : Cur C j M) : (C 0 j = 26 ∧ 0 ≤ C 1 j ∧ m_lex M = some (upM (upM M 0 8 1) 0 9 (C 1 j))) ∨ (m_lex M = some M ∧ M 0 4 = C 1 j ∧ 0 ≤ C 1 j ∧ Good (C 0 j) (C 2 j) M) := by
  obtain ⟨h1, -, -, -, h5⟩ := h
  unfold m_lex
  have w1 : w32 (-1) = -1 := w32_eq (by omega) (by omega)
  rcases h5 with ⟨a, b, c, d⟩ | ⟨a, b, c, d, e⟩
  · refine Or.inl ⟨a, c, ?_⟩
    rw [b, w1, w32_eq (x := C 1 j) (by omega) (by omega), if_neg (by omega), m_blame_eq h1, bnd_some]
  · refine Or.inr ⟨?_, b, c, e⟩
    rw [a, if_pos rfl]
abbrev isT (f : Fr) : Prop := f.1 = 1 ∨ f.1 = 5 ∨ f.1 = 6
theorem m_isTest_eq {x : Int} (h : 0 ≤ x ∧ x ≤ 6) : m_isTest x = some (decide (x = 1 ∨ x = 5 ∨ x = 6)) := by
  have key : ∀ n : Nat, n < 7 → m_isTest (n : Int) = some (decide ((n : Int) = 1 ∨ (n : Int) = 5 ∨ (n : Int) = 6)) := by decide +kernel
  obtain ⟨n, rfl⟩ := Int.eq_ofNat_of_zero_le (a := x) (by omega)
  exact key n (by omega)
def srt (K : Int) : Int := if K = 24 then 0 else if K = 11 then 1 else if K = 12 then 2 else if K = 13 then 3 else if K = 10 then 4 else if K = 7 then 5 else if K = 14 then 6 else if K = 15 then 7 else if K = 8 then 8 else -1
theorem srt_rng (K : Int) : -1 ≤ srt K ∧ srt K ≤ 8 := by
  unfold srt
  repeat' split
  all_goals omega
theorem B171_eq {K V : Int} {M : Mem} (hg : Good K V M) : m_operand_B171 M = if K = 40 then bnd (m_opens 2 M) (fun M26 => some (false, M26)) else if K = 21 then m_operand_B249 36 M else if K = 22 then m_operand_B249 37 M else if K = 16 then m_operand_B249 44 M else m_operand_B441 (srt K) M := by
  have s40 := tok_sign hg (c := 40) (by unfold signK; omega)
  have w21 : m_isWord 7170414 M = some (decide (K = 21)) := tok_word hg 21 (by omega)
  have w22 : m_isWord 7168376 M = some (decide (K = 22)) := tok_word hg 22 (by omega)
  have w16 : m_isWord 26982 M = some (decide (K = 16)) := tok_word hg 16 (by omega)
  have w11 : m_isWord 1953459813 M = some (decide (K = 11)) := tok_word hg 11 (by omega)
  have w12 : m_isWord 512735409267 M = some (decide (K = 12)) := tok_word hg 12 (by omega)
  have w13 : m_isWord 120299592184933 M = some (decide (K = 13)) := tok_word hg 13 (by omega)
  have w10 : m_isWord 1819242087 M = some (decide (K = 10)) := tok_word hg 10 (by omega)
  have w7 : m_isWord 482805572456 M = some (decide (K = 7)) := tok_word hg 7 (by omega)
  have w14 : m_isWord 1819238756 M = some (decide (K = 14)) := tok_word hg 14 (by omega)
  have w15 : m_isWord 1651864441 M = some (decide (K = 15)) := tok_word hg 15 (by omega)
  have w8 : m_isWord 1667329133 M = some (decide (K = 8)) := tok_word hg 8 (by omega)
  have hn := (tok_num hg).1
  unfold m_operand_B171 m_operand_B217 srt
  rw [s40, w21, w22, w16, w11, w12, w13, w10, w7, w14, w15, w8]
  simp only [bnd_some, ifd]
  by_cases h40 : K = 40
  · rw [if_pos h40, if_pos h40]
  rw [if_neg h40, if_neg h40]
  by_cases h21 : K = 21
  · rw [if_pos h21, if_pos h21, if_pos h21]
  rw [if_neg h21, if_neg h21, if_neg h21]
  by_cases h22 : K = 22
  · rw [if_pos h22, if_pos h22, if_pos h22]
  rw [if_neg h22, if_neg h22, if_neg h22]
  by_cases h16 : K = 16
  · rw [if_pos h16, if_pos h16]
  rw [if_neg h16, if_neg h16]
  by_cases h24 : K = 24
  · rw [if_neg (fun q => q (hn ▸ h24)), if_pos h24]
  rw [if_pos (fun q => h24 (hn ▸ q)), if_neg h24]
  by_cases h11 : K = 11
  · rw [if_pos h11, if_pos h11]
  rw [if_neg h11, if_neg h11]
  by_cases h12 : K = 12
  · rw [if_pos h12, if_pos h12]
  rw [if_neg h12, if_neg h12]
  by_cases h13 : K = 13
  · rw [if_pos h13, if_pos h13]
  rw [if_neg h13, if_neg h13]
  by_cases h10 : K = 10
  · rw [if_pos h10, if_pos h10]
  rw [if_neg h10, if_neg h10]
  by_cases h7 : K = 7
  · rw [if_pos h7, if_pos h7]
  rw [if_neg h7, if_neg h7]
  by_cases h14 : K = 14
  · rw [if_pos h14, if_pos h14]
  rw [if_neg h14, if_neg h14]
  by_cases h15 : K = 15
  · rw [if_pos h15, if_pos h15]
  rw [if_neg h15, if_neg h15]
  by_cases h8 : K = 8
  · rw [if_pos h8, if_pos h8]
  rw [if_neg h8, if_neg h8]
/-- whether the rule w may ask this -/
abbrev maySo (w : Nat) (so : Int) : Prop := 0 ≤ so ∧ (so < 5 ∨ (so = 5 ∧ w ≠ 2) ∨ (so = 6 ∧ w = 0) ∨ (so = 7 ∧ w = 1) ∨ (so = 8 ∧ w = 2))
theorem B441_eq {w : Nat} {so : Int} {M : Mem} (hw : w < 3) (hl : M 0 32 = (w : Int)) (h8 : M 0 8 = 0) (hso : -1 ≤ so ∧ so ≤ 8) :
    (maySo w so → m_operand_B441 so M = bnd (m_add so (M 0 6) M) (fun M22 => bnd (m_ahead M22) (fun M23 => some (true, M23)))) ∧ (¬ maySo w so → m_operand_B441 so M = some (true, upM (upM M 0 8 1) 0 9 (M 0 4))) := by
  have w5 : w32 5 = 5 := w32_eq (by omega) (by omega)
  have ws : w32 so = so := w32_eq (by omega) (by omega)
  have wm : w32 (-1) = -1 := w32_eq (by omega) (by omega)
  have good : ∀ s : Int, 0 ≤ s → s ≤ 8 → m_operand_B457 s M = bnd (m_add s (M 0 6) M) (fun M22 => bnd (m_ahead M22) (fun M23 => some (true, M23))) := fun s g1 g2 => by
    unfold m_operand_B457 m_operand_B471
    rw [w32_eq (x := s) (by omega) (by omega), wm, if_pos (by omega), h8, w32_0, if_pos (by omega)]
  have bad : m_operand_B457 (-1) M = some (true, upM (upM M 0 8 1) 0 9 (M 0 4)) := by
    unfold m_operand_B457 m_operand_B471
    rw [wm, if_neg (by omega), m_blame_eq h8, bnd_some, up_i (by omega), up_e, w32_eq (x := (1 : Int)) (by omega) (by omega), if_neg (by omega)]
  unfold m_operand_B441
  rw [ws, w5]
  by_cases h5 : so < 5
  · rw [if_pos h5]
    refine ⟨fun h => good so h.1 (by omega), fun h => ?_⟩
    have : so = -1 := by unfold maySo at h; omega
    rw [this]; exact bad
  · rw [if_neg h5]
    have hof : m_isOf so M = some (decide (maySo w so)) := by
      have key : ∀ ww : Nat, ww < 3 → ∀ s : Nat, s < 9 → 5 ≤ s → (if ¬ w32 (s : Int) = w32 5 then (if ¬ w32 (s : Int) = w32 6 then (if ¬ w32 (s : Int) = w32 7 then (if ¬ w32 (ww : Int) = w32 2 then some false else some true) else (if ¬ w32 (ww : Int) = w32 1 then some false else some true)) else (if ¬ w32 (ww : Int) = w32 0 then some false else some true)) else (if w32 (ww : Int) = w32 2 then some false else some true)) = some (decide ((s = 5 ∧ ww ≠ 2) ∨ (s = 6 ∧ ww = 0) ∨ (s = 7 ∧ ww = 1) ∨ (s = 8 ∧ ww = 2))) := by decide +kernel
      obtain ⟨n, rfl⟩ := Int.eq_ofNat_of_zero_le (a := so) (by omega)
      unfold m_isOf
      rw [hl, key w hw n (by omega) (by omega)]
      congr 1
      apply decide_eq_decide.mpr
      unfold maySo
      omega
    rw [hof, bnd_some, ifd]
    refine ⟨fun h => ?_, fun h => ?_⟩
    · rw [if_pos h]; exact good so h.1 (by omega)
    · rw [if_neg h]; exact bad
section OPD
variable {C : Mem} {cnt inb w j o : Nat} {b : Int} {L : List (Int × Int)} {stk : List Fr} {ops : List Int} {X M : Mem} {f : Fr}
/-- the first look: whether not, [ or all may stand here -/
theorem opd_head (h : MS C inb w j o 0 L [] (f :: stk) ops X M) (hl : m_lex M = some M) (hstk : stk.length < 19) (hf : 0 ≤ f.1 ∧ f.1 ≤ 6) (hb : f.2.2.1 = 0 ∨ f.2.2.1 = 1) :
    m_operand M = m_operand_B46 (stk.length : Int) (if isT f ∧ f.2.2.1 = 1 then 1 else 0) M := by
  obtain ⟨-, ⟨h8, -⟩, s1, s2, s3, s4, ⟨⟨f1, f2, f3, f4, f5⟩, f6⟩, s6, s7, s8, s9⟩ := h
  unfold m_operand chk
  dsimp only [lt]
  have t : (((f :: stk).length : Int) - 1) = (stk.length : Int) := by rw [List.length_cons]; omega
  rw [hl, bnd_some, h8, w32_0, if_pos (by omega), s4, t, if_pos (by omega), if_pos (by omega), Int.toNat_natCast, f1, m_isTest_eq hf, bnd_some, ifd, f3]
  unfold m_operand_B45
  by_cases ht : f.1 = 1 ∨ f.1 = 5 ∨ f.1 = 6
  · rw [if_pos ht]
    rcases hb with e | e
    · rw [e, w32_0, if_pos rfl, if_neg (by omega)]
    · rw [e, w32_eq (x := (1 : Int)) (by omega) (by omega), if_neg (by omega), if_pos ⟨ht, rfl⟩]
  · rw [if_neg ht, if_neg (fun q => ht q.1)]
/-- a sum's part is wanted -/
theorem opd_part (h : MS C inb w j o 0 L [] (f :: stk) ops X M) (hl : m_lex M = some M) (hg : Good (C 0 j) (C 2 j) M) (hstk : stk.length < 19) (hf : 0 ≤ f.1 ∧ f.1 ≤ 6) (hb : f.2.2.1 = 0 ∨ f.2.2.1 = 1) (hn : isT f → f.2.2.1 = 1 → C 0 j ≠ 19 ∧ C 0 j ≠ 91 ∧ C 0 j ≠ 20) :
    m_operand M = m_operand_B171 (upM M 20 stk.length 0) := by
  rw [opd_head h hl hstk hf hb]
  have w19 : m_isWord 7237492 M = some (decide (C 0 j = 19)) := tok_word hg 19 (by omega)
  have hg2 : Good (C 0 j) (C 2 j) (upM M 20 stk.length 0) := Good_of hg (up_k (by omega)) (up_k (by omega)) (up_k (by omega))
  have w20 : m_isWord 6384748 (upM M 20 stk.length 0) = some (decide (C 0 j = 20)) := tok_word hg2 20 (by omega)
  have s91 := tok_sign hg2 (c := 91) (by unfold signK; omega)
  have w1 : w32 1 = 1 := w32_eq (by omega) (by omega)
  unfold m_operand_B46 m_operand_B110 m_operand_B137 chk
  dsimp only [lt]
  have hlt : 0 ≤ (stk.length : Int) ∧ (stk.length : Int) < 20 := by omega
  rw [Int.toNat_natCast, if_pos hlt, w19, s91, w20]
  simp only [bnd_some, ifd]
  by_cases hq : isT f ∧ f.2.2.1 = 1
  · obtain ⟨n1, n2, n3⟩ := hn hq.1 hq.2
    rw [if_pos hq, w1, if_neg (by omega), if_neg n1, if_neg (by omega), if_neg n2, if_neg (by omega), if_neg n3]
  · rw [if_neg hq, w32_0, if_pos rfl, if_pos rfl, if_pos rfl]
end OPD
