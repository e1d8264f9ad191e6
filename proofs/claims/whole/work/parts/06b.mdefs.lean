/-! THE FUNCTIONS OF THE REFERENCE (taken out of the walks by wip/whole/gen/split.py) -/
def m_is (x0 : Int) (x1 : Int) (x2 : Int) : Option (Bool) :=
  (if w32 x0 < w32 x1 then some false else (if w32 x2 < w32 x0 then some false else some true))
def m_put_L3 (v1 : Int) (rec : Int → Mem → Option (Int × Mem)) (v2 : Int) (M : Mem) : Option (Int × Mem) :=
  (if w32 v2 < 0 then some (v2, M) else chk (0 ≤ (M 0 1) ∧ (M 0 1) < 1800) (lt (upM M 1 (M 0 1).toNat (and32 (shr32 v1 v2) 255)) (fun M_22 => lt (upM M_22 0 1 ((M_22 0 1) + 1)) (fun M_30 => lt (v2 + (-8)) (fun v2_33 => rec v2_33 M_30)))))
def m_put (x1 : Int) (M : Mem) : Option (Mem) :=
  bnd (itr2 (m_put_L3 x1) FUEL 24 M) (fun q1 => match q1 with | (v2_1, M_1) => some M_1)
def m_refuses (x1 : Int) (M : Mem) : Option (Int × Mem) :=
  chk (0 ≤ x1 ∧ x1 < 6) (chk (0 ≤ x1 ∧ x1 < 6) (lt (upM M 24 x1.toNat ((M 24 x1.toNat) + 1)) (fun M_9 => some ((-1), M_9))))
def m_feed (x1 : Int) (x2 : Int) (x3 : Int) (x4 : Int) (x5 : Int) (M : Mem) : Option (Int × Mem) :=
  (if w32 ((M 0 1) + 20) ≤ w32 1600 then bnd (m_put x1 M) (fun M1 => bnd (m_put x2 M1) (fun M2 => bnd (m_put x3 M2) (fun M3 => bnd (m_put x4 M3) (fun M4 => bnd (m_put x5 M4) (fun M5 => some ((M5 0 1), M5)))))) else bnd2 (m_refuses 0 M) (fun r6 M6 => some (r6, M6)))
def m_end_B12 (M : Mem) : Option (Bool × Mem) :=
  bnd2 (m_refuses 0 M) (fun r1 M1 => (if w32 r1 < 0 then some (false, M1) else some (true, M1)))
def m_end (x1 : Int) (M : Mem) : Option (Bool × Mem) :=
  (if w32 x1 < 0 then m_end_B12 M else (if w32 x1 ≤ w32 (M 0 1) then lt (upM M 0 1 x1) (fun M_28 => some (true, M_28)) else m_end_B12 M))
def m_blame (x1 : Int) (x2 : Int) (M : Mem) : Option (Mem) :=
  (if w32 (M 0 8) ≤ 0 then lt (upM M 0 8 x1) (fun M_10 => lt (upM M_10 0 9 x2) (fun M_15 => some M_15)) else some M)
def m_isLetter (x0 : Int) : Option (Bool) :=
  (if w32 x0 < w32 97 then some false else (if w32 122 < w32 x0 then some false else some true))
def m_isDigit (x0 : Int) : Option (Bool) :=
  (if w32 x0 < w32 48 then some false else (if w32 57 < w32 x0 then some false else some true))
def m_lex (M : Mem) : Option (Mem) :=
  (if w32 (M 0 12) = w32 (-1) then some M else bnd (m_blame 1 (M 0 12) M) (fun M1 => some M1))
def m_ahead_L5 (M : Mem) (rec : Int → Option (Int)) (v1 : Int) : Option (Int) :=
  (if w32 (M 0 2) ≤ w32 v1 then some v1 else chk (0 ≤ v1 ∧ v1 < 1800) ((if w32 (M 1 v1.toNat) = w32 32 then lt (v1 + 1) (fun v1_35 => rec v1_35) else chk (0 ≤ v1 ∧ v1 < 1800) ((if ¬ w32 (M 1 v1.toNat) = w32 10 then some v1 else lt (v1 + 1) (fun v1_35 => rec v1_35))))))
def m_ahead_L204_B293 (rec : Int → Int → Mem → Option (Int × Int × Mem)) (v1 : Int) (v2 : Int) (v3 : Int) (v4 : Int) (v5 : Int) (M : Mem) : Option (Int × Int × Mem) :=
  (if w32 v4 ≤ w32 v5 then lt (v5 + 1) (fun v5_325 => lt (v1 + 1) (fun v1_328 => rec v1_328 v5_325 M)) else (if w32 v3 = 0 then lt (v5 + 1) (fun v5_325 => lt (v1 + 1) (fun v1_328 => rec v1_328 v5_325 M)) else chk (0 ≤ v1 ∧ v1 < 1800) (lt (upM M 0 6 (((10 * (M 0 6)) + (M 1 v1.toNat)) - 48)) (fun M_322 => lt (v5 + 1) (fun v5_325 => lt (v1 + 1) (fun v1_328 => rec v1_328 v5_325 M_322))))))
def m_ahead_L204_B263 (rec : Int → Int → Mem → Option (Int × Int × Mem)) (v1 : Int) (v2 : Int) (v3 : Int) (v4 : Int) (v5 : Int) (M : Mem) : Option (Int × Int × Mem) :=
  (if w32 v4 ≤ w32 v5 then m_ahead_L204_B293 rec v1 v2 v3 v4 v5 M else (if w32 v2 = 0 then m_ahead_L204_B293 rec v1 v2 v3 v4 v5 M else chk (0 ≤ v1 ∧ v1 < 1800) (lt (upM M 0 7 (or64 (shl64 (M 0 7) 8) (w32 (M 1 v1.toNat)))) (fun M_290 => m_ahead_L204_B293 rec v1 v2 v3 v4 v5 M_290))))
def m_ahead_L204_B243 (rec : Int → Int → Mem → Option (Int × Int × Mem)) (v1 : Int) (v2 : Int) (v3 : Int) (v4 : Int) (v5 : Int) (M : Mem) : Option (Int × Int × Mem) :=
  (if ¬ w32 v5 = w32 v4 then m_ahead_L204_B263 rec v1 v2 v3 v4 v5 M else (if ¬ w32 (M 0 12) = w32 (-1) then m_ahead_L204_B263 rec v1 v2 v3 v4 v5 M else lt (upM M 0 12 v1) (fun M_260 => m_ahead_L204_B263 rec v1 v2 v3 v4 v5 M_260)))
def m_ahead_L204 (v2 : Int) (v3 : Int) (v4 : Int) (rec : Int → Int → Mem → Option (Int × Int × Mem)) (v1 : Int) (v5 : Int) (M : Mem) : Option (Int × Int × Mem) :=
  (if w32 (M 0 2) ≤ w32 v1 then some (v1, v5, M) else (if w32 v2 = 0 then chk (0 ≤ v1 ∧ v1 < 1800) (bnd (m_isDigit (M 1 v1.toNat)) (fun r4 => (if r4 = true then m_ahead_L204_B243 rec v1 v2 v3 v4 v5 M else some (v1, v5, M)))) else chk (0 ≤ v1 ∧ v1 < 1800) (bnd (m_isLetter (M 1 v1.toNat)) (fun r5 => (if r5 = true then m_ahead_L204_B243 rec v1 v2 v3 v4 v5 M else some (v1, v5, M))))))
def m_ahead_B199 (v1 : Int) (v2 : Int) (v3 : Int) (s0 : Int) (M : Mem) : Option (Mem) :=
  bnd (itr3 (m_ahead_L204 v2 v3 s0) FUEL v1 0 M) (fun q6 => match q6 with | (v1_6, v5_6, M_6) => lt (upM M_6 0 5 v1_6) (fun M_336 => some M_336))
def m_ahead_B186 (v1 : Int) (v2 : Int) (v3 : Int) (s1 : Int) (M : Mem) : Option (Mem) :=
  lt (upM M 0 3 s1) (fun M_186 => (if w32 v2 = 0 then m_ahead_B199 v1 v2 v3 4 M_186 else m_ahead_B199 v1 v2 v3 6 M_186))
def m_ahead_B176 (v1 : Int) (v2 : Int) (v3 : Int) (M : Mem) : Option (Mem) :=
  (if w32 v2 = 0 then m_ahead_B186 v1 v2 v3 2 M else m_ahead_B186 v1 v2 v3 1 M)
def m_ahead_B135 (v1 : Int) (v2 : Int) (v3 : Int) (M : Mem) : Option (Mem) :=
  lt (upM M 0 6 0) (fun M_137 => lt (upM M_137 0 7 0) (fun M_142 => lt (upM M_142 0 3 3) (fun M_147 => lt (upM M_147 0 5 (v1 + 1)) (fun M_154 => (if ¬ w32 v2 = 0 then m_ahead_B176 v1 v2 v3 M_154 else (if ¬ w32 v3 = 0 then m_ahead_B176 v1 v2 v3 M_154 else chk (0 ≤ v1 ∧ v1 < 1800) (lt (upM M_154 0 6 (M_154 1 v1.toNat)) (fun M_172 => some M_172))))))))
def m_ahead_B130 (v1 : Int) (v2 : Int) (v3 : Int) (M : Mem) : Option (Mem) :=
  lt (upM M 0 12 v1) (fun M_132 => m_ahead_B135 v1 v2 v3 M_132)
def m_ahead_B98 (v1 : Int) (v2 : Int) (v3 : Int) (M : Mem) : Option (Mem) :=
  (if w32 v1 ≤ 0 then m_ahead_B135 v1 v2 v3 M else chk (0 ≤ (v1 - 1) ∧ (v1 - 1) < 1800) (bnd (m_isLetter (M 1 (v1 - 1).toNat)) (fun r7 => (if r7 = true then m_ahead_B130 v1 v2 v3 M else chk (0 ≤ (v1 - 1) ∧ (v1 - 1) < 1800) (bnd (m_isDigit (M 1 (v1 - 1).toNat)) (fun r8 => (if r8 = true then m_ahead_B130 v1 v2 v3 M else m_ahead_B135 v1 v2 v3 M)))))))
def m_ahead (M : Mem) : Option (Mem) :=
  lt ((M 0 5)) (fun v1_4 => bnd (itr1 (m_ahead_L5 M) FUEL v1_4) (fun q1 => match q1 with | v1_1 => lt (upM M 0 4 v1_1) (fun M_43 => lt (upM M_43 0 5 v1_1) (fun M_48 => lt (upM M_48 0 3 0) (fun M_53 => lt (upM M_53 0 12 (-1)) (fun M_58 => (if w32 v1_1 < w32 (M_58 0 2) then chk (0 ≤ v1_1 ∧ v1_1 < 1800) (bnd (m_isLetter (M_58 1 v1_1.toNat)) (fun r2 => lt ((b2i r2)) (fun v2_79 => chk (0 ≤ v1_1 ∧ v1_1 < 1800) (bnd (m_isDigit (M_58 1 v1_1.toNat)) (fun r3 => lt ((b2i r3)) (fun v3_89 => (if ¬ w32 v2_79 = 0 then m_ahead_B98 v1_1 v2_79 v3_89 M_58 else (if w32 v3_89 = 0 then m_ahead_B135 v1_1 v2_79 v3_89 M_58 else m_ahead_B98 v1_1 v2_79 v3_89 M_58)))))))) else some M_58)))))))
def m_isSign (x1 : Int) (M : Mem) : Option (Bool) :=
  (if ¬ w32 (M 0 3) = w32 3 then some false else (if ¬ w32 (M 0 6) = w32 x1 then some false else some true))
def m_isWord (x1 : Int) (M : Mem) : Option (Bool) :=
  (if ¬ w32 (M 0 3) = w32 1 then some false else (if ¬ w32 (lcmp (M 0 7) x1) = 0 then some false else some true))
def m_must_B21 (M : Mem) : Option (Mem) :=
  (if ¬ w32 (M 0 8) = 0 then some M else bnd (m_ahead M) (fun M3 => some M3))
def m_must (x1 : Int) (M : Mem) : Option (Mem) :=
  bnd (m_lex M) (fun M1 => bnd (m_isSign x1 M1) (fun r2 => (if r2 = true then m_must_B21 M1 else bnd (m_blame 1 (M1 0 4) M1) (fun M4 => m_must_B21 M4))))
def m_isOwn (x1 : Int) : Option (Bool) :=
  (if w32 (lcmp x1 508675318629) = 0 then some true else (if w32 (lcmp x1 482805572456) = 0 then some true else (if w32 (lcmp x1 123581014175598) = 0 then some true else (if w32 (lcmp x1 1667329133) = 0 then some true else (if ¬ w32 (lcmp x1 512735736947) = 0 then (if w32 (lcmp x1 24948) = 0 then some true else (if w32 (lcmp x1 1819242087) = 0 then some true else (if w32 (lcmp x1 482804460403) = 0 then some true else (if w32 (lcmp x1 469920933235) = 0 then some true else (if ¬ w32 (lcmp x1 1752527720) = 0 then (if w32 (lcmp x1 126943973305189) = 0 then some true else (if w32 (lcmp x1 1953459813) = 0 then some true else (if w32 (lcmp x1 512735409267) = 0 then some true else (if w32 (lcmp x1 120299592184933) = 0 then some true else (if ¬ w32 (lcmp x1 1819238756) = 0 then (if w32 (lcmp x1 1651864441) = 0 then some true else (if w32 (lcmp x1 26982) = 0 then some true else (if w32 (lcmp x1 28530) = 0 then some true else (if w32 (lcmp x1 6385252) = 0 then some true else (if ¬ w32 (lcmp x1 7237492) = 0 then (if w32 (lcmp x1 6384748) = 0 then some true else (if w32 (lcmp x1 7170414) = 0 then some true else (if ¬ w32 (lcmp x1 7168376) = 0 then some false else some true))) else some true))))) else some true))))) else some true))))) else some true)))))
def m_personNamed_L2 (v1 : Int) (M : Mem) (rec : Int → Option ((Int) ⊕ (Int))) (v3 : Int) : Option ((Int) ⊕ (Int)) :=
  chk (0 ≤ (M 0 31) ∧ (M 0 31) < 2) ((if w32 (M 4 (M 0 31).toNat) ≤ w32 v3 then some (.inr v3) else chk (0 ≤ ((8 * (M 0 31)) + v3) ∧ ((8 * (M 0 31)) + v3) < 16) ((if ¬ w32 (lcmp (M 17 ((8 * (M 0 31)) + v3).toNat) v1) = 0 then lt (v3 + 1) (fun v3_36 => rec v3_36) else some (.inl v3)))))
def m_personNamed (x1 : Int) (M : Mem) : Option (Int) :=
  bnd (itr1 (m_personNamed_L2 x1 M) FUEL 0) (fun q1 => match q1 with | .inl r => some r | .inr v3_1 => some (-1))
def m_isNamed_L2 (v1 : Int) (M : Mem) (rec : Int → Option ((Bool) ⊕ (Int))) (v3 : Int) : Option ((Bool) ⊕ (Int)) :=
  chk (0 ≤ (M 0 31) ∧ (M 0 31) < 2) ((if w32 (M 2 (M 0 31).toNat) ≤ w32 v3 then some (.inr v3) else chk (0 ≤ ((7 * (M 0 31)) + v3) ∧ ((7 * (M 0 31)) + v3) < 14) ((if ¬ w32 (lcmp (M 16 ((7 * (M 0 31)) + v3).toNat) v1) = 0 then lt (v3 + 1) (fun v3_36 => rec v3_36) else some (.inl true)))))
def m_isNamed (x1 : Int) (M : Mem) : Option (Bool) :=
  bnd (itr1 (m_isNamed_L2 x1 M) FUEL 0) (fun q1 => match q1 with | .inl r => some r | .inr v3_1 => bnd (m_personNamed x1 M) (fun r2 => (if w32 r2 = w32 (-1) then some false else some true)))
def m_number_B58 (M : Mem) : Option (Int × Mem) :=
  lt ((M 0 6)) (fun v3_62 => (if ¬ w32 (M 0 8) = 0 then some (v3_62, M) else bnd (m_ahead M) (fun M2 => some (v3_62, M2))))
def m_number_B30 (v1 : Int) (v2 : Int) (M : Mem) : Option (Int × Mem) :=
  (if ¬ w32 (M 0 8) = 0 then m_number_B58 M else bnd (m_is (M 0 6) v1 v2) (fun r3 => (if r3 = true then m_number_B58 M else bnd (m_blame 4 (M 0 4) M) (fun M4 => m_number_B58 M4))))
def m_number (x1 : Int) (x2 : Int) (M : Mem) : Option (Int × Mem) :=
  bnd (m_lex M) (fun M1 => (if w32 (M1 0 8) ≤ 0 then (if w32 (M1 0 3) = w32 2 then m_number_B30 x1 x2 M1 else bnd (m_blame 1 (M1 0 4) M1) (fun M5 => m_number_B30 x1 x2 M5)) else some (0, M1)))
def m_add (x1 : Int) (x2 : Int) (M : Mem) : Option (Mem) :=
  chk (0 ≤ ((1600 * (M 0 31)) + (M 0 30)) ∧ ((1600 * (M 0 31)) + (M 0 30)) < 3200) (lt (upM M 14 ((1600 * (M 0 31)) + (M 0 30)).toNat x1) (fun M_18 => chk (0 ≤ ((1600 * (M_18 0 31)) + (M_18 0 30)) ∧ ((1600 * (M_18 0 31)) + (M_18 0 30)) < 3200) (lt (upM M_18 15 ((1600 * (M_18 0 31)) + (M_18 0 30)).toNat x2) (fun M_37 => lt (upM M_37 0 30 ((M_37 0 30) + 1)) (fun M_45 => some M_45)))))
def m_isOf (x1 : Int) (M : Mem) : Option (Bool) :=
  (if ¬ w32 x1 = w32 5 then (if ¬ w32 x1 = w32 6 then (if ¬ w32 x1 = w32 7 then (if ¬ w32 (M 0 32) = w32 2 then some false else some true) else (if ¬ w32 (M 0 32) = w32 1 then some false else some true)) else (if ¬ w32 (M 0 32) = w32 0 then some false else some true)) else (if w32 (M 0 32) = w32 2 then some false else some true))
def m_rank (x0 : Int) : Option (Int) :=
  (if ¬ w32 x0 = w32 42 then (if ¬ w32 x0 = w32 41 then (if ¬ w32 x0 = w32 43 then (if w32 x0 = w32 38 then some 4 else (if w32 x0 = w32 39 then some 4 else (if ¬ w32 x0 = w32 40 then (if w32 x0 = w32 31 then some 5 else (if ¬ w32 x0 = w32 32 then some 6 else some 5)) else some 4))) else some 3) else some 2) else some 1)
def m_joins_L0 (v1 : Int) (rec : Mem → Option (Mem)) (M : Mem) : Option (Mem) :=
  chk (0 ≤ ((M 0 38) - 1) ∧ ((M 0 38) - 1) < 20) ((if w32 (M 0 41) ≤ w32 (M 22 ((M 0 38) - 1).toNat) then some M else chk (0 ≤ ((M 0 41) - 1) ∧ ((M 0 41) - 1) < 500) (bnd (m_rank (M 23 ((M 0 41) - 1).toNat)) (fun r1 => (if w32 r1 < w32 v1 then some M else lt (upM M 0 41 ((M 0 41) - 1)) (fun M_43 => chk (0 ≤ (M_43 0 41) ∧ (M_43 0 41) < 500) (bnd (m_add (M_43 23 (M_43 0 41).toNat) 0 M_43) (fun M2 => chk (0 ≤ (M2 0 41) ∧ (M2 0 41) < 500) ((if ¬ w32 (M2 23 (M2 0 41).toNat) = w32 43 then rec M2 else lt (upM M2 0 39 ((M2 0 39) - 1)) (fun M_81 => rec M_81)))))))))))
def m_joins (x1 : Int) (M : Mem) : Option (Mem) :=
  bnd (itr1 (m_joins_L0 x1) FUEL M) (fun q3 => match q3 with | M_3 => some M_3)
def m_holdsBack (x1 : Int) (M : Mem) : Option (Mem) :=
  chk (0 ≤ (M 0 41) ∧ (M 0 41) < 500) (lt (upM M 23 (M 0 41).toNat x1) (fun M_9 => lt (upM M_9 0 41 ((M_9 0 41) + 1)) (fun M_17 => some M_17)))
def m_pushes (x1 : Int) (M : Mem) : Option (Mem) :=
  chk (0 ≤ (M 0 38) ∧ (M 0 38) < 20) (lt (upM M 18 (M 0 38).toNat x1) (fun M_9 => chk (0 ≤ (M_9 0 38) ∧ (M_9 0 38) < 20) (lt (upM M_9 19 (M_9 0 38).toNat 0) (fun M_19 => chk (0 ≤ (M_19 0 38) ∧ (M_19 0 38) < 20) (lt (upM M_19 20 (M_19 0 38).toNat 1) (fun M_29 => chk (0 ≤ (M_29 0 38) ∧ (M_29 0 38) < 20) (lt (upM M_29 22 (M_29 0 38).toNat (M_29 0 41)) (fun M_42 => lt (upM M_42 0 38 ((M_42 0 38) + 1)) (fun M_50 => some M_50)))))))))
def m_opens_B18 (v1 : Int) (M : Mem) : Option (Mem) :=
  (if w32 (M 0 8) ≤ 0 then lt (upM M 0 39 ((M 0 39) + 1)) (fun M_33 => bnd (m_ahead M_33) (fun M1 => bnd (m_pushes v1 M1) (fun M2 => some M2))) else some M)
def m_opens (x1 : Int) (M : Mem) : Option (Mem) :=
  (if ¬ w32 (M 0 39) = w32 7 then m_opens_B18 x1 M else bnd (m_blame 5 (M 0 4) M) (fun M3 => m_opens_B18 x1 M3))
def m_isTest (x0 : Int) : Option (Bool) :=
  (if w32 x0 = w32 1 then some true else (if w32 x0 = w32 5 then some true else (if ¬ w32 x0 = w32 6 then some false else some true)))
def m_operand_B289 (v3 : Int) (s1 : Int) (M : Mem) : Option (Bool × Mem) :=
  bnd (m_opens s1 M) (fun M10 => (if ¬ w32 (M10 0 8) = 0 then some (false, M10) else chk (0 ≤ ((M10 0 38) - 1) ∧ ((M10 0 38) - 1) < 20) (lt (upM M10 21 ((M10 0 38) - 1).toNat v3) (fun M_310 => some (false, M_310)))))
def m_operand_B276 (v3 : Int) (M : Mem) : Option (Bool × Mem) :=
  (if ¬ w32 v3 = w32 44 then m_operand_B289 v3 3 M else m_operand_B289 v3 6 M)
def m_operand_B249 (s0 : Int) (M : Mem) : Option (Bool × Mem) :=
  bnd (m_ahead M) (fun M7 => bnd (m_lex M7) (fun M8 => bnd (m_isSign 40 M8) (fun r9 => (if r9 = true then m_operand_B276 s0 M8 else bnd (m_blame 1 (M8 0 4) M8) (fun M11 => m_operand_B276 s0 M11)))))
def m_operand_B217 (M : Mem) : Option (Bool × Mem) :=
  bnd (m_isWord 7170414 M) (fun r5 => (if r5 = true then m_operand_B249 36 M else bnd (m_isWord 7168376 M) (fun r6 => (if r6 = true then m_operand_B249 37 M else m_operand_B249 44 M))))
def m_operand_B471 (v3 : Int) (M : Mem) : Option (Bool × Mem) :=
  (if w32 (M 0 8) ≤ 0 then bnd (m_add v3 (M 0 6) M) (fun M22 => bnd (m_ahead M22) (fun M23 => some (true, M23))) else some (true, M))
def m_operand_B457 (v3 : Int) (M : Mem) : Option (Bool × Mem) :=
  (if ¬ w32 v3 = w32 (-1) then m_operand_B471 v3 M else bnd (m_blame 1 (M 0 4) M) (fun M24 => m_operand_B471 v3 M24))
def m_operand_B441 (s0 : Int) (M : Mem) : Option (Bool × Mem) :=
  (if w32 s0 < w32 5 then m_operand_B457 s0 M else bnd (m_isOf s0 M) (fun r25 => (if r25 = true then m_operand_B457 s0 M else m_operand_B457 (-1) M)))
def m_operand_B171 (M : Mem) : Option (Bool × Mem) :=
  bnd (m_isSign 40 M) (fun r3 => (if r3 = true then bnd (m_opens 2 M) (fun M26 => some (false, M26)) else bnd (m_isWord 7170414 M) (fun r4 => (if r4 = true then m_operand_B217 M else bnd (m_isWord 7168376 M) (fun r12 => (if r12 = true then m_operand_B217 M else bnd (m_isWord 26982 M) (fun r13 => (if r13 = true then m_operand_B217 M else (if ¬ w32 (M 0 3) = w32 2 then bnd (m_isWord 1953459813 M) (fun r14 => (if r14 = true then m_operand_B441 1 M else bnd (m_isWord 512735409267 M) (fun r15 => (if r15 = true then m_operand_B441 2 M else bnd (m_isWord 120299592184933 M) (fun r16 => (if r16 = true then m_operand_B441 3 M else bnd (m_isWord 1819242087 M) (fun r17 => (if r17 = true then m_operand_B441 4 M else bnd (m_isWord 482805572456 M) (fun r18 => (if r18 = true then m_operand_B441 5 M else bnd (m_isWord 1819238756 M) (fun r19 => (if r19 = true then m_operand_B441 6 M else bnd (m_isWord 1651864441 M) (fun r20 => (if r20 = true then m_operand_B441 7 M else bnd (m_isWord 1667329133 M) (fun r21 => (if r21 = true then m_operand_B441 8 M else m_operand_B441 (-1) M)))))))))))))))) else m_operand_B441 0 M)))))))))
def m_operand_B137 (v1 : Int) (v2 : Int) (M : Mem) : Option (Bool × Mem) :=
  (if w32 v2 = 0 then m_operand_B171 M else bnd (m_isWord 6384748 M) (fun r27 => (if r27 = true then bnd (m_add 30 0 M) (fun M28 => chk (0 ≤ v1 ∧ v1 < 20) (lt (upM M28 19 v1.toNat 2) (fun M_164 => bnd (m_ahead M_164) (fun M29 => some (true, M29))))) else m_operand_B171 M)))
def m_operand_B110 (v1 : Int) (v2 : Int) (M : Mem) : Option (Bool × Mem) :=
  chk (0 ≤ v1 ∧ v1 < 20) (lt (upM M 20 v1.toNat 0) (fun M_116 => (if w32 v2 = 0 then m_operand_B137 v1 v2 M_116 else bnd (m_isSign 91 M_116) (fun r30 => (if r30 = true then bnd (m_opens 5 M_116) (fun M31 => some (false, M31)) else m_operand_B137 v1 v2 M_116)))))
def m_operand_B79 (M : Mem) : Option (Bool × Mem) :=
  (if w32 (M 0 8) ≤ 0 then lt (upM M 0 39 ((M 0 39) + 1)) (fun M_95 => bnd (m_holdsBack 43 M_95) (fun M33 => bnd (m_ahead M33) (fun M34 => some (false, M34)))) else some (true, M))
def m_operand_B46 (v1 : Int) (s0 : Int) (M : Mem) : Option (Bool × Mem) :=
  (if w32 s0 = 0 then m_operand_B110 v1 s0 M else bnd (m_isWord 7237492 M) (fun r32 => (if r32 = true then (if ¬ w32 (M 0 39) = w32 7 then m_operand_B79 M else bnd (m_blame 5 (M 0 4) M) (fun M35 => m_operand_B79 M35)) else m_operand_B110 v1 s0 M)))
def m_operand_B45 (v1 : Int) (M : Mem) : Option (Bool × Mem) :=
  m_operand_B46 v1 0 M
def m_operand (M : Mem) : Option (Bool × Mem) :=
  bnd (m_lex M) (fun M1 => (if w32 (M1 0 8) ≤ 0 then lt (((M1 0 38) - 1)) (fun v1_19 => chk (0 ≤ v1_19 ∧ v1_19 < 20) (bnd (m_isTest (M1 18 v1_19.toNat)) (fun r2 => (if r2 = true then chk (0 ≤ v1_19 ∧ v1_19 < 20) ((if w32 (M1 20 v1_19.toNat) = 0 then m_operand_B45 v1_19 M1 else m_operand_B46 v1_19 1 M1)) else m_operand_B45 v1_19 M1)))) else some (true, M1)))
def m_goesOn_B499 (v1 : Int) (s1 : Int) (s2 : Int) (M : Mem) : Option (Bool × Mem) :=
  chk (0 ≤ s1 ∧ s1 < 20) (lt (upM M 18 s1.toNat s2) (fun M_499 => chk (0 ≤ v1 ∧ v1 < 20) (lt (upM M_499 19 v1.toNat 0) (fun M_506 => bnd (m_ahead M_506) (fun M5 => lt (upM M5 0 42 0) (fun M_513 => some (true, M_513)))))))
def m_goesOn_B470 (v1 : Int) (v2 : Int) (M : Mem) : Option (Bool × Mem) :=
  (if w32 (M 0 8) ≤ 0 then bnd (m_joins 1 M) (fun M4 => (if ¬ w32 v2 = w32 3 then m_goesOn_B499 v1 v1 3 M4 else m_goesOn_B499 v1 v1 4 M4)) else some (false, M))
def m_goesOn_B452 (v1 : Int) (v2 : Int) (M : Mem) : Option (Bool × Mem) :=
  bnd (m_isSign 44 M) (fun r3 => (if r3 = true then m_goesOn_B470 v1 v2 M else bnd (m_blame 1 (M 0 4) M) (fun M6 => m_goesOn_B470 v1 v2 M6)))
def m_goesOn_B596 (v2 : Int) (M : Mem) : Option (Bool × Mem) :=
  (if ¬ w32 v2 = w32 5 then bnd (m_ahead M) (fun M9 => some (true, M9)) else chk (0 ≤ ((M 0 38) - 1) ∧ ((M 0 38) - 1) < 20) (lt (upM M 19 ((M 0 38) - 1).toNat 2) (fun M_612 => bnd (m_ahead M_612) (fun M10 => some (true, M10)))))
def m_goesOn_B546 (v1 : Int) (v2 : Int) (M : Mem) : Option (Bool × Mem) :=
  (if w32 (M 0 8) ≤ 0 then bnd (m_joins 1 M) (fun M8 => lt (upM M8 0 38 ((M8 0 38) - 1)) (fun M_567 => lt (upM M_567 0 39 ((M_567 0 39) - 1)) (fun M_577 => (if ¬ w32 v2 = w32 4 then m_goesOn_B596 v2 M_577 else chk (0 ≤ v1 ∧ v1 < 20) (bnd (m_add (M_577 21 v1.toNat) 0 M_577) (fun M11 => m_goesOn_B596 v2 M11)))))) else some (false, M))
def m_goesOn_B531 (v1 : Int) (v2 : Int) (s1 : Int) (M : Mem) : Option (Bool × Mem) :=
  bnd (m_isSign s1 M) (fun r7 => (if r7 = true then m_goesOn_B546 v1 v2 M else bnd (m_blame 1 (M 0 4) M) (fun M12 => m_goesOn_B546 v1 v2 M12)))
def m_goesOn_B422 (v1 : Int) (v2 : Int) (M : Mem) : Option (Bool × Mem) :=
  (if w32 2 ≤ w32 v2 then (if w32 v2 = w32 3 then m_goesOn_B452 v1 v2 M else (if ¬ w32 v2 = w32 6 then (if ¬ w32 v2 = w32 5 then m_goesOn_B531 v1 v2 41 M else m_goesOn_B531 v1 v2 93 M) else m_goesOn_B452 v1 v2 M)) else (if ¬ w32 (M 0 8) = 0 then some (false, M) else bnd (m_joins 1 M) (fun M13 => some (false, M13))))
def m_goesOn_B400 (v1 : Int) (v2 : Int) (v3 : Int) (M : Mem) : Option (Bool × Mem) :=
  (if w32 v3 = 0 then m_goesOn_B422 v1 v2 M else chk (0 ≤ v1 ∧ v1 < 20) ((if ¬ w32 (M 19 v1.toNat) = 0 then m_goesOn_B422 v1 v2 M else bnd (m_blame 1 (M 0 4) M) (fun M14 => m_goesOn_B422 v1 v2 M14))))
def m_goesOn_B372 (v1 : Int) (s1 : Int) (M : Mem) : Option (Bool × Mem) :=
  bnd (m_holdsBack s1 M) (fun M18 => chk (0 ≤ v1 ∧ v1 < 20) (lt (upM M18 19 v1.toNat 0) (fun M_381 => chk (0 ≤ v1 ∧ v1 < 20) (lt (upM M_381 20 v1.toNat 1) (fun M_388 => bnd (m_ahead M_388) (fun M19 => lt (upM M19 0 42 0) (fun M_395 => some (true, M_395))))))))
def m_goesOn_B356 (v1 : Int) (v4 : Int) (s1 : Int) (M : Mem) : Option (Bool × Mem) :=
  bnd (m_joins s1 M) (fun M17 => (if w32 v4 = 0 then m_goesOn_B372 v1 42 M17 else m_goesOn_B372 v1 41 M17))
def m_goesOn_B327 (v1 : Int) (M : Mem) : Option (Bool × Mem) :=
  (if w32 (M 0 8) ≤ 0 then bnd (m_isWord 6385252 M) (fun r16 => lt ((b2i r16)) (fun v4_343 => (if w32 v4_343 = 0 then m_goesOn_B356 v1 v4_343 1 M else m_goesOn_B356 v1 v4_343 2 M))) else some (false, M))
def m_goesOn_B309 (v1 : Int) (M : Mem) : Option (Bool × Mem) :=
  chk (0 ≤ v1 ∧ v1 < 20) ((if ¬ w32 (M 19 v1.toNat) = 0 then m_goesOn_B327 v1 M else bnd (m_blame 1 (M 0 4) M) (fun M20 => m_goesOn_B327 v1 M20)))
def m_goesOn_B285 (v1 : Int) (v2 : Int) (v3 : Int) (M : Mem) : Option (Bool × Mem) :=
  (if w32 v3 = 0 then m_goesOn_B400 v1 v2 v3 M else bnd (m_isWord 6385252 M) (fun r15 => (if r15 = true then m_goesOn_B309 v1 M else bnd (m_isWord 28530 M) (fun r21 => (if r21 = true then m_goesOn_B309 v1 M else m_goesOn_B400 v1 v2 v3 M)))))
def m_goesOn_B264 (v1 : Int) (s1 : Int) (M : Mem) : Option (Bool × Mem) :=
  bnd (m_holdsBack s1 M) (fun M26 => chk (0 ≤ v1 ∧ v1 < 20) (lt (upM M26 19 v1.toNat 1) (fun M_273 => bnd (m_ahead M_273) (fun M27 => lt (upM M27 0 42 0) (fun M_280 => some (true, M_280))))))
def m_goesOn_B228 (v1 : Int) (M : Mem) : Option (Bool × Mem) :=
  bnd (m_joins 5 M) (fun M23 => bnd (m_isSign 60 M23) (fun r24 => (if r24 = true then m_goesOn_B264 v1 38 M23 else bnd (m_isSign 62 M23) (fun r25 => (if r25 = true then m_goesOn_B264 v1 39 M23 else m_goesOn_B264 v1 40 M23)))))
def m_goesOn_B188 (v1 : Int) (v2 : Int) (v3 : Int) (M : Mem) : Option (Bool × Mem) :=
  (if w32 v3 = 0 then m_goesOn_B285 v1 v2 v3 M else chk (0 ≤ v1 ∧ v1 < 20) ((if ¬ w32 (M 19 v1.toNat) = 0 then m_goesOn_B285 v1 v2 v3 M else bnd (m_isSign 60 M) (fun r22 => (if r22 = true then m_goesOn_B228 v1 M else bnd (m_isSign 62 M) (fun r28 => (if r28 = true then m_goesOn_B228 v1 M else bnd (m_isSign 61 M) (fun r29 => (if r29 = true then m_goesOn_B228 v1 M else m_goesOn_B285 v1 v2 v3 M)))))))))
def m_goesOn_B174 (s1 : Int) (M : Mem) : Option (Bool × Mem) :=
  bnd (m_holdsBack s1 M) (fun M37 => bnd (m_ahead M37) (fun M38 => lt (upM M38 0 42 0) (fun M_183 => some (true, M_183))))
def m_goesOn_B112 (s1 : Int) (M : Mem) : Option (Bool × Mem) :=
  bnd (m_joins s1 M) (fun M32 => bnd (m_isSign 43 M32) (fun r33 => (if r33 = true then m_goesOn_B174 31 M32 else bnd (m_isSign 45 M32) (fun r34 => (if r34 = true then m_goesOn_B174 32 M32 else bnd (m_isSign 42 M32) (fun r35 => (if r35 = true then m_goesOn_B174 33 M32 else bnd (m_isSign 47 M32) (fun r36 => (if r36 = true then m_goesOn_B174 34 M32 else m_goesOn_B174 35 M32)))))))))
def m_goesOn_B106 (M : Mem) : Option (Bool × Mem) :=
  m_goesOn_B112 5 M
def m_goesOn_B87 (M : Mem) : Option (Bool × Mem) :=
  bnd (m_isSign 43 M) (fun r31 => (if r31 = true then m_goesOn_B106 M else bnd (m_isSign 45 M) (fun r39 => (if r39 = true then m_goesOn_B106 M else m_goesOn_B112 6 M))))
def m_goesOn (M : Mem) : Option (Bool × Mem) :=
  bnd (m_lex M) (fun M1 => (if w32 (M1 0 8) ≤ 0 then lt (((M1 0 38) - 1)) (fun v1_19 => chk (0 ≤ v1_19 ∧ v1_19 < 20) (lt ((M1 18 v1_19.toNat)) (fun v2_26 => bnd (m_isTest v2_26) (fun r2 => lt ((b2i r2)) (fun v3_31 => chk (0 ≤ v1_19 ∧ v1_19 < 20) ((if w32 2 ≤ w32 (M1 19 v1_19.toNat) then m_goesOn_B188 v1_19 v2_26 v3_31 M1 else bnd (m_isSign 43 M1) (fun r30 => (if r30 = true then m_goesOn_B87 M1 else bnd (m_isSign 45 M1) (fun r40 => (if r40 = true then m_goesOn_B87 M1 else bnd (m_isSign 42 M1) (fun r41 => (if r41 = true then m_goesOn_B87 M1 else bnd (m_isSign 47 M1) (fun r42 => (if r42 = true then m_goesOn_B87 M1 else bnd (m_isSign 37 M1) (fun r43 => (if r43 = true then m_goesOn_B87 M1 else m_goesOn_B188 v1_19 v2_26 v3_31 M1))))))))))))))))) else some (false, M1)))
def m_reads_L43_B70 (rec : Int → Mem → Option (Int × Mem)) (v2 : Int) (M : Mem) : Option (Int × Mem) :=
  (if w32 v2 = 0 then rec 0 M else (if ¬ w32 (M 0 8) = 0 then rec 0 M else rec 1 M))
def m_reads_L43 (rec : Int → Mem → Option (Int × Mem)) (v2 : Int) (M : Mem) : Option (Int × Mem) :=
  (if w32 v2 = 0 then some (v2, M) else (if ¬ w32 (M 0 42) = 0 then bnd2 (m_goesOn M) (fun r2 M2 => lt ((b2i r2)) (fun v2_69 => m_reads_L43_B70 rec v2_69 M2)) else bnd2 (m_operand M) (fun r3 M3 => chk ((b2i r3) = (0 : Int) ∨ (b2i r3) = 1) (lt (upM M3 0 42 (b2i r3)) (fun M_59 => m_reads_L43_B70 rec v2 M_59)))))
def m_reads_B38 (s1 : Int) (M : Mem) : Option (Mem) :=
  bnd (m_pushes s1 M) (fun M1 => bnd (itr2 (m_reads_L43) FUEL 1 M1) (fun q4 => match q4 with | (v2_4, M_4) => some M_4))
def m_reads (x1 : Int) (M : Mem) : Option (Mem) :=
  (if w32 (M 0 8) ≤ 0 then lt (upM M 0 38 0) (fun M_10 => lt (upM M_10 0 39 0) (fun M_15 => lt (upM M_15 0 41 0) (fun M_20 => lt (upM M_20 0 42 0) (fun M_25 => (if w32 x1 = 0 then m_reads_B38 0 M_25 else m_reads_B38 1 M_25))))) else some M)
def m_isCounted_B32 (M : Mem) : Option (Bool × Mem) :=
  (if ¬ w32 (M 0 8) = 0 then some (false, M) else some (true, M))
def m_isCounted_B21 (M : Mem) : Option (Bool × Mem) :=
  (if ¬ w32 (M 0 8) = 0 then m_isCounted_B32 M else bnd (m_ahead M) (fun M1 => m_isCounted_B32 M1))
def m_isCounted (x1 : Int) (M : Mem) : Option (Bool × Mem) :=
  (if ¬ w32 (M 0 8) = 0 then m_isCounted_B21 M else (if w32 x1 = 0 then m_isCounted_B21 M else bnd (m_blame 6 (M 0 4) M) (fun M2 => m_isCounted_B21 M2)))
def m_must__B29 (M : Mem) : Option (Mem) :=
  (if ¬ w32 (M 0 8) = 0 then some M else bnd (m_ahead M) (fun M3 => some M3))
def m_must_ (x1 : Int) (M : Mem) : Option (Mem) :=
  bnd (m_lex M) (fun M1 => (if w32 (M1 0 8) ≤ 0 then bnd (m_isWord x1 M1) (fun r2 => (if r2 = true then m_must__B29 M1 else bnd (m_blame 1 (M1 0 4) M1) (fun M4 => m_must__B29 M4))) else some M1))
def m_has2 (x0 : Int) (x1 : Int) : Option (Bool) :=
  (if ¬ w32 (and32 (shr32 x0 x1) 1) = w32 1 then some false else some true)
def m_fresh_B68 (M : Mem) : Option (Int × Mem) :=
  lt ((M 0 7)) (fun v1_72 => (if ¬ w32 (M 0 8) = 0 then some (v1_72, M) else bnd (m_ahead M) (fun M3 => some (v1_72, M3))))
def m_fresh_B41 (M : Mem) : Option (Int × Mem) :=
  (if ¬ w32 (M 0 8) = 0 then m_fresh_B68 M else bnd (m_isNamed (M 0 7) M) (fun r4 => (if r4 = true then bnd (m_blame 2 (M 0 4) M) (fun M5 => m_fresh_B68 M5) else m_fresh_B68 M)))
def m_fresh_B32 (M : Mem) : Option (Int × Mem) :=
  bnd (m_blame 1 (M 0 4) M) (fun M2 => m_fresh_B41 M2)
def m_fresh (M : Mem) : Option (Int × Mem) :=
  bnd (m_lex M) (fun M1 => (if w32 (M1 0 8) ≤ 0 then (if ¬ w32 (M1 0 3) = w32 1 then m_fresh_B32 M1 else bnd (m_isOwn (M1 0 7)) (fun r6 => (if r6 = true then m_fresh_B32 M1 else m_fresh_B41 M1))) else some (0, M1)))
def m_voicing_B20 (s1 : Int) (M : Mem) : Option (Mem) :=
  bnd2 (m_isCounted s1 M) (fun r1 M1 => (if r1 = true then chk (0 ≤ (M1 0 31) ∧ (M1 0 31) < 2) (lt (((7 * (M1 0 31)) + (M1 2 (M1 0 31).toNat))) (fun v1_44 => bnd2 (m_fresh M1) (fun r2 M2 => chk (0 ≤ v1_44 ∧ v1_44 < 14) (lt (upM M2 16 v1_44.toNat r2) (fun M_54 => bnd (m_must_ 482805572456 M_54) (fun M3 => bnd2 (m_number 0 9 M3) (fun r4 M4 => chk (0 ≤ v1_44 ∧ v1_44 < 14) (lt (upM M4 3 v1_44.toNat r4) (fun M_74 => (if ¬ w32 (M_74 0 8) = 0 then some M_74 else chk (0 ≤ (M_74 0 31) ∧ (M_74 0 31) < 2) (chk (0 ≤ (M_74 0 31) ∧ (M_74 0 31) < 2) (lt (upM M_74 2 (M_74 0 31).toNat ((M_74 2 (M_74 0 31).toNat) + 1)) (fun M_94 => some M_94))))))))))))) else some M1))
def m_voicing (M : Mem) : Option (Mem) :=
  chk (0 ≤ (M 0 31) ∧ (M 0 31) < 2) ((if ¬ w32 (M 2 (M 0 31).toNat) = w32 7 then m_voicing_B20 0 M else m_voicing_B20 1 M))
def m_personing_B20 (s1 : Int) (M : Mem) : Option (Mem) :=
  bnd2 (m_isCounted s1 M) (fun r1 M1 => (if r1 = true then chk (0 ≤ (M1 0 31) ∧ (M1 0 31) < 2) (lt (((8 * (M1 0 31)) + (M1 4 (M1 0 31).toNat))) (fun v1_44 => bnd2 (m_fresh M1) (fun r2 M2 => chk (0 ≤ v1_44 ∧ v1_44 < 16) (lt (upM M2 17 v1_44.toNat r2) (fun M_54 => bnd (m_must_ 482805572456 M_54) (fun M3 => bnd2 (m_number 0 9 M3) (fun r4 M4 => chk (0 ≤ v1_44 ∧ v1_44 < 16) (lt (upM M4 5 v1_44.toNat r4) (fun M_74 => bnd (m_must_ 1667329133 M_74) (fun M5 => bnd2 (m_number 0 99 M5) (fun r6 M6 => chk (0 ≤ v1_44 ∧ v1_44 < 16) (lt (upM M6 6 v1_44.toNat r6) (fun M_94 => (if ¬ w32 (M_94 0 8) = 0 then some M_94 else chk (0 ≤ (M_94 0 31) ∧ (M_94 0 31) < 2) (chk (0 ≤ (M_94 0 31) ∧ (M_94 0 31) < 2) (lt (upM M_94 4 (M_94 0 31).toNat ((M_94 4 (M_94 0 31).toNat) + 1)) (fun M_114 => some M_114))))))))))))))))) else some M1))
def m_personing (M : Mem) : Option (Mem) :=
  chk (0 ≤ (M 0 31) ∧ (M 0 31) < 2) ((if ¬ w32 (M 4 (M 0 31).toNat) = w32 8 then m_personing_B20 0 M else m_personing_B20 1 M))
def m_wanting_B108 (v1 : Int) (M : Mem) : Option (Mem) :=
  (if w32 (M 0 8) ≤ 0 then bnd (m_ahead M) (fun M5 => chk (0 ≤ (M5 0 31) ∧ (M5 0 31) < 2) (lt (((12 * (M5 0 31)) + (M5 7 (M5 0 31).toNat))) (fun v2_137 => chk (0 ≤ v2_137 ∧ v2_137 < 24) (lt (upM M5 8 v2_137.toNat v1) (fun M_144 => bnd (m_must_ 24948 M_144) (fun M6 => bnd2 (m_number 0 999 M6) (fun r7 M7 => chk (0 ≤ v2_137 ∧ v2_137 < 24) (lt (upM M7 9 v2_137.toNat r7) (fun M_165 => bnd (m_must_ 1819242087 M_165) (fun M8 => bnd2 (m_number 1 20 M8) (fun r9 M9 => chk (0 ≤ v2_137 ∧ v2_137 < 24) (lt (upM M9 10 v2_137.toNat r9) (fun M_185 => (if ¬ w32 (M_185 0 8) = 0 then some M_185 else chk (0 ≤ (M_185 0 31) ∧ (M_185 0 31) < 2) (chk (0 ≤ (M_185 0 31) ∧ (M_185 0 31) < 2) (lt (upM M_185 7 (M_185 0 31).toNat ((M_185 7 (M_185 0 31).toNat) + 1)) (fun M_205 => some M_205))))))))))))))))) else some M)
def m_wanting_B86 (s0 : Int) (M : Mem) : Option (Mem) :=
  (if ¬ w32 (M 0 8) = 0 then m_wanting_B108 s0 M else (if ¬ w32 s0 = w32 (-1) then m_wanting_B108 s0 M else bnd (m_blame 3 (M 0 4) M) (fun M10 => m_wanting_B108 s0 M10)))
def m_wanting_B67 (M : Mem) : Option (Mem) :=
  (if w32 (M 0 8) ≤ 0 then bnd (m_personNamed (M 0 7) M) (fun r4 => m_wanting_B86 r4 M) else m_wanting_B86 0 M)
def m_wanting_B58 (M : Mem) : Option (Mem) :=
  bnd (m_blame 1 (M 0 4) M) (fun M3 => m_wanting_B67 M3)
def m_wanting_B20 (s1 : Int) (M : Mem) : Option (Mem) :=
  bnd2 (m_isCounted s1 M) (fun r1 M1 => (if r1 = true then bnd (m_lex M1) (fun M2 => (if w32 (M2 0 8) ≤ 0 then (if ¬ w32 (M2 0 3) = w32 1 then m_wanting_B58 M2 else bnd (m_isOwn (M2 0 7)) (fun r11 => (if r11 = true then m_wanting_B58 M2 else m_wanting_B67 M2))) else some M2)) else some M1))
def m_wanting (M : Mem) : Option (Mem) :=
  chk (0 ≤ (M 0 31) ∧ (M 0 31) < 2) ((if ¬ w32 (M 7 (M 0 31).toNat) = w32 12 then m_wanting_B20 0 M else m_wanting_B20 1 M))
def m_reading_B57 (v2 : Int) (s1 : Int) (M : Mem) : Option (Mem) :=
  bnd (m_reads s1 M) (fun M2 => chk (0 ≤ v2 ∧ v2 < 6) (lt (upM M2 13 v2.toNat (M2 0 30)) (fun M_69 => some M_69)))
def m_reading_B25 (v1 : Int) (v2 : Int) (s1 : Int) (M : Mem) : Option (Mem) :=
  bnd2 (m_isCounted s1 M) (fun r1 M1 => (if r1 = true then lt (upM M1 0 32 v1) (fun M_34 => chk (0 ≤ v2 ∧ v2 < 6) (lt (upM M_34 12 v2.toNat (M_34 0 30)) (fun M_46 => (if w32 v1 = 0 then m_reading_B57 v2 0 M_46 else m_reading_B57 v2 1 M_46)))) else some M1))
def m_reading (x1 : Int) (M : Mem) : Option (Mem) :=
  lt (((3 * (M 0 31)) + x1)) (fun v2_8 => chk (0 ≤ v2_8 ∧ v2_8 < 6) ((if w32 (M 12 v2_8.toNat) = w32 (-1) then m_reading_B25 x1 v2_8 0 M else m_reading_B25 x1 v2_8 1 M)))
def m_stroking (M : Mem) : Option (Mem) :=
  bnd2 (m_isCounted 0 M) (fun r1 M1 => (if r1 = true then bnd2 (m_number 0 100 M1) (fun r2 M2 => (if ¬ w32 (M2 0 8) = 0 then some M2 else chk (0 ≤ (M2 0 31) ∧ (M2 0 31) < 2) (lt (upM M2 11 (M2 0 31).toNat r2) (fun M_33 => some M_33)))) else some M1))
def m_statement (M : Mem) : Option (Mem) :=
  bnd (m_lex M) (fun M1 => (if w32 (M1 0 8) ≤ 0 then bnd (m_isWord 508675318629 M1) (fun r2 => (if r2 = true then bnd (m_voicing M1) (fun M16 => some M16) else bnd (m_isWord 123581014175598 M1) (fun r3 => (if r3 = true then bnd (m_personing M1) (fun M15 => some M15) else bnd (m_isWord 512735736947 M1) (fun r4 => (if r4 = true then bnd (m_wanting M1) (fun M14 => some M14) else bnd (m_isWord 482804460403 M1) (fun r5 => (if r5 = true then bnd (m_reading 0 M1) (fun M13 => some M13) else bnd (m_isWord 469920933235 M1) (fun r6 => (if r6 = true then bnd (m_reading 1 M1) (fun M12 => some M12) else bnd (m_isWord 1752527720 M1) (fun r7 => (if r7 = true then bnd (m_reading 2 M1) (fun M11 => some M11) else bnd (m_isWord 126943973305189 M1) (fun r8 => (if r8 = true then bnd (m_stroking M1) (fun M10 => some M10) else bnd (m_blame 1 (M1 0 4) M1) (fun M9 => some M9))))))))))))))) else some M1))
def m_finishes_L17 (v1 : Int) (M : Mem) (rec : Int → Option (Int)) (v2 : Int) : Option (Int) :=
  (if w32 (M 0 2) ≤ w32 v2 then some v2 else chk (0 ≤ v2 ∧ v2 < 1800) ((if w32 (M 1 v2.toNat) = w32 32 then lt (v2 + 1) (fun v2_47 => rec v2_47) else chk (0 ≤ v2 ∧ v2 < 1800) ((if ¬ w32 (M 1 v2.toNat) = w32 10 then some v2 else lt (v2 + 1) (fun v2_47 => rec v2_47))))))
def m_finishes (x1 : Int) (M : Mem) : Option (Mem) :=
  bnd (m_lex M) (fun M1 => (if w32 (M1 0 8) ≤ 0 then lt ((M1 0 5)) (fun v2_16 => bnd (itr1 (m_finishes_L17 x1 M1) FUEL v2_16) (fun q2 => match q2 with | v2_2 => bnd (m_isSign 59 M1) (fun r3 => (if r3 = true then (if ¬ w32 x1 = w32 80 then bnd (m_must 59 M1) (fun M5 => some M5) else (if w32 (M1 0 2) ≤ w32 v2_2 then bnd (m_must 59 M1) (fun M6 => some M6) else bnd (m_blame 6 v2_2 M1) (fun M7 => bnd (m_must 59 M7) (fun M8 => some M8)))) else bnd (m_must 59 M1) (fun M4 => some M4))))) else some M1))
def m_begin_L23 (rec : Int → Mem → Option (Int × Mem)) (v1 : Int) (M : Mem) : Option (Int × Mem) :=
  (if w32 7 ≤ w32 v1 then some (v1, M) else chk (0 ≤ ((7 * (M 0 13)) + v1) ∧ ((7 * (M 0 13)) + v1) < 14) (chk (0 ≤ v1 ∧ v1 < 154) (lt (upM M 26 v1.toNat (M 3 ((7 * (M 0 13)) + v1).toNat)) (fun M_48 => chk (0 ≤ v1 ∧ v1 < 154) (lt (upM M_48 27 v1.toNat 0) (fun M_55 => lt (v1 + 1) (fun v1_56 => rec v1_56 M_55)))))))
def m_begin_L64 (rec : Int → Mem → Option (Int × Mem)) (v1 : Int) (M : Mem) : Option (Int × Mem) :=
  (if w32 12 ≤ w32 v1 then some (v1, M) else chk (0 ≤ v1 ∧ v1 < 264) (lt (upM M 29 v1.toNat 0) (fun M_76 => chk (0 ≤ ((12 * (M_76 0 13)) + v1) ∧ ((12 * (M_76 0 13)) + v1) < 24) (chk (0 ≤ v1 ∧ v1 < 264) (lt (upM M_76 30 v1.toNat (M_76 9 ((12 * (M_76 0 13)) + v1).toNat)) (fun M_96 => chk (0 ≤ v1 ∧ v1 < 264) (lt (upM M_96 31 v1.toNat 0) (fun M_103 => chk (0 ≤ v1 ∧ v1 < 264) (lt (upM M_103 32 v1.toNat (-1)) (fun M_110 => chk (0 ≤ v1 ∧ v1 < 264) (lt (upM M_110 33 v1.toNat 0) (fun M_117 => lt (v1 + 1) (fun v1_118 => rec v1_118 M_117)))))))))))))
def m_begin (M : Mem) : Option (Mem) :=
  lt (upM M 25 0 0) (fun M_6 => lt (upM M_6 28 0 0) (fun M_13 => lt (upM M_13 34 0 0) (fun M_20 => bnd (itr2 (m_begin_L23) FUEL 0 M_20) (fun q1 => match q1 with | (v1_1, M_1) => bnd (itr2 (m_begin_L64) FUEL 0 M_1) (fun q2 => match q2 with | (v1_2, M_2) => lt (upM M_2 35 0 0) (fun M_130 => lt (upM M_130 0 57 0) (fun M_133 => lt (upM M_133 0 63 0) (fun M_138 => some M_138))))))))
def m_town_L85 (rec : Int → Mem → Option (Int × Mem)) (v1 : Int) (M : Mem) : Option (Int × Mem) :=
  (if w32 ((3 * (M 0 31)) + 3) ≤ w32 v1 then some (v1, M) else chk (0 ≤ v1 ∧ v1 < 6) (lt (upM M 12 v1.toNat (-1)) (fun M_103 => lt (v1 + 1) (fun v1_104 => rec v1_104 M_103))))
def m_town_L121 (rec : Int → Mem → Option (Int × Mem)) (v1 : Int) (M : Mem) : Option (Int × Mem) :=
  (if ¬ w32 (M 0 8) = 0 then some (v1, M) else (if w32 (M 0 3) = 0 then some (v1, M) else bnd (m_statement M) (fun M3 => lt (v1 + 1) (fun v1_139 => bnd (m_finishes v1_139 M3) (fun M4 => rec v1_139 M4)))))
def m_town (M : Mem) : Option (Int × Mem) :=
  lt (upM M 0 2 (M 0 1)) (fun M_5 => lt (upM M_5 0 1 0) (fun M_10 => lt (upM M_10 0 5 0) (fun M_15 => lt (upM M_15 0 8 0) (fun M_20 => lt (upM M_20 0 9 (-1)) (fun M_25 => lt (upM M_25 0 31 (1 - (M_25 0 13))) (fun M_35 => chk (0 ≤ (M_35 0 31) ∧ (M_35 0 31) < 2) (lt (upM M_35 2 (M_35 0 31).toNat 0) (fun M_47 => chk (0 ≤ (M_47 0 31) ∧ (M_47 0 31) < 2) (lt (upM M_47 4 (M_47 0 31).toNat 0) (fun M_57 => chk (0 ≤ (M_57 0 31) ∧ (M_57 0 31) < 2) (lt (upM M_57 7 (M_57 0 31).toNat 0) (fun M_67 => chk (0 ≤ (M_67 0 31) ∧ (M_67 0 31) < 2) (lt (upM M_67 11 (M_67 0 31).toNat 0) (fun M_77 => lt ((3 * (M_77 0 31))) (fun v1_84 => bnd (itr2 (m_town_L85) FUEL v1_84 M_77) (fun q1 => match q1 with | (v1_1, M_1) => lt (upM M_1 0 30 0) (fun M_112 => bnd (m_ahead M_112) (fun M2 => bnd (itr2 (m_town_L121) FUEL 0 M2) (fun q5 => match q5 with | (v1_5, M_5) => lt (upM M_5 0 10 (M_5 0 8)) (fun M_155 => lt (upM M_155 0 11 (M_155 0 9)) (fun M_163 => (if w32 (M_163 0 8) ≤ 0 then lt (upM M_163 0 13 (M_163 0 31)) (fun M_184 => bnd (m_begin M_184) (fun M6 => some (v1_5, M6))) else bnd2 (m_refuses 1 M_163) (fun r7 M7 => some (r7, M7))))))))))))))))))))))))
def m_fault (x1 : Int) (M : Mem) : Option (Int) :=
  (if ¬ w32 x1 = 0 then (if ¬ w32 x1 = w32 1 then some (-1) else some (M 0 11)) else some (M 0 10))
def m_status (x1 : Int) (M : Mem) : Option (Int) :=
  bnd (m_is x1 0 5) (fun r1 => (if r1 = true then chk (0 ≤ x1 ∧ x1 < 6) (some (M 24 x1.toNat)) else some (-1)))
def m_copies_L38 (v1 : Int) (v2 : Int) (rec : Int → Mem → Option (Int × Mem)) (v3 : Int) (M : Mem) : Option (Int × Mem) :=
  (if w32 7 ≤ w32 v3 then some (v3, M) else chk (0 ≤ ((7 * v2) + v3) ∧ ((7 * v2) + v3) < 154) (chk (0 ≤ ((7 * v1) + v3) ∧ ((7 * v1) + v3) < 154) (lt (upM M 26 ((7 * v1) + v3).toNat (M 26 ((7 * v2) + v3).toNat)) (fun M_65 => chk (0 ≤ ((7 * v2) + v3) ∧ ((7 * v2) + v3) < 154) (chk (0 ≤ ((7 * v1) + v3) ∧ ((7 * v1) + v3) < 154) (lt (upM M_65 27 ((7 * v1) + v3).toNat (M_65 27 ((7 * v2) + v3).toNat)) (fun M_87 => lt (v3 + 1) (fun v3_88 => rec v3_88 M_87))))))))
def m_copies_L96 (v1 : Int) (v2 : Int) (rec : Int → Mem → Option (Int × Mem)) (v3 : Int) (M : Mem) : Option (Int × Mem) :=
  (if w32 12 ≤ w32 v3 then some (v3, M) else lt (((12 * v1) + v3)) (fun v4_108 => lt (((12 * v2) + v3)) (fun v5_116 => chk (0 ≤ v5_116 ∧ v5_116 < 264) (chk (0 ≤ v4_108 ∧ v4_108 < 264) (lt (upM M 29 v4_108.toNat (M 29 v5_116.toNat)) (fun M_131 => chk (0 ≤ v5_116 ∧ v5_116 < 264) (chk (0 ≤ v4_108 ∧ v4_108 < 264) (lt (upM M_131 30 v4_108.toNat (M_131 30 v5_116.toNat)) (fun M_145 => chk (0 ≤ v5_116 ∧ v5_116 < 264) (chk (0 ≤ v4_108 ∧ v4_108 < 264) (lt (upM M_145 31 v4_108.toNat (M_145 31 v5_116.toNat)) (fun M_159 => chk (0 ≤ v5_116 ∧ v5_116 < 264) (chk (0 ≤ v4_108 ∧ v4_108 < 264) (lt (upM M_159 32 v4_108.toNat (M_159 32 v5_116.toNat)) (fun M_173 => chk (0 ≤ v5_116 ∧ v5_116 < 264) (chk (0 ≤ v4_108 ∧ v4_108 < 264) (lt (upM M_173 33 v4_108.toNat (M_173 33 v5_116.toNat)) (fun M_187 => lt (v3 + 1) (fun v3_188 => rec v3_188 M_187)))))))))))))))))))
def m_copies_L208 (v1 : Int) (v2 : Int) (rec : Int → Mem → Option (Int × Mem)) (v3 : Int) (M : Mem) : Option (Int × Mem) :=
  chk (0 ≤ v2 ∧ v2 < 22) ((if w32 (3 * (M 35 v2.toNat)) ≤ w32 v3 then some (v3, M) else chk (0 ≤ ((120 * v2) + v3) ∧ ((120 * v2) + v3) < 2640) (chk (0 ≤ ((120 * v1) + v3) ∧ ((120 * v1) + v3) < 2640) (lt (upM M 36 ((120 * v1) + v3).toNat (M 36 ((120 * v2) + v3).toNat)) (fun M_241 => lt (v3 + 1) (fun v3_242 => rec v3_242 M_241))))))
def m_copies (x1 : Int) (x2 : Int) (M : Mem) : Option (Mem) :=
  chk (0 ≤ x2 ∧ x2 < 22) (chk (0 ≤ x1 ∧ x1 < 22) (lt (upM M 25 x1.toNat (M 25 x2.toNat)) (fun M_11 => chk (0 ≤ x2 ∧ x2 < 22) (chk (0 ≤ x1 ∧ x1 < 22) (lt (upM M_11 28 x1.toNat (M_11 28 x2.toNat)) (fun M_23 => chk (0 ≤ x2 ∧ x2 < 22) (chk (0 ≤ x1 ∧ x1 < 22) (lt (upM M_23 34 x1.toNat (M_23 34 x2.toNat)) (fun M_35 => bnd (itr2 (m_copies_L38 x1 x2) FUEL 0 M_35) (fun q1 => match q1 with | (v3_1, M_1) => bnd (itr2 (m_copies_L96 x1 x2) FUEL 0 M_1) (fun q2 => match q2 with | (v3_2, M_2) => chk (0 ≤ x2 ∧ x2 < 22) (chk (0 ≤ x1 ∧ x1 < 22) (lt (upM M_2 35 x1.toNat (M_2 35 x2.toNat)) (fun M_205 => bnd (itr2 (m_copies_L208 x1 x2) FUEL 0 M_205) (fun q3 => match q3 with | (v3_3, M_3) => some M_3)))))))))))))))
def m_slot (x1 : Int) (M : Mem) : Option (Int) :=
  chk (w32 20 ≠ 0) (some (2 + ((w32 ((M 0 56) + x1)).tmod (w32 20))))
def m_keeps_B32 (M : Mem) : Option (Mem) :=
  bnd (m_slot (M 0 57) M) (fun r1 => bnd (m_copies r1 0 M) (fun M2 => lt (upM M2 0 57 ((M2 0 57) + 1)) (fun M_52 => some M_52)))
def m_keeps (M : Mem) : Option (Mem) :=
  (if ¬ w32 (M 0 57) = w32 20 then m_keeps_B32 M else chk (w32 20 ≠ 0) (lt (upM M 0 56 ((w32 ((M 0 56) + 1)).tmod (w32 20))) (fun M_19 => lt (upM M_19 0 57 ((M_19 0 57) - 1)) (fun M_29 => m_keeps_B32 M_29))))
def m_undo (M : Mem) : Option (Bool × Mem) :=
  (if ¬ w32 (M 0 57) = 0 then lt (upM M 0 57 ((M 0 57) - 1)) (fun M_28 => bnd (m_slot (M_28 0 57) M_28) (fun r1 => bnd (m_copies 0 r1 M_28) (fun M2 => some (true, M2)))) else bnd2 (m_refuses 4 M) (fun r3 M3 => (if w32 r3 < 0 then some (false, M3) else some (true, M3))))
def m_within (x0 : Int) : Option (Int) :=
  (if w32 (lcmp x0 1000000) ≤ 0 then (if 0 ≤ w32 (lcmp x0 (-1000000)) then some x0 else some (-1000000)) else some 1000000)
def m_floor_B43 (v4 : Int) (s0 : Int) (s1 : Int) (M : Mem) : Option (Int) :=
  (if w32 s0 = w32 s1 then some v4 else some (v4 - 1))
def m_floor_B32 (v2 : Int) (v4 : Int) (s0 : Int) (M : Mem) : Option (Int) :=
  (if 0 ≤ w32 (lcmp v2 0) then m_floor_B43 v4 s0 0 M else m_floor_B43 v4 s0 1 M)
def m_floor (x0 : Int) (x2 : Int) (M : Mem) : Option (Int) :=
  (if ¬ w32 (lcmp x2 0) = 0 then chk (w64 x2 ≠ 0) (lt (((w64 x0).tdiv (w64 x2))) (fun v4_11 => chk (w64 x2 ≠ 0) ((if w32 (lcmp ((w64 x0).tmod (w64 x2)) 0) = 0 then some v4_11 else (if 0 ≤ w32 (lcmp x0 0) then m_floor_B32 x2 v4_11 0 M else m_floor_B32 x2 v4_11 1 M))))) else some 0)
def m_two (x0 : Int) (x1 : Int) (x3 : Int) (M : Mem) : Option (Int) :=
  (if w32 x0 = 31 then bnd (m_within (x1 + x3)) (fun r1 => some r1) else (if w32 x0 = 32 then bnd (m_within (x1 - x3)) (fun r2 => some r2) else (if w32 x0 = 33 then bnd (m_within (x1 * x3)) (fun r3 => some r3) else (if w32 x0 = 34 then bnd (m_floor x1 x3 M) (fun r4 => bnd (m_within r4) (fun r5 => some r5)) else (if w32 x0 = 35 then (if ¬ w32 (lcmp x3 0) = 0 then bnd (m_floor x1 x3 M) (fun r6 => bnd (m_within (x1 - (x3 * r6))) (fun r7 => some r7)) else some 0) else (if w32 x0 = 36 then (if 0 ≤ w32 (lcmp x1 x3) then some x3 else some x1) else (if w32 x0 = 37 then (if w32 (lcmp x1 x3) ≤ 0 then some x3 else some x1) else (if w32 x0 = 38 then (if 0 ≤ w32 (lcmp x1 x3) then some 0 else some 1) else (if w32 x0 = 39 then (if w32 (lcmp x1 x3) ≤ 0 then some 0 else some 1) else (if w32 x0 = 40 then (if ¬ w32 (lcmp x1 x3) = 0 then some 0 else some 1) else (if w32 x0 = 41 then some (and64 x1 x3) else some (or64 x1 x3))))))))))))
def m_reckons_L25 (v1 : Int) (rec : Int → Int → Mem → Option (Int × Int × Mem)) (v2 : Int) (v3 : Int) (M : Mem) : Option (Int × Int × Mem) :=
  chk (0 ≤ ((3 * (M 0 13)) + v1) ∧ ((3 * (M 0 13)) + v1) < 6) ((if w32 ((1600 * (M 0 13)) + (M 13 ((3 * (M 0 13)) + v1).toNat)) ≤ w32 v3 then some (v2, v3, M) else chk (0 ≤ v3 ∧ v3 < 3200) (lt ((M 14 v3.toNat)) (fun v4_57 => (if w32 30 < w32 v4_57 then (if ¬ w32 v4_57 = w32 43 then (if ¬ w32 v4_57 = w32 44 then lt (v2 + (-1)) (fun v2_191 => chk (0 ≤ (v2_191 - 1) ∧ (v2_191 - 1) < 500) (chk (0 ≤ v2_191 ∧ v2_191 < 500) (bnd (m_two v4_57 (M 37 (v2_191 - 1).toNat) (M 37 v2_191.toNat) M) (fun r1 => chk (0 ≤ (v2_191 - 1) ∧ (v2_191 - 1) < 500) (lt (upM M 37 (v2_191 - 1).toNat r1) (fun M_220 => lt (v3 + 1) (fun v3_221 => rec v2_191 v3_221 M_220))))))) else lt (v2 + (-2)) (fun v2_147 => chk (0 ≤ (v2_147 - 1) ∧ (v2_147 - 1) < 500) ((if ¬ w32 (lcmp (M 37 (v2_147 - 1).toNat) 1) = 0 then chk (0 ≤ (v2_147 + 1) ∧ (v2_147 + 1) < 500) (chk (0 ≤ (v2_147 - 1) ∧ (v2_147 - 1) < 500) (lt (upM M 37 (v2_147 - 1).toNat (M 37 (v2_147 + 1).toNat)) (fun M_187 => lt (v3 + 1) (fun v3_221 => rec v2_147 v3_221 M_187)))) else chk (0 ≤ v2_147 ∧ v2_147 < 500) (chk (0 ≤ (v2_147 - 1) ∧ (v2_147 - 1) < 500) (lt (upM M 37 (v2_147 - 1).toNat (M 37 v2_147.toNat)) (fun M_187 => lt (v3 + 1) (fun v3_221 => rec v2_147 v3_221 M_187)))))))) else chk (0 ≤ (v2 - 1) ∧ (v2 - 1) < 500) (chk (0 ≤ (v2 - 1) ∧ (v2 - 1) < 500) (lt (upM M 37 (v2 - 1).toNat (1 - (M 37 (v2 - 1).toNat))) (fun M_136 => lt (v3 + 1) (fun v3_221 => rec v2 v3_221 M_136))))) else (if ¬ w32 v4_57 = 0 then (if ¬ w32 v4_57 = w32 30 then chk (0 ≤ v4_57 ∧ v4_57 < 12) (chk (0 ≤ v2 ∧ v2 < 500) (lt (upM M 37 v2.toNat (w32 (M 38 v4_57.toNat))) (fun M_105 => lt (v2 + 1) (fun v2_106 => lt (v3 + 1) (fun v3_221 => rec v2_106 v3_221 M_105))))) else chk (0 ≤ v2 ∧ v2 < 500) (lt (upM M 37 v2.toNat 1) (fun M_105 => lt (v2 + 1) (fun v2_106 => lt (v3 + 1) (fun v3_221 => rec v2_106 v3_221 M_105))))) else chk (0 ≤ v3 ∧ v3 < 3200) (chk (0 ≤ v2 ∧ v2 < 500) (lt (upM M 37 v2.toNat (w32 (M 15 v3.toNat))) (fun M_105 => lt (v2 + 1) (fun v2_106 => lt (v3 + 1) (fun v3_221 => rec v2_106 v3_221 M_105)))))))))))
def m_reckons (x1 : Int) (M : Mem) : Option (Int × Mem) :=
  chk (0 ≤ ((3 * (M 0 13)) + x1) ∧ ((3 * (M 0 13)) + x1) < 6) (lt (((1600 * (M 0 13)) + (M 12 ((3 * (M 0 13)) + x1).toNat))) (fun v3_24 => bnd (itr3 (m_reckons_L25 x1) FUEL 0 v3_24 M) (fun q2 => match q2 with | (v2_2, v3_2, M_2) => some ((M_2 37 0), M_2))))
def m_isTold (x1 : Int) (M : Mem) : Option (Bool) :=
  chk (0 ≤ ((3 * (M 0 13)) + x1) ∧ ((3 * (M 0 13)) + x1) < 6) ((if w32 (M 12 ((3 * (M 0 13)) + x1).toNat) = w32 (-1) then some false else some true))
def m_lays (x1 : Int) (x2 : Int) (M : Mem) : Option (Mem) :=
  chk (0 ≤ ((12 * (M 0 13)) + x2) ∧ ((12 * (M 0 13)) + x2) < 24) (chk (0 ≤ ((8 * (M 0 13)) + (M 8 ((12 * (M 0 13)) + x2).toNat)) ∧ ((8 * (M 0 13)) + (M 8 ((12 * (M 0 13)) + x2).toNat)) < 16) (lt (upM M 38 1 (M 5 ((8 * (M 0 13)) + (M 8 ((12 * (M 0 13)) + x2).toNat)).toNat)) (fun M_32 => chk (0 ≤ ((12 * x1) + x2) ∧ ((12 * x1) + x2) < 264) (lt (upM M_32 38 2 (M_32 31 ((12 * x1) + x2).toNat)) (fun M_49 => chk (0 ≤ x1 ∧ x1 < 22) (lt (upM M_49 38 3 (M_49 25 x1.toNat)) (fun M_61 => chk (0 ≤ ((12 * (M_61 0 13)) + x2) ∧ ((12 * (M_61 0 13)) + x2) < 24) (lt (upM M_61 38 4 (M_61 10 ((12 * (M_61 0 13)) + x2).toNat)) (fun M_81 => chk (0 ≤ ((12 * (M_81 0 13)) + x2) ∧ ((12 * (M_81 0 13)) + x2) < 24) (chk (0 ≤ ((8 * (M_81 0 13)) + (M_81 8 ((12 * (M_81 0 13)) + x2).toNat)) ∧ ((8 * (M_81 0 13)) + (M_81 8 ((12 * (M_81 0 13)) + x2).toNat)) < 16) (lt (upM M_81 38 8 (M_81 6 ((8 * (M_81 0 13)) + (M_81 8 ((12 * (M_81 0 13)) + x2).toNat)).toNat)) (fun M_115 => some M_115))))))))))))
def m_pickOf (x1 : Int) (x2 : Int) (x3 : Int) (M : Mem) : Option (Int × Mem) :=
  bnd (m_lays x1 x2 M) (fun M1 => chk (0 ≤ ((7 * x1) + x3) ∧ ((7 * x1) + x3) < 154) (lt ((M1 26 ((7 * x1) + x3).toNat)) (fun v4_17 => bnd (m_isTold 0 M1) (fun r2 => (if r2 = true then lt (upM M1 38 5 v4_17) (fun M_71 => chk (0 ≤ ((7 * x1) + x3) ∧ ((7 * x1) + x3) < 154) (lt (upM M_71 38 6 (M_71 27 ((7 * x1) + x3).toNat)) (fun M_89 => bnd2 (m_reckons 0 M_89) (fun r3 M3 => some (r3, M3))))) else (if w32 v4_17 ≤ w32 (M1 38 1) then some ((w32 (9 - ((M1 38 1) - v4_17))), M1) else some ((w32 (9 - (v4_17 - (M1 38 1)))), M1)))))))
def m_soundingBy_L2 (v1 : Int) (v2 : Int) (M : Mem) (rec : Int → Option ((Int) ⊕ (Int))) (v3 : Int) : Option ((Int) ⊕ (Int)) :=
  chk (0 ≤ (M 0 13) ∧ (M 0 13) < 2) ((if w32 (M 7 (M 0 13).toNat) ≤ w32 v3 then some (.inr v3) else chk (0 ≤ ((12 * v1) + v3) ∧ ((12 * v1) + v3) < 264) ((if ¬ w32 (M 29 ((12 * v1) + v3).toNat) = w32 2 then lt (v3 + 1) (fun v3_47 => rec v3_47) else chk (0 ≤ ((12 * v1) + v3) ∧ ((12 * v1) + v3) < 264) ((if ¬ w32 (M 32 ((12 * v1) + v3).toNat) = w32 v2 then lt (v3 + 1) (fun v3_47 => rec v3_47) else some (.inl v3)))))))
def m_soundingBy (x1 : Int) (x2 : Int) (M : Mem) : Option (Int) :=
  bnd (itr1 (m_soundingBy_L2 x1 x2 M) FUEL 0) (fun q1 => match q1 with | .inl r => some r | .inr v3_1 => some (-1))
def m_busyMany_L4 (v1 : Int) (M : Mem) (rec : Int → Int → Option (Int × Int)) (v2 : Int) (v3 : Int) : Option (Int × Int) :=
  chk (0 ≤ (M 0 13) ∧ (M 0 13) < 2) ((if w32 (M 2 (M 0 13).toNat) ≤ w32 v3 then some (v2, v3) else bnd (m_soundingBy v1 v3 M) (fun r1 => (if ¬ w32 r1 = w32 (-1) then lt ((v2 + 1)) (fun v2_34 => lt (v3 + 1) (fun v3_35 => rec v2_34 v3_35)) else lt ((v2 + 0)) (fun v2_34 => lt (v3 + 1) (fun v3_35 => rec v2_34 v3_35))))))
def m_busyMany (x1 : Int) (M : Mem) : Option (Int) :=
  bnd (itr2 (m_busyMany_L4 x1 M) FUEL 0 0) (fun q2 => match q2 with | (v2_2, v3_2) => some v2_2)
def m_isFree (x1 : Int) (x2 : Int) (M : Mem) : Option (Bool) :=
  chk (0 ≤ x1 ∧ x1 < 22) (bnd (m_has2 (M 28 x1.toNat) x2) (fun r1 => (if r1 = true then some false else bnd (m_soundingBy x1 x2 M) (fun r2 => (if ¬ w32 r2 = w32 (-1) then some false else some true)))))
def m_writesDown_B87 (v1 : Int) (v2 : Int) (v3 : Int) (M : Mem) : Option (Mem) :=
  chk (0 ≤ v1 ∧ v1 < 22) (lt ((3 * ((40 * v1) + (M 35 v1.toNat)))) (fun v4_100 => chk (0 ≤ v1 ∧ v1 < 22) (chk (0 ≤ v4_100 ∧ v4_100 < 2640) (lt (upM M 36 v4_100.toNat (M 25 v1.toNat)) (fun M_114 => chk (0 ≤ (v4_100 + 1) ∧ (v4_100 + 1) < 2640) (lt (upM M_114 36 (v4_100 + 1).toNat v2) (fun M_124 => chk (0 ≤ (v4_100 + 2) ∧ (v4_100 + 2) < 2640) (lt (upM M_124 36 (v4_100 + 2).toNat v3) (fun M_134 => chk (0 ≤ v1 ∧ v1 < 22) (chk (0 ≤ v1 ∧ v1 < 22) (lt (upM M_134 35 v1.toNat ((M_134 35 v1.toNat) + 1)) (fun M_144 => some M_144))))))))))))
def m_writesDown_L41 (v1 : Int) (v2 : Int) (v3 : Int) (rec : Int → Mem → Option (Int × Mem)) (v4 : Int) (M : Mem) : Option (Int × Mem) :=
  (if w32 (((120 * v1) + 120) - 3) ≤ w32 v4 then some (v4, M) else chk (0 ≤ (v4 + 3) ∧ (v4 + 3) < 2640) (chk (0 ≤ v4 ∧ v4 < 2640) (lt (upM M 36 v4.toNat (M 36 (v4 + 3).toNat)) (fun M_70 => lt (v4 + 1) (fun v4_71 => rec v4_71 M_70)))))
def m_writesDown (x1 : Int) (x2 : Int) (x3 : Int) (M : Mem) : Option (Mem) :=
  chk (0 ≤ ((12 * x1) + x2) ∧ ((12 * x1) + x2) < 264) (lt (upM M 29 ((12 * x1) + x2).toNat x3) (fun M_11 => chk (0 ≤ ((12 * x1) + x2) ∧ ((12 * x1) + x2) < 264) (lt (upM M_11 33 ((12 * x1) + x2).toNat 0) (fun M_23 => chk (0 ≤ x1 ∧ x1 < 22) ((if ¬ w32 (M_23 35 x1.toNat) = w32 40 then m_writesDown_B87 x1 x2 x3 M_23 else lt ((120 * x1)) (fun v4_39 => bnd (itr2 (m_writesDown_L41 x1 x2 x3) FUEL v4_39 M_23) (fun q1 => match q1 with | (v4_1, M_1) => chk (0 ≤ x1 ∧ x1 < 22) (chk (0 ≤ x1 ∧ x1 < 22) (lt (upM M_1 35 x1.toNat ((M_1 35 x1.toNat) - 1)) (fun M_86 => m_writesDown_B87 x1 x2 x3 M_86)))))))))))
def m_strikes (x1 : Int) (x2 : Int) (M : Mem) : Option (Mem) :=
  chk (0 ≤ x1 ∧ x1 < 22) (chk (0 ≤ x1 ∧ x1 < 22) (lt (upM M 28 x1.toNat (or32 (M 28 x1.toNat) (shl32 1 x2))) (fun M_11 => bnd (m_soundingBy x1 x2 M_11) (fun r1 => (if w32 r1 = w32 (-1) then some M_11 else bnd (m_writesDown x1 r1 5 M_11) (fun M2 => some M2))))))
def m_isGiven_B76 (v1 : Int) (v2 : Int) (v3 : Int) (M : Mem) : Option (Mem) :=
  bnd (m_lays v1 v2 M) (fun M1 => chk (0 ≤ ((7 * v1) + v3) ∧ ((7 * v1) + v3) < 154) (lt (upM M1 38 5 (M1 26 ((7 * v1) + v3).toNat)) (fun M_98 => bnd (m_busyMany v1 M_98) (fun r2 => lt (upM M_98 38 7 r2) (fun M_110 => bnd (m_isTold 1 M_110) (fun r3 => (if r3 = true then bnd2 (m_reckons 1 M_110) (fun r4 M4 => (if ¬ w32 (lcmp r4 1) = 0 then some M4 else chk (0 ≤ v1 ∧ v1 < 22) (chk (0 ≤ v1 ∧ v1 < 22) (lt (upM M4 34 v1.toNat (or32 (M4 34 v1.toNat) (shl32 1 v2))) (fun M_140 => some M_140))))) else some M_110)))))))
def m_isGiven (x1 : Int) (x2 : Int) (x3 : Int) (M : Mem) : Option (Mem) :=
  lt (((12 * x1) + x2)) (fun v4_6 => chk (0 ≤ v4_6 ∧ v4_6 < 264) (lt (upM M 29 v4_6.toNat 2) (fun M_15 => chk (0 ≤ v4_6 ∧ v4_6 < 264) (lt (upM M_15 32 v4_6.toNat x3) (fun M_23 => chk (0 ≤ ((12 * (M_23 0 13)) + x2) ∧ ((12 * (M_23 0 13)) + x2) < 24) (chk (0 ≤ v4_6 ∧ v4_6 < 264) (lt (upM M_23 33 v4_6.toNat (M_23 10 ((12 * (M_23 0 13)) + x2).toNat)) (fun M_44 => chk (0 ≤ ((7 * x1) + x3) ∧ ((7 * x1) + x3) < 154) ((if w32 99 ≤ w32 (M_44 27 ((7 * x1) + x3).toNat) then m_isGiven_B76 x1 x2 x3 M_44 else chk (0 ≤ ((7 * x1) + x3) ∧ ((7 * x1) + x3) < 154) (chk (0 ≤ ((7 * x1) + x3) ∧ ((7 * x1) + x3) < 154) (lt (upM M_44 27 ((7 * x1) + x3).toNat ((M_44 27 ((7 * x1) + x3).toNat) + 1)) (fun M_75 => m_isGiven_B76 x1 x2 x3 M_75)))))))))))))
def m_finds_L9 (v1 : Int) (v2 : Int) (v3 : Int) (rec : Int → Int → Int → Mem → Option (Int × Int × Int × Mem)) (v4 : Int) (v5 : Int) (v7 : Int) (M : Mem) : Option (Int × Int × Int × Mem) :=
  chk (0 ≤ (M 0 13) ∧ (M 0 13) < 2) ((if w32 (M 2 (M 0 13).toNat) ≤ w32 v7 then some (v4, v5, v7, M) else bnd (m_has2 v3 v7) (fun r1 => (if r1 = true then bnd (m_isFree v1 v7 M) (fun r2 => (if r2 = true then bnd2 (m_pickOf v1 v2 v7 M) (fun r3 M3 => (if 0 < w32 (lcmp r3 v5) then lt (v7 + 1) (fun v7_74 => rec v7 r3 v7_74 M3) else lt (v7 + 1) (fun v7_74 => rec v4 v5 v7_74 M3))) else lt (v7 + 1) (fun v7_74 => rec v4 v5 v7_74 M))) else lt (v7 + 1) (fun v7_74 => rec v4 v5 v7_74 M)))))
def m_finds (x1 : Int) (x2 : Int) (x3 : Int) (M : Mem) : Option (Mem) :=
  bnd (itr4 (m_finds_L9 x1 x2 x3) FUEL (-1) 0 0 M) (fun q4 => match q4 with | (v4_4, v5_4, v7_4, M_4) => (if w32 v4_4 = w32 (-1) then some M_4 else bnd (m_isGiven x1 x2 v4_4 M_4) (fun M5 => some M5)))
def m_isHushed (x1 : Int) (x2 : Int) (M : Mem) : Option (Bool × Mem) :=
  bnd (m_lays x1 x2 M) (fun M1 => bnd (m_isTold 2 M1) (fun r2 => (if r2 = true then bnd2 (m_reckons 2 M1) (fun r3 M3 => (if ¬ w32 (lcmp r3 1) = 0 then some (false, M3) else some (true, M3))) else (if w32 (M1 38 2) ≤ w32 (M1 38 8) then some (false, M1) else some (true, M1)))))
def m_ticks_L2 (v1 : Int) (v2 : Int) (rec : Int → Mem → Option (Int × Mem)) (v3 : Int) (M : Mem) : Option (Int × Mem) :=
  chk (0 ≤ (M 0 13) ∧ (M 0 13) < 2) ((if w32 (M 7 (M 0 13).toNat) ≤ w32 v3 then some (v3, M) else chk (0 ≤ ((12 * v1) + v3) ∧ ((12 * v1) + v3) < 264) ((if ¬ w32 (M 29 ((12 * v1) + v3).toNat) = 0 then lt (v3 + 1) (fun v3_61 => rec v3_61 M) else chk (0 ≤ ((12 * v1) + v3) ∧ ((12 * v1) + v3) < 264) (chk (0 ≤ v1 ∧ v1 < 22) ((if w32 (M 25 v1.toNat) < w32 (M 30 ((12 * v1) + v3).toNat) then lt (v3 + 1) (fun v3_61 => rec v3_61 M) else chk (0 ≤ ((12 * v1) + v3) ∧ ((12 * v1) + v3) < 264) (lt (upM M 29 ((12 * v1) + v3).toNat 1) (fun M_60 => lt (v3 + 1) (fun v3_61 => rec v3_61 M_60))))))))))
def m_ticks_L69 (v1 : Int) (v2 : Int) (rec : Int → Mem → Option (Int × Mem)) (v3 : Int) (M : Mem) : Option (Int × Mem) :=
  chk (0 ≤ (M 0 13) ∧ (M 0 13) < 2) ((if w32 (M 7 (M 0 13).toNat) ≤ w32 v3 then some (v3, M) else chk (0 ≤ ((12 * v1) + v3) ∧ ((12 * v1) + v3) < 264) ((if ¬ w32 (M 29 ((12 * v1) + v3).toNat) = w32 1 then lt (v3 + 1) (fun v3_104 => rec v3_104 M) else bnd (m_finds v1 v3 v2 M) (fun M2 => lt (v3 + 1) (fun v3_104 => rec v3_104 M2))))))
def m_ticks_L112_B174 (rec : Int → Mem → Option (Int × Mem)) (v1 : Int) (v3 : Int) (M : Mem) : Option (Int × Mem) :=
  bnd2 (m_isHushed v1 v3 M) (fun r4 M4 => (if r4 = true then bnd (m_writesDown v1 v3 4 M4) (fun M5 => lt (v3 + 1) (fun v3_190 => rec v3_190 M5)) else lt (v3 + 1) (fun v3_190 => rec v3_190 M4)))
def m_ticks_L112 (v1 : Int) (rec : Int → Mem → Option (Int × Mem)) (v3 : Int) (M : Mem) : Option (Int × Mem) :=
  chk (0 ≤ (M 0 13) ∧ (M 0 13) < 2) ((if w32 (M 7 (M 0 13).toNat) ≤ w32 v3 then some (v3, M) else chk (0 ≤ ((12 * v1) + v3) ∧ ((12 * v1) + v3) < 264) ((if w32 (M 29 ((12 * v1) + v3).toNat) = w32 1 then chk (0 ≤ ((12 * v1) + v3) ∧ ((12 * v1) + v3) < 264) ((if w32 99 ≤ w32 (M 31 ((12 * v1) + v3).toNat) then m_ticks_L112_B174 rec v1 v3 M else chk (0 ≤ ((12 * v1) + v3) ∧ ((12 * v1) + v3) < 264) (chk (0 ≤ ((12 * v1) + v3) ∧ ((12 * v1) + v3) < 264) (lt (upM M 31 ((12 * v1) + v3).toNat ((M 31 ((12 * v1) + v3).toNat) + 1)) (fun M_173 => m_ticks_L112_B174 rec v1 v3 M_173))))) else lt (v3 + 1) (fun v3_190 => rec v3_190 M)))))
def m_ticks_L198_B246 (rec : Int → Mem → Option (Int × Mem)) (v1 : Int) (v3 : Int) (s1 : Int) (s2 : Int) (M : Mem) : Option (Int × Mem) :=
  chk (0 ≤ s1 ∧ s1 < 12) (lt (upM M 39 s1.toNat s2) (fun M_246 => chk (0 ≤ v3 ∧ v3 < 12) ((if ¬ w32 (M_246 39 v3.toNat) = w32 (-1) then chk (0 ≤ ((12 * v1) + v3) ∧ ((12 * v1) + v3) < 264) (chk (0 ≤ ((12 * v1) + v3) ∧ ((12 * v1) + v3) < 264) (lt (upM M_246 33 ((12 * v1) + v3).toNat ((M_246 33 ((12 * v1) + v3).toNat) - 1)) (fun M_274 => chk (0 ≤ ((12 * v1) + v3) ∧ ((12 * v1) + v3) < 264) ((if ¬ w32 (M_274 33 ((12 * v1) + v3).toNat) = 0 then lt (v3 + 1) (fun v3_296 => rec v3_296 M_274) else bnd (m_writesDown v1 v3 3 M_274) (fun M7 => lt (v3 + 1) (fun v3_296 => rec v3_296 M7))))))) else lt (v3 + 1) (fun v3_296 => rec v3_296 M_246)))))
def m_ticks_L198 (v1 : Int) (rec : Int → Mem → Option (Int × Mem)) (v3 : Int) (M : Mem) : Option (Int × Mem) :=
  chk (0 ≤ (M 0 13) ∧ (M 0 13) < 2) ((if w32 (M 7 (M 0 13).toNat) ≤ w32 v3 then some (v3, M) else chk (0 ≤ ((12 * v1) + v3) ∧ ((12 * v1) + v3) < 264) ((if ¬ w32 (M 29 ((12 * v1) + v3).toNat) = w32 2 then m_ticks_L198_B246 rec v1 v3 v3 (-1) M else chk (0 ≤ ((12 * v1) + v3) ∧ ((12 * v1) + v3) < 264) (m_ticks_L198_B246 rec v1 v3 v3 (M 32 ((12 * v1) + v3).toNat) M)))))
def m_ticks (x1 : Int) (x2 : Int) (M : Mem) : Option (Mem) :=
  bnd (itr2 (m_ticks_L2 x1 x2) FUEL 0 M) (fun q1 => match q1 with | (v3_1, M_1) => bnd (itr2 (m_ticks_L69 x1 x2) FUEL 0 M_1) (fun q3 => match q3 with | (v3_3, M_3) => bnd (itr2 (m_ticks_L112 x1) FUEL 0 M_3) (fun q6 => match q6 with | (v3_6, M_6) => bnd (itr2 (m_ticks_L198 x1) FUEL 0 M_6) (fun q8 => match q8 with | (v3_8, M_8) => chk (0 ≤ x1 ∧ x1 < 22) (chk (0 ≤ x1 ∧ x1 < 22) (lt (upM M_8 25 x1.toNat ((M_8 25 x1.toNat) + 1)) (fun M_311 => some M_311)))))))
def m_all (M : Mem) : Option (Int) :=
  chk (0 ≤ (M 0 13) ∧ (M 0 13) < 2) (some ((shl32 1 (M 2 (M 0 13).toNat)) - 1))
def m_bits_L4 (M : Mem) (rec : Int → Int → Option (Int × Int)) (v1 : Int) (v2 : Int) : Option (Int × Int) :=
  (if w32 v2 = 0 then some (v1, v2) else lt (v1 + 1) (fun v1_8 => lt ((and32 v2 (v2 - 1))) (fun v2_16 => rec v1_8 v2_16)))
def m_bits (x0 : Int) (M : Mem) : Option (Int) :=
  bnd (itr2 (m_bits_L4 M) FUEL 0 x0) (fun q1 => match q1 with | (v1_1, v2_1) => some v1_1)
def m_manyOf_L6 (v1 : Int) (v2 : Int) (v3 : Int) (M : Mem) (rec : Int → Int → Option (Int × Int)) (v4 : Int) (v5 : Int) : Option (Int × Int) :=
  chk (0 ≤ (M 0 13) ∧ (M 0 13) < 2) ((if w32 (M 7 (M 0 13).toNat) ≤ w32 v5 then some (v4, v5) else chk (0 ≤ ((12 * v1) + v5) ∧ ((12 * v1) + v5) < 264) ((if w32 (M 29 ((12 * v1) + v5).toNat) = w32 v2 then lt ((v4 + 1)) (fun v4_60 => lt (v5 + 1) (fun v5_62 => rec v4_60 v5_62)) else chk (0 ≤ ((12 * v1) + v5) ∧ ((12 * v1) + v5) < 264) ((if ¬ w32 (M 29 ((12 * v1) + v5).toNat) = w32 v3 then lt ((v4 + 0)) (fun v4_60 => lt (v5 + 1) (fun v5_62 => rec v4_60 v5_62)) else lt ((v4 + 1)) (fun v4_60 => lt (v5 + 1) (fun v5_62 => rec v4_60 v5_62))))))))
def m_manyOf (x1 : Int) (x2 : Int) (x3 : Int) (M : Mem) : Option (Int) :=
  bnd (itr2 (m_manyOf_L6 x1 x2 x3 M) FUEL 0 0) (fun q1 => match q1 with | (v4_1, v5_1) => some v4_1)
def m_isVoice (x1 : Int) (M : Mem) : Option (Bool) :=
  (if w32 x1 < 0 then some false else chk (0 ≤ (M 0 13) ∧ (M 0 13) < 2) ((if w32 (M 2 (M 0 13).toNat) ≤ w32 x1 then some false else some true)))
def m_isPerson (x1 : Int) (M : Mem) : Option (Bool) :=
  (if w32 x1 < 0 then some false else chk (0 ≤ (M 0 13) ∧ (M 0 13) < 2) ((if w32 (M 4 (M 0 13).toNat) ≤ w32 x1 then some false else some true)))
def m_isSaying (x1 : Int) (M : Mem) : Option (Bool) :=
  (if w32 x1 < 0 then some false else chk (0 ≤ (M 0 13) ∧ (M 0 13) < 2) ((if w32 (M 7 (M 0 13).toNat) ≤ w32 x1 then some false else some true)))
def m_has (x1 : Int) (M : Mem) : Option (Int) :=
  (if w32 x1 = 0 then chk (0 ≤ (M 0 13) ∧ (M 0 13) < 2) (some (M 2 (M 0 13).toNat)) else (if w32 x1 = 1 then chk (0 ≤ (M 0 13) ∧ (M 0 13) < 2) (some (M 4 (M 0 13).toNat)) else (if w32 x1 = 2 then chk (0 ≤ (M 0 13) ∧ (M 0 13) < 2) (some (M 7 (M 0 13).toNat)) else (if w32 x1 = 3 then some (M 25 0) else (if w32 x1 = 4 then bnd (m_bits (M 28 0) M) (fun r1 => some r1) else (if w32 x1 = 5 then bnd (m_busyMany 0 M) (fun r2 => some r2) else (if w32 x1 = 6 then bnd (m_manyOf 0 (x1 - 6) (x1 - 6) M) (fun r3 => some r3) else (if w32 x1 = 7 then bnd (m_manyOf 0 (x1 - 6) (x1 - 6) M) (fun r4 => some r4) else (if w32 x1 = 8 then bnd (m_manyOf 0 (x1 - 6) (x1 - 6) M) (fun r5 => some r5) else (if w32 x1 = 9 then bnd (m_manyOf 0 (x1 - 6) (x1 - 6) M) (fun r6 => some r6) else (if w32 x1 = 10 then bnd (m_manyOf 0 (x1 - 6) (x1 - 6) M) (fun r7 => some r7) else (if w32 x1 = 11 then bnd (m_manyOf 0 (x1 - 6) (x1 - 6) M) (fun r8 => some r8) else (if w32 x1 = 12 then some (M 35 0) else (if w32 x1 = 13 then some (M 0 63) else (if w32 x1 = 14 then some (M 0 57) else (if w32 x1 = 15 then some (M 0 58) else some (-1)))))))))))))))))
def m_letter_L92 (v3 : Int) (v5 : Int) (M : Mem) (rec : Int → Int → Option (Int × Int)) (v7 : Int) (v8 : Int) : Option (Int × Int) :=
  (if w32 (lcmp v8 0) ≤ 0 then some (v7, v8) else lt (v7 + 1) (fun v7_99 => lt ((shr64 v8 8)) (fun v8_107 => rec v7_99 v8_107)))
def m_letter_B83 (v3 : Int) (s0 : Int) (M : Mem) : Option (Int) :=
  bnd (itr2 (m_letter_L92 v3 s0 M) FUEL 0 s0) (fun q2 => match q2 with | (v7_2, v8_2) => (if w32 v3 < w32 v7_2 then some (((and64 (shr64 s0 (8 * ((v7_2 - 1) - v3))) 255) - 97) + 1) else some 0))
def m_letter_B30 (v1 : Int) (v2 : Int) (v3 : Int) (s0 : Int) (M : Mem) : Option (Int) :=
  (if w32 s0 = 0 then some (-1) else bnd (m_is v3 0 5) (fun r1 => (if r1 = true then (if ¬ w32 v1 = 0 then chk (0 ≤ ((8 * (M 0 13)) + v2) ∧ ((8 * (M 0 13)) + v2) < 16) (m_letter_B83 v3 (M 17 ((8 * (M 0 13)) + v2).toNat) M) else chk (0 ≤ ((7 * (M 0 13)) + v2) ∧ ((7 * (M 0 13)) + v2) < 14) (m_letter_B83 v3 (M 16 ((7 * (M 0 13)) + v2).toNat) M)) else some (-1))))
def m_letter_B29 (v1 : Int) (v2 : Int) (v3 : Int) (M : Mem) : Option (Int) :=
  m_letter_B30 v1 v2 v3 0 M
def m_letter (x1 : Int) (x2 : Int) (x3 : Int) (M : Mem) : Option (Int) :=
  (if ¬ w32 x1 = 0 then (if ¬ w32 x1 = w32 1 then m_letter_B29 x1 x2 x3 M else bnd (m_isPerson x2 M) (fun r3 => (if r3 = true then m_letter_B30 x1 x2 x3 1 M else m_letter_B29 x1 x2 x3 M))) else bnd (m_isVoice x2 M) (fun r4 => m_letter_B30 x1 x2 x3 (b2i r4) M))
def m_voice (x1 : Int) (x2 : Int) (M : Mem) : Option (Int) :=
  bnd (m_isVoice x1 M) (fun r1 => (if r1 = true then (if ¬ w32 x2 = 0 then (if ¬ w32 x2 = w32 1 then (if ¬ w32 x2 = w32 2 then (if ¬ w32 x2 = w32 3 then some (-1) else bnd (m_soundingBy 0 x1 M) (fun r2 => some r2)) else chk (0 ≤ x1 ∧ x1 < 154) (some (M 27 x1.toNat))) else bnd (m_has2 (M 28 0) x1) (fun r3 => (if r3 = true then some 1 else some 0))) else chk (0 ≤ x1 ∧ x1 < 154) (some (M 26 x1.toNat))) else some (-1)))
def m_person_L65 (v1 : Int) (v2 : Int) (M : Mem) (rec : Int → Int → Option (Int × Int)) (v3 : Int) (v4 : Int) : Option (Int × Int) :=
  chk (0 ≤ (M 0 13) ∧ (M 0 13) < 2) ((if w32 (M 7 (M 0 13).toNat) ≤ w32 v4 then some (v3, v4) else chk (0 ≤ ((12 * (M 0 13)) + v4) ∧ ((12 * (M 0 13)) + v4) < 24) ((if ¬ w32 (M 8 ((12 * (M 0 13)) + v4).toNat) = w32 v1 then lt ((v3 + 0)) (fun v3_121 => lt (v4 + 1) (fun v4_122 => rec v3_121 v4_122)) else (if w32 v2 = w32 2 then lt ((v3 + 1)) (fun v3_121 => lt (v4 + 1) (fun v4_122 => rec v3_121 v4_122)) else chk (0 ≤ v4 ∧ v4 < 264) ((if ¬ w32 (M 29 v4.toNat) = w32 2 then lt ((v3 + 0)) (fun v3_121 => lt (v4 + 1) (fun v4_122 => rec v3_121 v4_122)) else lt ((v3 + 1)) (fun v3_121 => lt (v4 + 1) (fun v4_122 => rec v3_121 v4_122)))))))))
def m_person (x1 : Int) (x2 : Int) (M : Mem) : Option (Int) :=
  bnd (m_isPerson x1 M) (fun r1 => (if r1 = true then bnd (m_is x2 0 3) (fun r2 => (if r2 = true then (if w32 2 ≤ w32 x2 then bnd (itr2 (m_person_L65 x1 x2 M) FUEL 0 0) (fun q3 => match q3 with | (v3_3, v4_3) => some v3_3) else (if ¬ w32 x2 = 0 then chk (0 ≤ ((8 * (M 0 13)) + x1) ∧ ((8 * (M 0 13)) + x1) < 16) (some (M 6 ((8 * (M 0 13)) + x1).toNat)) else chk (0 ≤ ((8 * (M 0 13)) + x1) ∧ ((8 * (M 0 13)) + x1) < 16) (some (M 5 ((8 * (M 0 13)) + x1).toNat)))) else some (-1))) else some (-1)))
def m_saying (x1 : Int) (x2 : Int) (M : Mem) : Option (Int) :=
  bnd (m_isSaying x1 M) (fun r1 => (if r1 = true then (if w32 x2 = 0 then chk (0 ≤ ((12 * (M 0 13)) + x1) ∧ ((12 * (M 0 13)) + x1) < 24) (some (M 8 ((12 * (M 0 13)) + x1).toNat)) else (if w32 x2 = 1 then chk (0 ≤ x1 ∧ x1 < 264) (some (M 30 x1.toNat)) else (if w32 x2 = 2 then chk (0 ≤ ((12 * (M 0 13)) + x1) ∧ ((12 * (M 0 13)) + x1) < 24) (some (M 10 ((12 * (M 0 13)) + x1).toNat)) else (if w32 x2 = 3 then chk (0 ≤ x1 ∧ x1 < 264) (some (M 29 x1.toNat)) else (if w32 x2 = 4 then chk (0 ≤ x1 ∧ x1 < 264) (some (M 31 x1.toNat)) else (if w32 x2 = 5 then chk (0 ≤ x1 ∧ x1 < 264) (some (M 32 x1.toNat)) else (if w32 x2 = 6 then chk (0 ≤ x1 ∧ x1 < 264) (some (M 33 x1.toNat)) else (if w32 x2 = 7 then bnd (m_has2 (M 34 0) x1) (fun r2 => (if r2 = true then some 1 else some 0)) else some (-1))))))))) else some (-1)))
def m_picks (x1 : Int) (x2 : Int) (M : Mem) : Option (Int × Mem) :=
  bnd (m_isSaying x1 M) (fun r1 => (if r1 = true then bnd (m_isVoice x2 M) (fun r2 => (if r2 = true then bnd2 (m_pickOf 0 x1 x2 M) (fun r3 M3 => some (r3, M3)) else some ((-1000000000000000), M))) else some ((-1000000000000000), M)))
def m_isAhead (x1 : Int) (x2 : Int) (x3 : Int) (M : Mem) : Option (Bool) :=
  bnd (m_is x1 x2 x3) (fun r1 => (if r1 = true then (if w32 (999 - x1) < w32 (M 25 0) then some false else some true) else some false))
def m_goesOn__L2 (v1 : Int) (v2 : Int) (rec : Int → Mem → Option (Int × Mem)) (v3 : Int) (M : Mem) : Option (Int × Mem) :=
  (if w32 v1 ≤ w32 v3 then some (v3, M) else bnd (m_ticks 1 v2 M) (fun M1 => lt (v3 + 1) (fun v3_13 => rec v3_13 M1)))
def m_goesOn_ (x1 : Int) (x2 : Int) (M : Mem) : Option (Mem) :=
  bnd (itr2 (m_goesOn__L2 x1 x2) FUEL 0 M) (fun q2 => match q2 with | (v3_2, M_2) => some M_2)
def m_later (x1 : Int) (x2 : Int) (x3 : Int) (M : Mem) : Option (Int × Mem) :=
  bnd (m_isSaying x1 M) (fun r1 => (if r1 = true then bnd (m_isAhead x2 0 60 M) (fun r2 => (if r2 = true then bnd (m_is x3 0 2) (fun r3 => (if r3 = true then bnd (m_copies 1 0 M) (fun M4 => bnd (m_all M4) (fun r5 => bnd (m_goesOn_ x2 r5 M4) (fun M6 => (if ¬ w32 x3 = 0 then (if ¬ w32 x3 = w32 1 then bnd (m_has2 (M6 34 1) x1) (fun r7 => (if r7 = true then some (1, M6) else some (0, M6))) else chk (0 ≤ (12 + x1) ∧ (12 + x1) < 264) (some ((M6 32 (12 + x1).toNat), M6))) else chk (0 ≤ (12 + x1) ∧ (12 + x1) < 264) (some ((M6 29 (12 + x1).toNat), M6)))))) else some ((-1), M))) else some ((-1), M))) else some ((-1), M)))
def m_ends_L18 (v1 : Int) (rec : Int → Mem → Option ((Int × Mem) ⊕ (Int × Mem))) (v2 : Int) (M : Mem) : Option ((Int × Mem) ⊕ (Int × Mem)) :=
  bnd (m_isAhead v2 0 60 M) (fun r3 => (if r3 = true then chk (0 ≤ (12 + v1) ∧ (12 + v1) < 264) ((if w32 (M 29 (12 + v1).toNat) < w32 3 then bnd (m_all M) (fun r4 => bnd (m_ticks 1 r4 M) (fun M5 => lt (v2 + 1) (fun v2_53 => rec v2_53 M5))) else some (.inl (v2, M)))) else some (.inr (v2, M))))
def m_ends (x1 : Int) (M : Mem) : Option (Int × Mem) :=
  bnd (m_isSaying x1 M) (fun r1 => (if r1 = true then bnd (m_copies 1 0 M) (fun M2 => bnd (itr2 (m_ends_L18 x1) FUEL 0 M2) (fun q6 => match q6 with | .inl r => some r | .inr (v2_6, M_6) => some ((-1), M_6))) else some ((-1), M)))
def m_busy (x1 : Int) (M : Mem) : Option (Int × Mem) :=
  bnd (m_isAhead x1 0 60 M) (fun r1 => (if r1 = true then bnd (m_copies 1 0 M) (fun M2 => bnd (m_all M2) (fun r3 => bnd (m_goesOn_ x1 r3 M2) (fun M4 => bnd (m_busyMany 1 M4) (fun r5 => some (r5, M4))))) else some ((-1), M)))
def m_from (x0 : Int) (x1 : Int) : Option (Int) :=
  some ((128 * x0) + x1)
def m_fits (x1 : Int) (x2 : Int) (x3 : Int) (M : Mem) : Option (Int × Mem) :=
  chk (0 ≤ x1 ∧ x1 < 264) ((if ¬ w32 (M 29 x1.toNat) = w32 1 then some (0, M) else bnd (m_has2 x3 x2) (fun r1 => (if r1 = true then some (0, M) else bnd (m_isFree 0 x2 M) (fun r2 => (if r2 = true then bnd2 (m_pickOf 0 x1 x2 M) (fun r3 M3 => (if w32 (lcmp r3 0) ≤ 0 then some (0, M3) else some (r3, M3))) else some (0, M)))))))
def m_match_L17 (v1 : Int) (rec : Int → Mem → Option (Int × Mem)) (v2 : Int) (M : Mem) : Option (Int × Mem) :=
  (if w32 128 ≤ w32 v2 then some (v2, M) else chk (0 ≤ (M 0 13) ∧ (M 0 13) < 2) (bnd (m_from (M 7 (M 0 13).toNat) v2) (fun r1 => chk (0 ≤ r1 ∧ r1 < 1664) (lt (upM M 40 r1.toNat 0) (fun M_42 => lt (v2 + 1) (fun v2_43 => rec v2_43 M_42))))))
def m_match_L91 (v1 : Int) (v2 : Int) (v3 : Int) (rec : Int → Int → Mem → Option (Int × Int × Mem)) (v4 : Int) (v5 : Int) (M : Mem) : Option (Int × Int × Mem) :=
  chk (0 ≤ (M 0 13) ∧ (M 0 13) < 2) ((if w32 (M 2 (M 0 13).toNat) ≤ w32 v5 then some (v4, v5, M) else bnd2 (m_fits v2 v5 v3 M) (fun r4 M4 => (if w32 r4 ≤ 0 then lt (v5 + 1) (fun v5_167 => rec v4 v5_167 M4) else bnd (m_from (v2 + 1) (or32 v3 (shl32 1 v5))) (fun r5 => chk (0 ≤ r5 ∧ r5 < 1664) ((if w32 (r4 + (M4 40 r5.toNat)) ≤ w32 v4 then lt (v5 + 1) (fun v5_167 => rec v4 v5_167 M4) else bnd (m_from (v2 + 1) (or32 v3 (shl32 1 v5))) (fun r6 => chk (0 ≤ r6 ∧ r6 < 1664) (lt ((r4 + (M4 40 r6.toNat))) (fun v4_165 => lt (v5 + 1) (fun v5_167 => rec v4_165 v5_167 M4)))))))))))
def m_match_L67 (v1 : Int) (v2 : Int) (rec : Int → Mem → Option (Int × Mem)) (v3 : Int) (M : Mem) : Option (Int × Mem) :=
  (if w32 128 ≤ w32 v3 then some (v3, M) else bnd (m_from (v2 + 1) v3) (fun r3 => chk (0 ≤ r3 ∧ r3 < 1664) (lt ((M 40 r3.toNat)) (fun v4_86 => bnd (itr3 (m_match_L91 v1 v2 v3) FUEL v4_86 0 M) (fun q7 => match q7 with | (v4_7, v5_7, M_7) => bnd (m_from v2 v3) (fun r8 => chk (0 ≤ r8 ∧ r8 < 1664) (lt (upM M_7 40 r8.toNat v4_7) (fun M_184 => lt (v3 + 1) (fun v3_185 => rec v3_185 M_184)))))))))
def m_match_L61 (v1 : Int) (rec : Int → Mem → Option (Int × Mem)) (v2 : Int) (M : Mem) : Option (Int × Mem) :=
  (if w32 v2 < 0 then some (v2, M) else bnd (itr2 (m_match_L67 v1 v2) FUEL 0 M) (fun q9 => match q9 with | (v3_9, M_9) => lt (v2 + (-1)) (fun v2_191 => rec v2_191 M_9)))
def m_match_L240 (v1 : Int) (v2 : Int) (v4 : Int) (v5 : Int) (rec : Int → Int → Mem → Option (Int × Int × Mem)) (v3 : Int) (v6 : Int) (M : Mem) : Option (Int × Int × Mem) :=
  chk (0 ≤ (M 0 13) ∧ (M 0 13) < 2) ((if w32 (M 2 (M 0 13).toNat) ≤ w32 v6 then some (v3, v6, M) else (if ¬ w32 v3 = w32 (-1) then some (v3, v6, M) else bnd (m_from (v4 + 1) v2) (fun r12 => chk (0 ≤ r12 ∧ r12 < 1664) ((if w32 (M 40 r12.toNat) = w32 v5 then some (v3, v6, M) else bnd2 (m_fits v4 v6 v2 M) (fun r13 M13 => (if w32 r13 ≤ 0 then lt (v6 + 1) (fun v6_322 => rec v3 v6_322 M13) else bnd (m_from (v4 + 1) (or32 v2 (shl32 1 v6))) (fun r14 => chk (0 ≤ r14 ∧ r14 < 1664) ((if ¬ w32 (r13 + (M13 40 r14.toNat)) = w32 v5 then lt (v6 + 1) (fun v6_322 => rec v3 v6_322 M13) else lt (v6 + 1) (fun v6_322 => rec v6 v6_322 M13))))))))))))
def m_match_L216 (v1 : Int) (rec : Int → Int → Int → Mem → Option (Int × Int × Int × Mem)) (v2 : Int) (v3 : Int) (v4 : Int) (M : Mem) : Option (Int × Int × Int × Mem) :=
  (if w32 v1 < w32 v4 then some (v2, v3, v4, M) else bnd (m_from v4 v2) (fun r11 => chk (0 ≤ r11 ∧ r11 < 1664) (lt ((M 40 r11.toNat)) (fun v5_235 => bnd (itr3 (m_match_L240 v1 v2 v4 v5_235) FUEL (-1) 0 M) (fun q15 => match q15 with | (v3_15, v6_15, M_15) => (if ¬ w32 v3_15 = w32 (-1) then lt ((or32 v2 (shl32 1 v3_15))) (fun v2_342 => lt (v4 + 1) (fun v4_343 => rec v2_342 v3_15 v4_343 M_15)) else lt ((or32 v2 0)) (fun v2_342 => lt (v4 + 1) (fun v4_343 => rec v2_342 v3_15 v4_343 M_15))))))))
def m_match_B15 (v1 : Int) (M : Mem) : Option (Int × Mem) :=
  bnd (itr2 (m_match_L17 v1) FUEL 0 M) (fun q2 => match q2 with | (v2_2, M_2) => chk (0 ≤ (M_2 0 13) ∧ (M_2 0 13) < 2) (lt (((M_2 7 (M_2 0 13).toNat) - 1)) (fun v2_60 => bnd (itr2 (m_match_L61 v1) FUEL v2_60 M_2) (fun q10 => match q10 with | (v2_10, M_10) => (if ¬ w32 v1 = w32 (-1) then bnd (itr4 (m_match_L216 v1) FUEL 0 (-1) 0 M_10) (fun q16 => match q16 with | (v2_16, v3_16, v4_16, M_16) => some (v3_16, M_16)) else some ((M_10 40 0), M_10))))))
def m_match (x1 : Int) (M : Mem) : Option (Int × Mem) :=
  (if w32 x1 = w32 (-1) then m_match_B15 x1 M else bnd (m_isSaying x1 M) (fun r17 => (if r17 = true then m_match_B15 x1 M else some ((-1), M))))
def m_choir_L26_B67 (rec : Int → Int → Mem → Option (Int × Int × Mem)) (v1 : Int) (v2 : Int) (v3 : Int) (v4 : Int) (M : Mem) : Option (Int × Int × Mem) :=
  bnd (m_copies 1 0 M) (fun M4 => bnd (m_goesOn_ v1 v4 M4) (fun M5 => bnd (m_manyOf 1 4 4 M5) (fun r6 => (if ¬ w32 r6 = w32 v2 then lt (v4 + 1) (fun v4_94 => rec v3 v4_94 M5) else lt (v4 + 1) (fun v4_94 => rec v4 v4_94 M5)))))
def m_choir_L26 (v1 : Int) (v2 : Int) (rec : Int → Int → Mem → Option (Int × Int × Mem)) (v3 : Int) (v4 : Int) (M : Mem) : Option (Int × Int × Mem) :=
  bnd (m_all M) (fun r3 => (if w32 r3 < w32 v4 then some (v3, v4, M) else (if ¬ w32 (and32 v4 (M 28 0)) = 0 then lt (v4 + 1) (fun v4_94 => rec v3 v4_94 M) else (if w32 v3 = w32 (-1) then m_choir_L26_B67 rec v1 v2 v3 v4 M else bnd (m_bits v4 M) (fun r7 => bnd (m_bits v3 M) (fun r8 => (if w32 r7 < w32 r8 then m_choir_L26_B67 rec v1 v2 v3 v4 M else lt (v4 + 1) (fun v4_94 => rec v3 v4_94 M))))))))
def m_choir (x1 : Int) (M : Mem) : Option (Int × Mem) :=
  bnd (m_isAhead x1 1 30 M) (fun r1 => (if r1 = true then bnd (m_manyOf 0 4 4 M) (fun r2 => bnd (itr3 (m_choir_L26 x1 r2) FUEL (-1) 0 M) (fun q9 => match q9 with | (v3_9, v4_9, M_9) => some (v3_9, M_9))) else some ((-1), M)))
def m_worst_L30 (v1 : Int) (v2 : Int) (rec : Int → Int → Int → Mem → Option (Int × Int × Int × Mem)) (v3 : Int) (v4 : Int) (v5 : Int) (M : Mem) : Option (Int × Int × Int × Mem) :=
  chk (0 ≤ (M 0 13) ∧ (M 0 13) < 2) ((if w32 (M 2 (M 0 13).toNat) ≤ w32 v5 then some (v3, v4, v5, M) else bnd (m_has2 (M 28 0) v5) (fun r3 => (if r3 = true then lt (v5 + 1) (fun v5_109 => rec v3 v4 v5_109 M) else bnd (m_copies 1 0 M) (fun M4 => bnd (m_strikes 1 v5 M4) (fun M5 => bnd (m_all M5) (fun r6 => bnd (m_goesOn_ v1 r6 M5) (fun M7 => bnd (m_manyOf 1 4 5 M7) (fun r8 => (if w32 v4 < w32 r8 then lt (v5 + 1) (fun v5_109 => rec v5 r8 v5_109 M7) else lt (v5 + 1) (fun v5_109 => rec v3 v4 v5_109 M7)))))))))))
def m_worst (x1 : Int) (x2 : Int) (M : Mem) : Option (Int × Mem) :=
  bnd (m_isAhead x1 1 30 M) (fun r1 => (if r1 = true then bnd (m_is x2 0 1) (fun r2 => (if r2 = true then bnd (itr4 (m_worst_L30 x1 x2) FUEL (-1) (-1) 0 M) (fun q9 => match q9 with | (v3_9, v4_9, v5_9, M_9) => (if ¬ w32 x2 = 0 then some (v4_9, M_9) else some (v3_9, M_9))) else some ((-1), M))) else some ((-1), M)))
def m_tune_L39 (v1 : Int) (v2 : Int) (v3 : Int) (rec : Int → Int → Int → Mem → Option (Int × Int × Int × Mem)) (v4 : Int) (v5 : Int) (v6 : Int) (M : Mem) : Option (Int × Int × Int × Mem) :=
  (if w32 10 ≤ w32 v6 then some (v4, v5, v6, M) else bnd (m_copies 1 0 M) (fun M4 => chk (0 ≤ (7 + v1) ∧ (7 + v1) < 154) (lt (upM M4 26 (7 + v1).toNat v6) (fun M_62 => bnd (m_all M_62) (fun r5 => bnd (m_goesOn_ v2 r5 M_62) (fun M6 => bnd (m_manyOf 1 3 3 M6) (fun r7 => (if w32 v5 < w32 r7 then lt (v6 + 1) (fun v6_99 => rec v6 r7 v6_99 M6) else lt (v6 + 1) (fun v6_99 => rec v4 v5 v6_99 M6)))))))))
def m_tune (x1 : Int) (x2 : Int) (x3 : Int) (M : Mem) : Option (Int × Mem) :=
  bnd (m_isVoice x1 M) (fun r1 => (if r1 = true then bnd (m_isAhead x2 1 30 M) (fun r2 => (if r2 = true then bnd (m_is x3 0 1) (fun r3 => (if r3 = true then bnd (itr4 (m_tune_L39 x1 x2 x3) FUEL (-1) (-1) 0 M) (fun q8 => match q8 with | (v4_8, v5_8, v6_8, M_8) => (if ¬ w32 x3 = 0 then some (v5_8, M_8) else some (v4_8, M_8))) else some ((-1), M))) else some ((-1), M))) else some ((-1), M)))
def m_doesNeed_L2_B41 (rec : Int → Mem → Option ((Bool × Mem) ⊕ (Int × Mem))) (v1 : Int) (v2 : Int) (v3 : Int) (s0 : Int) (M : Mem) : Option ((Bool × Mem) ⊕ (Int × Mem)) :=
  (if ¬ w32 v3 = w32 v2 then (if w32 s0 = w32 0 then lt (v3 + 1) (fun v3_56 => rec v3_56 M) else some (.inl (false, M))) else (if w32 s0 = w32 1 then lt (v3 + 1) (fun v3_56 => rec v3_56 M) else some (.inl (false, M))))
def m_doesNeed_L2 (v1 : Int) (v2 : Int) (rec : Int → Mem → Option ((Bool × Mem) ⊕ (Int × Mem))) (v3 : Int) (M : Mem) : Option ((Bool × Mem) ⊕ (Int × Mem)) :=
  chk (0 ≤ (M 0 13) ∧ (M 0 13) < 2) ((if w32 (M 2 (M 0 13).toNat) ≤ w32 v3 then some (.inr (v3, M)) else bnd (m_isFree 0 v3 M) (fun r1 => (if r1 = true then bnd2 (m_pickOf 0 v1 v3 M) (fun r2 M2 => (if w32 (lcmp r2 0) ≤ 0 then m_doesNeed_L2_B41 rec v1 v2 v3 0 M2 else m_doesNeed_L2_B41 rec v1 v2 v3 1 M2)) else lt (v3 + 1) (fun v3_56 => rec v3_56 M)))))
def m_doesNeed (x1 : Int) (x2 : Int) (M : Mem) : Option (Bool × Mem) :=
  bnd (itr2 (m_doesNeed_L2 x1 x2) FUEL 0 M) (fun q3 => match q3 with | .inl r => some r | .inr (v3_3, M_3) => bnd (m_isFree 0 x2 M_3) (fun r4 => some (r4, M_3)))
def m_needed_L14 (v1 : Int) (rec : Int → Int → Mem → Option (Int × Int × Mem)) (v2 : Int) (v3 : Int) (M : Mem) : Option (Int × Int × Mem) :=
  chk (0 ≤ (M 0 13) ∧ (M 0 13) < 2) ((if w32 (M 7 (M 0 13).toNat) ≤ w32 v3 then some (v2, v3, M) else chk (0 ≤ v3 ∧ v3 < 264) ((if ¬ w32 (M 29 v3.toNat) = w32 1 then lt ((v2 + 0)) (fun v2_53 => lt (v3 + 1) (fun v3_54 => rec v2_53 v3_54 M)) else bnd2 (m_doesNeed v3 v1 M) (fun r2 M2 => (if r2 = true then lt ((v2 + 1)) (fun v2_53 => lt (v3 + 1) (fun v3_54 => rec v2_53 v3_54 M2)) else lt ((v2 + 0)) (fun v2_53 => lt (v3 + 1) (fun v3_54 => rec v2_53 v3_54 M2))))))))
def m_needed (x1 : Int) (M : Mem) : Option (Int × Mem) :=
  bnd (m_isVoice x1 M) (fun r1 => (if r1 = true then bnd (itr3 (m_needed_L14 x1) FUEL 0 0 M) (fun q3 => match q3 with | (v2_3, v3_3, M_3) => some (v2_3, M_3)) else some ((-1), M)))
def m_odds_L112_B150 (rec : Int → Int → Mem → Option (Int × Int × Mem)) (v1 : Int) (v2 : Int) (v3 : Int) (M : Mem) : Option (Int × Int × Mem) :=
  bnd (m_all M) (fun r7 => bnd (m_ticks 1 r7 M) (fun M8 => chk (0 ≤ (12 + v1) ∧ (12 + v1) < 264) ((if ¬ w32 (M8 29 (12 + v1).toNat) = w32 5 then lt ((v2 + 0)) (fun v2_187 => lt (v3 + 1) (fun v3_188 => rec v2_187 v3_188 M8)) else chk (0 ≤ (M8 0 13) ∧ (M8 0 13) < 2) (lt ((v2 + (M8 11 (M8 0 13).toNat))) (fun v2_187 => lt (v3 + 1) (fun v3_188 => rec v2_187 v3_188 M8)))))))
def m_odds_L112 (v1 : Int) (rec : Int → Int → Mem → Option (Int × Int × Mem)) (v2 : Int) (v3 : Int) (M : Mem) : Option (Int × Int × Mem) :=
  chk (0 ≤ (M 0 13) ∧ (M 0 13) < 2) ((if w32 (M 2 (M 0 13).toNat) ≤ w32 v3 then some (v2, v3, M) else bnd (m_copies 1 0 M) (fun M5 => bnd (m_has2 (M5 28 0) v3) (fun r6 => (if r6 = true then m_odds_L112_B150 rec v1 v2 v3 M5 else bnd (m_strikes 1 v3 M5) (fun M9 => m_odds_L112_B150 rec v1 v2 v3 M9))))))
def m_odds_B109 (v1 : Int) (s0 : Int) (M : Mem) : Option (Int × Mem) :=
  bnd (itr3 (m_odds_L112 v1) FUEL s0 0 M) (fun q10 => match q10 with | (v2_10, v3_10, M_10) => some (v2_10, M_10))
def m_odds_B13 (v1 : Int) (M : Mem) : Option (Int × Mem) :=
  chk (0 ≤ (M 0 13) ∧ (M 0 13) < 2) ((if w32 (M 2 (M 0 13).toNat) = 0 then some ((-1), M) else bnd (m_isAhead 1 1 1 M) (fun r1 => (if r1 = true then (if ¬ w32 v1 = w32 (-1) then bnd (m_copies 1 0 M) (fun M2 => bnd (m_all M2) (fun r3 => bnd (m_ticks 1 r3 M2) (fun M4 => chk (0 ≤ (12 + v1) ∧ (12 + v1) < 264) ((if ¬ w32 (M4 29 (12 + v1).toNat) = w32 5 then m_odds_B109 v1 0 M4 else chk (0 ≤ (M4 0 13) ∧ (M4 0 13) < 2) (chk (0 ≤ (M4 0 13) ∧ (M4 0 13) < 2) (m_odds_B109 v1 ((100 - (M4 11 (M4 0 13).toNat)) * (M4 2 (M4 0 13).toNat)) M4))))))) else chk (0 ≤ (M 0 13) ∧ (M 0 13) < 2) (some ((100 * (M 2 (M 0 13).toNat)), M))) else some ((-1), M)))))
def m_odds (x1 : Int) (M : Mem) : Option (Int × Mem) :=
  (if w32 x1 = w32 (-1) then m_odds_B13 x1 M else bnd (m_isSaying x1 M) (fun r11 => (if r11 = true then m_odds_B13 x1 M else some ((-1), M))))
def m_hear_L34 (v1 : Int) (M : Mem) (rec : Int → Int → Option (Int × Int)) (v2 : Int) (v3 : Int) : Option (Int × Int) :=
  (if w32 v1 ≤ w32 v3 then some (v2, v3) else (if w32 v2 = 0 then some (v2, v3) else chk (0 ≤ v3 ∧ v3 < 1800) ((if w32 30 < w32 (M 1 v3.toNat) then lt (v3 + 3) (fun v3_104 => rec 0 v3_104) else chk (0 ≤ (v3 + 1) ∧ (v3 + 1) < 1800) (bnd (m_isSaying (M 1 (v3 + 1).toNat) M) (fun r1 => (if r1 = true then chk (0 ≤ (v3 + 2) ∧ (v3 + 2) < 1800) (bnd (m_isVoice (M 1 (v3 + 2).toNat) M) (fun r2 => (if r2 = true then lt (v3 + 3) (fun v3_104 => rec 1 v3_104) else chk (0 ≤ (v3 + 2) ∧ (v3 + 2) < 1800) ((if ¬ w32 (M 1 (v3 + 2).toNat) = w32 255 then lt (v3 + 3) (fun v3_104 => rec 0 v3_104) else lt (v3 + 3) (fun v3_104 => rec 1 v3_104)))))) else lt (v3 + 3) (fun v3_104 => rec 0 v3_104))))))))
def m_hear_L129 (rec : Int → Mem → Option (Int × Mem)) (v3 : Int) (M : Mem) : Option (Int × Mem) :=
  (if w32 (M 0 63) ≤ w32 v3 then some (v3, M) else chk (0 ≤ (3 * v3) ∧ (3 * v3) < 1800) (chk (0 ≤ v3 ∧ v3 < 16) (lt (upM M 41 v3.toNat (M 1 (3 * v3).toNat)) (fun M_150 => chk (0 ≤ ((3 * v3) + 1) ∧ ((3 * v3) + 1) < 1800) (chk (0 ≤ v3 ∧ v3 < 16) (lt (upM M_150 42 v3.toNat (M_150 1 ((3 * v3) + 1).toNat)) (fun M_166 => chk (0 ≤ ((3 * v3) + 2) ∧ ((3 * v3) + 2) < 1800) ((if ¬ w32 (M_166 1 ((3 * v3) + 2).toNat) = w32 255 then chk (0 ≤ ((3 * v3) + 2) ∧ ((3 * v3) + 2) < 1800) (chk (0 ≤ v3 ∧ v3 < 16) (lt (upM M_166 43 v3.toNat (M_166 1 ((3 * v3) + 2).toNat)) (fun M_202 => lt (v3 + 1) (fun v3_203 => rec v3_203 M_202)))) else chk (0 ≤ v3 ∧ v3 < 16) (lt (upM M_166 43 v3.toNat (-1)) (fun M_202 => lt (v3 + 1) (fun v3_203 => rec v3_203 M_202))))))))))))
def m_hear_B31 (v1 : Int) (s0 : Int) (M : Mem) : Option (Int × Mem) :=
  bnd (itr2 (m_hear_L34 v1 M) FUEL s0 0) (fun q3 => match q3 with | (v2_3, v3_3) => (if ¬ w32 v2_3 = 0 then chk (w32 3 ≠ 0) (lt (upM M 0 63 ((w32 v1).tdiv (w32 3))) (fun M_124 => bnd (itr2 (m_hear_L129) FUEL 0 M_124) (fun q4 => match q4 with | (v3_4, M_4) => some ((M_4 0 63), M_4)))) else bnd2 (m_refuses 5 M) (fun r5 M5 => some (r5, M5))))
def m_hear_B30 (v1 : Int) (M : Mem) : Option (Int × Mem) :=
  m_hear_B31 v1 0 M
def m_hear (M : Mem) : Option (Int × Mem) :=
  lt ((M 0 1)) (fun v1_4 => lt (upM M 0 1 0) (fun M_7 => (if w32 v1_4 ≤ 0 then m_hear_B30 v1_4 M_7 else chk (w32 3 ≠ 0) ((if ¬ w32 ((w32 v1_4).tmod (w32 3)) = 0 then m_hear_B30 v1_4 M_7 else (if w32 48 < w32 v1_4 then m_hear_B30 v1_4 M_7 else m_hear_B31 v1_4 1 M_7))))))
def m_pitchBits_L58 (v1 : Int) (v2 : Int) (v3 : Int) (v4 : Int) (v5 : Int) (rec : Int → Mem → Option (Int × Mem)) (v6 : Int) (M : Mem) : Option (Int × Mem) :=
  chk (0 ≤ (M 0 13) ∧ (M 0 13) < 2) ((if w32 (M 7 (M 0 13).toNat) ≤ w32 v6 then some (v6, M) else chk (0 ≤ v6 ∧ v6 < 12) (chk (0 ≤ ((12 * ((31 * v3) + v5)) + v6) ∧ ((12 * ((31 * v3) + v5)) + v6) < 3720) (lt (upM M 44 ((12 * ((31 * v3) + v5)) + v6).toNat (M 39 v6.toNat)) (fun M_96 => lt (v6 + 1) (fun v6_97 => rec v6_97 M_96))))))
def m_pitchBits_L106 (v1 : Int) (v2 : Int) (v3 : Int) (v5 : Int) (M : Mem) (rec : Int → Int → Option (Int × Int)) (v4 : Int) (v6 : Int) : Option (Int × Int) :=
  (if w32 (M 0 63) ≤ w32 v6 then some (v4, v6) else chk (0 ≤ v6 ∧ v6 < 16) ((if ¬ w32 (M 41 v6.toNat) = w32 v5 then lt ((v4 + 0)) (fun v4_157 => lt (v6 + 1) (fun v6_159 => rec v4_157 v6_159)) else chk (0 ≤ v6 ∧ v6 < 16) (chk (0 ≤ (M 42 v6.toNat) ∧ (M 42 v6.toNat) < 12) (chk (0 ≤ v6 ∧ v6 < 16) ((if ¬ w32 (M 39 (M 42 v6.toNat).toNat) = w32 (M 43 v6.toNat) then lt ((v4 + 0)) (fun v4_157 => lt (v6 + 1) (fun v6_159 => rec v4_157 v6_159)) else lt ((v4 + 1)) (fun v4_157 => lt (v6 + 1) (fun v6_159 => rec v4_157 v6_159)))))))))
def m_pitchBits_L32 (v1 : Int) (v2 : Int) (v3 : Int) (rec : Int → Int → Mem → Option (Int × Int × Mem)) (v4 : Int) (v5 : Int) (M : Mem) : Option (Int × Int × Mem) :=
  bnd (m_isAhead (v5 + 1) 1 31 M) (fun r2 => (if r2 = true then bnd (m_all M) (fun r3 => bnd (m_ticks 1 r3 M) (fun M4 => bnd (itr2 (m_pitchBits_L58 v1 v2 v3 v4 v5) FUEL 0 M4) (fun q5 => match q5 with | (v6_5, M_5) => bnd (itr2 (m_pitchBits_L106 v1 v2 v3 v5 M_5) FUEL v4 0) (fun q6 => match q6 with | (v4_6, v6_6) => lt (v5 + 1) (fun v5_165 => rec v4_6 v5_165 M_5))))) else some (v4, v5, M)))
def m_pitchBits_L4 (v1 : Int) (rec : Int → Int → Mem → Option (Int × Int × Mem)) (v2 : Int) (v3 : Int) (M : Mem) : Option (Int × Int × Mem) :=
  (if w32 10 ≤ w32 v3 then some (v2, v3, M) else bnd (m_copies 1 0 M) (fun M1 => chk (0 ≤ (7 + v1) ∧ (7 + v1) < 154) (lt (upM M1 26 (7 + v1).toNat v3) (fun M_25 => bnd (itr3 (m_pitchBits_L32 v1 v2 v3) FUEL 0 0 M_25) (fun q7 => match q7 with | (v4_7, v5_7, M_7) => (if ¬ w32 v4_7 = w32 (M_7 0 63) then lt ((or32 v2 0)) (fun v2_189 => lt (v3 + 1) (fun v3_190 => rec v2_189 v3_190 M_7)) else lt ((or32 v2 (shl32 1 v3))) (fun v2_189 => lt (v3 + 1) (fun v3_190 => rec v2_189 v3_190 M_7))))))))
def m_pitchBits (x1 : Int) (M : Mem) : Option (Int × Mem) :=
  bnd (itr3 (m_pitchBits_L4 x1) FUEL 0 0 M) (fun q8 => match q8 with | (v2_8, v3_8, M_8) => some (v2_8, M_8))
def m_pitches (x1 : Int) (M : Mem) : Option (Int × Mem) :=
  bnd (m_isVoice x1 M) (fun r1 => (if r1 = true then bnd2 (m_pitchBits x1 M) (fun r2 M2 => some (r2, M2)) else some ((-1), M)))
def m_mostBy_L19 (v1 : Int) (v2 : Int) (v3 : Int) (v4 : Int) (v5 : Int) (M : Mem) (rec : Int → Int → Option (Int × Int)) (v6 : Int) (v7 : Int) : Option (Int × Int) :=
  (if w32 10 ≤ w32 v7 then some (v6, v7) else bnd (m_has2 v1 v5) (fun r1 => (if r1 = true then bnd (m_has2 v1 v7) (fun r2 => (if r2 = true then chk (0 ≤ ((12 * ((31 * v5) + v2)) + v3) ∧ ((12 * ((31 * v5) + v2)) + v3) < 3720) (chk (0 ≤ ((12 * ((31 * v7) + v2)) + v3) ∧ ((12 * ((31 * v7) + v2)) + v3) < 3720) ((if ¬ w32 (M 44 ((12 * ((31 * v5) + v2)) + v3).toNat) = w32 (M 44 ((12 * ((31 * v7) + v2)) + v3).toNat) then lt ((v6 + 0)) (fun v6_89 => lt (v7 + 1) (fun v7_91 => rec v6_89 v7_91)) else lt ((v6 + 1)) (fun v6_89 => lt (v7 + 1) (fun v7_91 => rec v6_89 v7_91))))) else lt ((v6 + 0)) (fun v6_89 => lt (v7 + 1) (fun v7_91 => rec v6_89 v7_91)))) else lt ((v6 + 0)) (fun v6_89 => lt (v7 + 1) (fun v7_91 => rec v6_89 v7_91)))))
def m_mostBy_L6 (v1 : Int) (v2 : Int) (v3 : Int) (M : Mem) (rec : Int → Int → Option (Int × Int)) (v4 : Int) (v5 : Int) : Option (Int × Int) :=
  (if w32 10 ≤ w32 v5 then some (v4, v5) else bnd (itr2 (m_mostBy_L19 v1 v2 v3 v4 v5 M) FUEL 0 0) (fun q3 => match q3 with | (v6_3, v7_3) => (if w32 v6_3 ≤ w32 v4 then lt (v5 + 1) (fun v5_113 => rec v4 v5_113) else lt (v5 + 1) (fun v5_113 => rec v6_3 v5_113))))
def m_mostBy (x1 : Int) (x2 : Int) (x3 : Int) (M : Mem) : Option (Int) :=
  bnd (itr2 (m_mostBy_L6 x1 x2 x3 M) FUEL 0 0) (fun q4 => match q4 with | (v4_4, v5_4) => some v4_4)
def m_tells_L57 (v2 : Int) (v3 : Int) (v6 : Int) (M : Mem) (rec : Int → Int → Int → Option (Int × Int × Int)) (v4 : Int) (v5 : Int) (v7 : Int) : Option (Int × Int × Int) :=
  chk (0 ≤ (M 0 13) ∧ (M 0 13) < 2) ((if w32 (M 7 (M 0 13).toNat) ≤ w32 v7 then some (v4, v5, v7) else bnd (m_mostBy v3 v6 v7 M) (fun r5 => (if w32 r5 < w32 v5 then lt (((12 * v6) + v7)) (fun v4_104 => lt (v7 + 1) (fun v7_106 => rec v4_104 r5 v7_106)) else lt (v7 + 1) (fun v7_106 => rec v4 v5 v7_106)))))
def m_tells_L36 (v2 : Int) (v3 : Int) (M : Mem) (rec : Int → Int → Int → Option (Int × Int × Int)) (v4 : Int) (v5 : Int) (v6 : Int) : Option (Int × Int × Int) :=
  bnd (m_isAhead (v6 + 1) 1 31 M) (fun r4 => (if r4 = true then (if w32 v3 = 0 then some (v4, v5, v6) else bnd (itr3 (m_tells_L57 v2 v3 v6 M) FUEL v4 v5 0) (fun q6 => match q6 with | (v4_6, v5_6, v7_6) => lt (v6 + 1) (fun v6_112 => rec v4_6 v5_6 v6_112))) else some (v4, v5, v6)))
def m_tells (x1 : Int) (x2 : Int) (M : Mem) : Option (Int × Mem) :=
  bnd (m_isVoice x1 M) (fun r1 => (if r1 = true then bnd (m_is x2 0 2) (fun r2 => (if r2 = true then bnd2 (m_pitchBits x1 M) (fun r3 M3 => bnd (itr3 (m_tells_L36 x2 r3 M3) FUEL (-1) 100000000 0) (fun q7 => match q7 with | (v4_7, v5_7, v6_7) => (if ¬ w32 v4_7 = w32 (-1) then (if ¬ w32 x2 = 0 then (if ¬ w32 x2 = w32 1 then some (v5_7, M3) else chk (w32 12 ≠ 0) (some (((w32 v4_7).tmod (w32 12)), M3))) else chk (w32 12 ≠ 0) (some (((w32 v4_7).tdiv (w32 12)), M3))) else some ((-1), M3)))) else some ((-1), M))) else some ((-1), M)))
def m_minutes_L31 (v1 : Int) (v2 : Int) (rec : Int → Mem → Option (Int × Mem)) (v3 : Int) (M : Mem) : Option (Int × Mem) :=
  (if w32 v1 ≤ w32 v3 then some (v3, M) else bnd (m_all M) (fun r4 => bnd (m_ticks 0 r4 M) (fun M5 => lt (v3 + 1) (fun v3_45 => rec v3_45 M5))))
def m_minutes (x1 : Int) (M : Mem) : Option (Int × Mem) :=
  bnd (m_isAhead x1 1 60 M) (fun r1 => (if r1 = true then bnd (m_keeps M) (fun M2 => bnd (m_manyOf 0 3 3 M2) (fun r3 => bnd (itr2 (m_minutes_L31 x1 r3) FUEL 0 M2) (fun q6 => match q6 with | (v3_6, M_6) => bnd (m_manyOf 0 3 3 M_6) (fun r7 => some ((r7 - r3), M_6))))) else bnd2 (m_refuses 2 M) (fun r8 M8 => some (r8, M8))))
def m_draw (x1 : Int) (M : Mem) : Option (Int × Mem) :=
  chk (w64 2147483648 ≠ 0) (lt (upM M 0 58 ((w64 ((1103515245 * (M 0 58)) + 12345)).tmod (w64 2147483648))) (fun M_17 => chk (w64 64 ≠ 0) (chk (w64 (w32 x1) ≠ 0) (some (((w64 ((w64 (M_17 0 58)).tdiv (w64 64))).tmod (w64 (w32 x1))), M_17)))))
def m_chance_L25_B118 (rec : Int → Int → Mem → Option (Int × Int × Mem)) (v1 : Int) (v2 : Int) (v3 : Int) (M : Mem) : Option (Int × Int × Mem) :=
  bnd (m_all M) (fun r4 => bnd (m_ticks 0 r4 M) (fun M5 => lt (v3 + 1) (fun v3_127 => rec v2 v3_127 M5)))
def m_chance_L25_B95 (rec : Int → Int → Mem → Option (Int × Int × Mem)) (v1 : Int) (v3 : Int) (v4 : Int) (s0 : Int) (s1 : Int) (M : Mem) : Option (Int × Int × Mem) :=
  lt ((s0 + s1)) (fun v2_96 => bnd (m_has2 (M 28 0) v4) (fun r8 => (if r8 = true then m_chance_L25_B118 rec v1 v2_96 v3 M else bnd (m_strikes 0 v4 M) (fun M9 => m_chance_L25_B118 rec v1 v2_96 v3 M9))))
def m_chance_L25 (v1 : Int) (rec : Int → Int → Mem → Option (Int × Int × Mem)) (v2 : Int) (v3 : Int) (M : Mem) : Option (Int × Int × Mem) :=
  (if w32 v1 ≤ w32 v3 then some (v2, v3, M) else bnd2 (m_draw 100 M) (fun r3 M3 => chk (0 ≤ (M3 0 13) ∧ (M3 0 13) < 2) ((if w32 (M3 11 (M3 0 13).toNat) ≤ w32 r3 then m_chance_L25_B118 rec v1 v2 v3 M3 else chk (0 ≤ (M3 0 13) ∧ (M3 0 13) < 2) ((if w32 (M3 2 (M3 0 13).toNat) ≤ 0 then m_chance_L25_B118 rec v1 v2 v3 M3 else chk (0 ≤ (M3 0 13) ∧ (M3 0 13) < 2) (bnd2 (m_draw (M3 2 (M3 0 13).toNat) M3) (fun r6 M6 => bnd (m_has2 (M6 28 0) r6) (fun r7 => (if r7 = true then m_chance_L25_B95 rec v1 v3 r6 v2 0 M6 else m_chance_L25_B95 rec v1 v3 r6 v2 1 M6))))))))))
def m_chance (x1 : Int) (M : Mem) : Option (Int × Mem) :=
  bnd (m_isAhead x1 1 60 M) (fun r1 => (if r1 = true then bnd (m_keeps M) (fun M2 => bnd (itr3 (m_chance_L25 x1) FUEL 0 0 M2) (fun q10 => match q10 with | (v2_10, v3_10, M_10) => some (v2_10, M_10))) else bnd2 (m_refuses 2 M) (fun r11 M11 => some (r11, M11))))
def m_strike_B21 (M : Mem) : Option (Bool × Mem) :=
  bnd2 (m_refuses 3 M) (fun r2 M2 => (if w32 r2 < 0 then some (false, M2) else some (true, M2)))
def m_strike (x1 : Int) (M : Mem) : Option (Bool × Mem) :=
  bnd (m_isVoice x1 M) (fun r1 => (if r1 = true then bnd (m_has2 (M 28 0) x1) (fun r3 => (if r3 = true then m_strike_B21 M else bnd (m_keeps M) (fun M4 => bnd (m_strikes 0 x1 M4) (fun M5 => some (true, M5))))) else m_strike_B21 M))
def m_heal_B21 (M : Mem) : Option (Bool × Mem) :=
  bnd2 (m_refuses 3 M) (fun r2 M2 => (if w32 r2 < 0 then some (false, M2) else some (true, M2)))
def m_heal (x1 : Int) (M : Mem) : Option (Bool × Mem) :=
  bnd (m_isVoice x1 M) (fun r1 => (if r1 = true then bnd (m_has2 (M 28 0) x1) (fun r3 => (if r3 = true then bnd (m_keeps M) (fun M4 => lt (upM M4 28 0 (and32 (M4 28 0) (xor32 (shl32 1 x1) (-1)))) (fun M_52 => some (true, M_52))) else m_heal_B21 M)) else m_heal_B21 M))
def m_train_B28 (M : Mem) : Option (Bool × Mem) :=
  bnd2 (m_refuses 3 M) (fun r2 M2 => (if w32 r2 < 0 then some (false, M2) else some (true, M2)))
def m_train (x1 : Int) (x2 : Int) (M : Mem) : Option (Bool × Mem) :=
  bnd (m_isVoice x1 M) (fun r1 => (if r1 = true then bnd (m_is x2 0 9) (fun r3 => (if r3 = true then chk (0 ≤ x1 ∧ x1 < 154) ((if ¬ w32 (M 26 x1.toNat) = w32 x2 then bnd (m_keeps M) (fun M4 => chk (0 ≤ x1 ∧ x1 < 154) (lt (upM M4 26 x1.toNat x2) (fun M_52 => some (true, M_52)))) else m_train_B28 M)) else m_train_B28 M)) else m_train_B28 M))
def m_delay_B43 (M : Mem) : Option (Bool × Mem) :=
  bnd2 (m_refuses 3 M) (fun r2 M2 => (if w32 r2 < 0 then some (false, M2) else some (true, M2)))
def m_delay (x1 : Int) (x2 : Int) (M : Mem) : Option (Bool × Mem) :=
  bnd (m_isSaying x1 M) (fun r1 => (if r1 = true then chk (0 ≤ x1 ∧ x1 < 264) ((if ¬ w32 (M 29 x1.toNat) = 0 then m_delay_B43 M else bnd (m_is x2 (M 25 0) 999) (fun r3 => (if r3 = true then chk (0 ≤ x1 ∧ x1 < 264) ((if ¬ w32 (M 30 x1.toNat) = w32 x2 then bnd (m_keeps M) (fun M4 => chk (0 ≤ x1 ∧ x1 < 264) (lt (upM M4 30 x1.toNat x2) (fun M_67 => some (true, M_67)))) else m_delay_B43 M)) else m_delay_B43 M)))) else m_delay_B43 M))
def m_seed (x1 : Int) (M : Mem) : Option (Bool × Mem) :=
  (if 0 ≤ w32 x1 then lt (upM M 0 58 (w32 x1)) (fun M_21 => some (true, M_21)) else bnd2 (m_refuses 5 M) (fun r1 M1 => (if w32 r1 < 0 then some (false, M1) else some (true, M1))))
def m_kept (x1 : Int) (x2 : Int) (M : Mem) : Option (Int) :=
  bnd (m_is x1 0 ((M 35 0) - 1)) (fun r1 => (if r1 = true then bnd (m_is x2 0 2) (fun r2 => (if r2 = true then chk (0 ≤ ((3 * x1) + x2) ∧ ((3 * x1) + x2) < 2640) (some (M 36 ((3 * x1) + x2).toNat)) else some (-1))) else some (-1)))
def m_writes (x1 : Int) (M : Mem) : Option (Mem) :=
  chk (0 ≤ (M 0 69) ∧ (M 0 69) < 120) (lt (upM M 45 (M 0 69).toNat (and32 x1 255)) (fun M_13 => lt (upM M_13 0 69 ((M_13 0 69) + 1)) (fun M_21 => some M_21)))
def m_image_L30_B72 (rec : Int → Mem → Option (Int × Mem)) (v1 : Int) (s1 : Int) (M : Mem) : Option (Int × Mem) :=
  bnd (m_writes s1 M) (fun M5 => chk (0 ≤ v1 ∧ v1 < 154) (bnd (m_writes (M5 27 v1.toNat) M5) (fun M6 => lt (v1 + 1) (fun v1_85 => rec v1_85 M6))))
def m_image_L30 (rec : Int → Mem → Option (Int × Mem)) (v1 : Int) (M : Mem) : Option (Int × Mem) :=
  chk (0 ≤ (M 0 13) ∧ (M 0 13) < 2) ((if w32 (M 2 (M 0 13).toNat) ≤ w32 v1 then some (v1, M) else chk (0 ≤ v1 ∧ v1 < 154) (bnd (m_writes (M 26 v1.toNat) M) (fun M3 => bnd (m_has2 (M3 28 0) v1) (fun r4 => (if r4 = true then m_image_L30_B72 rec v1 1 M3 else m_image_L30_B72 rec v1 0 M3))))))
def m_image_L93 (rec : Int → Mem → Option (Int × Mem)) (v1 : Int) (M : Mem) : Option (Int × Mem) :=
  chk (0 ≤ (M 0 13) ∧ (M 0 13) < 2) ((if w32 (M 7 (M 0 13).toNat) ≤ w32 v1 then some (v1, M) else chk (0 ≤ v1 ∧ v1 < 264) (bnd (m_writes (M 29 v1.toNat) M) (fun M8 => chk (0 ≤ v1 ∧ v1 < 264) (bnd (m_writes (shr32 (M8 30 v1.toNat) 8) M8) (fun M9 => chk (0 ≤ v1 ∧ v1 < 264) (bnd (m_writes (M9 30 v1.toNat) M9) (fun M10 => chk (0 ≤ v1 ∧ v1 < 264) (bnd (m_writes (M10 31 v1.toNat) M10) (fun M11 => chk (0 ≤ v1 ∧ v1 < 264) (bnd (m_writes (M11 32 v1.toNat) M11) (fun M12 => chk (0 ≤ v1 ∧ v1 < 264) (bnd (m_writes (M12 33 v1.toNat) M12) (fun M13 => bnd (m_has2 (M13 34 0) v1) (fun r14 => (if r14 = true then bnd (m_writes 1 M13) (fun M16 => lt (v1 + 1) (fun v1_191 => rec v1_191 M16)) else bnd (m_writes 0 M13) (fun M15 => lt (v1 + 1) (fun v1_191 => rec v1_191 M15))))))))))))))))))
def m_image_L203 (M : Mem) (rec : Int → Int → Option (Int × Int)) (v1 : Int) (v2 : Int) : Option (Int × Int) :=
  (if w32 (M 0 69) ≤ w32 v2 then some (v1, v2) else chk (0 ≤ v2 ∧ v2 < 120) (chk (w32 251 ≠ 0) (lt (((w32 ((5 * v1) + (M 45 v2.toNat))).tmod (w32 251))) (fun v1_225 => lt (v2 + 1) (fun v2_226 => rec v1_225 v2_226)))))
def m_image (M : Mem) : Option (Int × Mem) :=
  lt (upM M 0 69 0) (fun M_2 => bnd (m_writes (shr32 (M_2 25 0) 8) M_2) (fun M1 => bnd (m_writes (M1 25 0) M1) (fun M2 => bnd (itr2 (m_image_L30) FUEL 0 M2) (fun q7 => match q7 with | (v1_7, M_7) => bnd (itr2 (m_image_L93) FUEL 0 M_7) (fun q17 => match q17 with | (v1_17, M_17) => bnd (itr2 (m_image_L203 M_17) FUEL 199 0) (fun q18 => match q18 with | (v1_18, v2_18) => bnd (m_writes v1_18 M_17) (fun M19 => some ((M19 0 69), M19))))))))
def m_octet (x1 : Int) (M : Mem) : Option (Int) :=
  bnd (m_is x1 0 ((M 0 69) - 1)) (fun r1 => (if r1 = true then chk (0 ≤ x1 ∧ x1 < 120) (some (M 45 x1.toNat)) else some (-1)))
def m_voiceOn_B41 (v1 : Int) (v2 : Int) (s1 : Int) (s2 : Int) (s3 : Int) (M : Mem) : Option (Bool × Mem) :=
  chk (0 ≤ s1 ∧ s1 < 22) (lt (upM M 28 s1.toNat (or32 s2 s3)) (fun M_42 => chk (0 ≤ (v2 + 2) ∧ (v2 + 2) < 1800) (chk (0 ≤ (7 + v1) ∧ (7 + v1) < 154) (lt (upM M_42 27 (7 + v1).toNat (M_42 1 (v2 + 2).toNat)) (fun M_59 => chk (0 ≤ v2 ∧ v2 < 1800) ((if w32 9 < w32 (M_59 1 v2.toNat) then some (false, M_59) else chk (0 ≤ (v2 + 1) ∧ (v2 + 1) < 1800) ((if w32 1 < w32 (M_59 1 (v2 + 1).toNat) then some (false, M_59) else chk (0 ≤ (v2 + 2) ∧ (v2 + 2) < 1800) ((if w32 99 < w32 (M_59 1 (v2 + 2).toNat) then some (false, M_59) else some (true, M_59))))))))))))
def m_voiceOn (x1 : Int) (x2 : Int) (M : Mem) : Option (Bool × Mem) :=
  chk (0 ≤ x2 ∧ x2 < 1800) (chk (0 ≤ (7 + x1) ∧ (7 + x1) < 154) (lt (upM M 26 (7 + x1).toNat (M 1 x2.toNat)) (fun M_14 => chk (0 ≤ (x2 + 1) ∧ (x2 + 1) < 1800) ((if ¬ w32 (M_14 1 (x2 + 1).toNat) = w32 1 then m_voiceOn_B41 x1 x2 1 (M_14 28 1) 0 M_14 else m_voiceOn_B41 x1 x2 1 (M_14 28 1) (shl32 1 x1) M_14)))))
def m_isAloneBy_L2 (v1 : Int) (v2 : Int) (M : Mem) (rec : Int → Option ((Bool) ⊕ (Int))) (v3 : Int) : Option ((Bool) ⊕ (Int)) :=
  (if w32 v1 ≤ w32 v3 then some (.inr v3) else chk (0 ≤ (12 + v3) ∧ (12 + v3) < 264) ((if ¬ w32 (M 29 (12 + v3).toNat) = w32 2 then lt (v3 + 1) (fun v3_35 => rec v3_35) else chk (0 ≤ (12 + v3) ∧ (12 + v3) < 264) ((if ¬ w32 (M 32 (12 + v3).toNat) = w32 v2 then lt (v3 + 1) (fun v3_35 => rec v3_35) else some (.inl false))))))
def m_isAloneBy (x1 : Int) (x2 : Int) (M : Mem) : Option (Bool) :=
  bnd (itr1 (m_isAloneBy_L2 x1 x2 M) FUEL 0) (fun q1 => match q1 with | .inl r => some r | .inr v3_1 => some true)
def m_sayingOn_B287 (v5 : Int) (M : Mem) : Option (Bool × Mem) :=
  bnd (m_isVoice v5 M) (fun r1 => some (r1, M))
def m_sayingOn_B192 (v1 : Int) (v2 : Int) (v3 : Int) (v4 : Int) (v5 : Int) (M : Mem) : Option (Bool × Mem) :=
  (if ¬ w32 v4 = w32 2 then chk (0 ≤ v3 ∧ v3 < 264) ((if w32 (M 33 v3.toNat) = 0 then (if w32 v4 = w32 3 then m_sayingOn_B287 v5 M else (if ¬ w32 v4 = w32 5 then (if ¬ w32 v5 = w32 255 then some (false, M) else chk (0 ≤ (v2 + 6) ∧ (v2 + 6) < 1800) ((if ¬ w32 (M 1 (v2 + 6).toNat) = 0 then some (false, M) else some (true, M)))) else m_sayingOn_B287 v5 M)) else some (false, M))) else bnd (m_isVoice v5 M) (fun r2 => (if r2 = true then bnd (m_has2 (M 28 1) v5) (fun r3 => (if r3 = true then some (false, M) else bnd (m_isAloneBy v1 v5 M) (fun r4 => (if r4 = true then chk (0 ≤ v3 ∧ v3 < 264) (chk (0 ≤ ((12 * (M 0 13)) + v1) ∧ ((12 * (M 0 13)) + v1) < 24) (bnd (m_is (M 33 v3.toNat) 1 (M 10 ((12 * (M 0 13)) + v1).toNat)) (fun r5 => (if r5 = true then some (true, M) else some (false, M))))) else some (false, M))))) else some (false, M))))
def m_sayingOn_B132 (v1 : Int) (v2 : Int) (v3 : Int) (v4 : Int) (v5 : Int) (s1 : Int) (s2 : Int) (s3 : Int) (M : Mem) : Option (Bool × Mem) :=
  chk (0 ≤ s1 ∧ s1 < 22) (lt (upM M 34 s1.toNat (or32 s2 s3)) (fun M_133 => (if w32 5 < w32 v4 then some (false, M_133) else chk (0 ≤ v3 ∧ v3 < 264) ((if w32 999 < w32 (M_133 30 v3.toNat) then some (false, M_133) else chk (0 ≤ v3 ∧ v3 < 264) ((if w32 99 < w32 (M_133 31 v3.toNat) then some (false, M_133) else chk (0 ≤ (v2 + 6) ∧ (v2 + 6) < 1800) ((if w32 1 < w32 (M_133 1 (v2 + 6).toNat) then some (false, M_133) else (if ¬ w32 v4 = 0 then m_sayingOn_B192 v1 v2 v3 v4 v5 M_133 else chk (0 ≤ v3 ∧ v3 < 264) ((if w32 (M_133 31 v3.toNat) ≤ 0 then m_sayingOn_B192 v1 v2 v3 v4 v5 M_133 else some (false, M_133)))))))))))))
def m_sayingOn_B90 (v1 : Int) (v2 : Int) (v3 : Int) (v4 : Int) (v5 : Int) (s1 : Int) (s2 : Int) (M : Mem) : Option (Bool × Mem) :=
  chk (0 ≤ s1 ∧ s1 < 264) (lt (upM M 32 s1.toNat s2) (fun M_90 => chk (0 ≤ (v2 + 5) ∧ (v2 + 5) < 1800) (chk (0 ≤ v3 ∧ v3 < 264) (lt (upM M_90 33 v3.toNat (M_90 1 (v2 + 5).toNat)) (fun M_104 => chk (0 ≤ (v2 + 6) ∧ (v2 + 6) < 1800) ((if ¬ w32 (M_104 1 (v2 + 6).toNat) = w32 1 then m_sayingOn_B132 v1 v2 v3 v4 v5 1 (M_104 34 1) 0 M_104 else m_sayingOn_B132 v1 v2 v3 v4 v5 1 (M_104 34 1) (shl32 1 v1) M_104)))))))
def m_sayingOn (x1 : Int) (x2 : Int) (M : Mem) : Option (Bool × Mem) :=
  lt ((12 + x1)) (fun v3_4 => chk (0 ≤ x2 ∧ x2 < 1800) (lt ((M 1 x2.toNat)) (fun v4_11 => chk (0 ≤ (x2 + 4) ∧ (x2 + 4) < 1800) (lt ((M 1 (x2 + 4).toNat)) (fun v5_21 => chk (0 ≤ v3_4 ∧ v3_4 < 264) (lt (upM M 29 v3_4.toNat v4_11) (fun M_30 => chk (0 ≤ (x2 + 1) ∧ (x2 + 1) < 1800) (chk (0 ≤ (x2 + 2) ∧ (x2 + 2) < 1800) (chk (0 ≤ v3_4 ∧ v3_4 < 264) (lt (upM M_30 30 v3_4.toNat (or32 (shl32 (M_30 1 (x2 + 1).toNat) 8) (M_30 1 (x2 + 2).toNat))) (fun M_56 => chk (0 ≤ (x2 + 3) ∧ (x2 + 3) < 1800) (chk (0 ≤ v3_4 ∧ v3_4 < 264) (lt (upM M_56 31 v3_4.toNat (M_56 1 (x2 + 3).toNat)) (fun M_70 => (if ¬ w32 v5_21 = w32 255 then m_sayingOn_B90 x1 x2 v3_4 v4_11 v5_21 v3_4 v5_21 M_70 else m_sayingOn_B90 x1 x2 v3_4 v4_11 v5_21 v3_4 (-1) M_70)))))))))))))))
def m_comesOn_L65 (v1 : Int) (v2 : Int) (M : Mem) (rec : Int → Int → Option (Int × Int)) (v3 : Int) (v4 : Int) : Option (Int × Int) :=
  (if w32 (v1 - 1) ≤ w32 v4 then some (v3, v4) else chk (0 ≤ v4 ∧ v4 < 1800) (chk (w32 251 ≠ 0) (lt (((w32 ((5 * v3) + (M 1 v4.toNat))).tmod (w32 251))) (fun v3_88 => lt (v4 + 1) (fun v4_89 => rec v3_88 v4_89)))))
def m_comesOn_L161 (v2 : Int) (rec : Int → Mem → Option ((Bool × Mem) ⊕ (Int × Mem))) (v4 : Int) (M : Mem) : Option ((Bool × Mem) ⊕ (Int × Mem)) :=
  chk (0 ≤ (M 0 13) ∧ (M 0 13) < 2) ((if w32 (M 2 (M 0 13).toNat) ≤ w32 v4 then some (.inr (v4, M)) else bnd2 (m_voiceOn v4 (2 + (3 * v4)) M) (fun r3 M3 => (if r3 = true then lt (v4 + 1) (fun v4_192 => rec v4_192 M3) else some (.inl (false, M3))))))
def m_comesOn_L201 (v2 : Int) (rec : Int → Mem → Option ((Bool × Mem) ⊕ (Int × Mem))) (v4 : Int) (M : Mem) : Option ((Bool × Mem) ⊕ (Int × Mem)) :=
  chk (0 ≤ (M 0 13) ∧ (M 0 13) < 2) ((if w32 (M 7 (M 0 13).toNat) ≤ w32 v4 then some (.inr (v4, M)) else bnd2 (m_sayingOn v4 (v2 + (7 * v4)) M) (fun r5 M5 => (if r5 = true then lt (v4 + 1) (fun v4_233 => rec v4_233 M5) else some (.inl (false, M5))))))
def m_comesOn (x1 : Int) (M : Mem) : Option (Bool × Mem) :=
  chk (0 ≤ (M 0 13) ∧ (M 0 13) < 2) (lt ((2 + (3 * (M 2 (M 0 13).toNat)))) (fun v2_13 => chk (0 ≤ (M 0 13) ∧ (M 0 13) < 2) ((if ¬ w32 x1 = w32 ((v2_13 + (7 * (M 7 (M 0 13).toNat))) + 1) then some (false, M) else (if w32 (or32 (shl32 (M 1 0) 8) (M 1 1)) ≤ w32 999 then bnd (itr2 (m_comesOn_L65 x1 v2_13 M) FUEL 199 0) (fun q1 => match q1 with | (v3_1, v4_1) => chk (0 ≤ (x1 - 1) ∧ (x1 - 1) < 1800) ((if w32 (M 1 (x1 - 1).toNat) = w32 v3_1 then bnd (m_copies 1 0 M) (fun M2 => lt (upM M2 25 1 (or32 (shl32 (M2 1 0) 8) (M2 1 1))) (fun M_136 => lt (upM M_136 28 1 0) (fun M_143 => lt (upM M_143 34 1 0) (fun M_150 => lt (upM M_150 35 1 0) (fun M_157 => bnd (itr2 (m_comesOn_L161 v2_13) FUEL 0 M_157) (fun q4 => match q4 with | .inl r => some r | .inr (v4_4, M_4) => bnd (itr2 (m_comesOn_L201 v2_13) FUEL 0 M_4) (fun q6 => match q6 with | .inl r => some r | .inr (v4_6, M_6) => some (true, M_6)))))))) else some (false, M)))) else some (false, M))))))
def m_on (M : Mem) : Option (Bool × Mem) :=
  lt ((M 0 1)) (fun v1_4 => lt (upM M 0 1 0) (fun M_7 => bnd2 (m_comesOn v1_4 M_7) (fun r1 M1 => (if r1 = true then bnd (m_copies 0 1 M1) (fun M2 => lt (upM M2 0 57 0) (fun M_40 => some (true, M_40))) else bnd2 (m_refuses 5 M1) (fun r3 M3 => (if w32 r3 < 0 then some (false, M3) else some (true, M3)))))))
