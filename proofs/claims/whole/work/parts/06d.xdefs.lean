/-! THE FUNCTIONS OF THE CLASS (taken out of the walks by wip/whole/gen/split.py) -/
def x_X_no (x1 : Int) (M : Mem) : Option (Bool × Mem) :=
  (if w32 x1 < 0 then some (false, M) else (if w32 6 ≤ w32 x1 then some (false, M) else chk (0 ≤ x1 ∧ x1 < 6) (chk (0 ≤ x1 ∧ x1 < 6) (lt (upM M 372 x1.toNat ((M 372 x1.toNat) + 1)) (fun M_22 => some (false, M_22))))))
def x_X_none (x1 : Int) (M : Mem) : Option (Int × Mem) :=
  bnd2 (x_X_no x1 M) (fun r1 M1 => some ((-1), M1))
def x_Tape_put_L3 (v1 : Int) (rec : Int → Mem → Option (Int × Mem)) (v2 : Int) (M : Mem) : Option (Int × Mem) :=
  (if w32 v2 < 0 then some (v2, M) else (if w32 1600 ≤ w32 (M 1 1) then lt (v2 + (-8)) (fun v2_45 => rec v2_45 M) else chk (0 ≤ (M 1 1) ∧ (M 1 1) < 1600) (lt (upM M 2 (M 1 1).toNat (and32 (ushr32 v1 v2) 255)) (fun M_34 => lt (upM M_34 1 1 ((M_34 1 1) + 1)) (fun M_42 => lt (v2 + (-8)) (fun v2_45 => rec v2_45 M_42))))))
def x_Tape_put (x1 : Int) (M : Mem) : Option (Mem) :=
  bnd (itr2 (x_Tape_put_L3 x1) FUEL 24 M) (fun q1 => match q1 with | (v2_1, M_1) => some M_1)
def x_X_feed (x1 : Int) (x2 : Int) (x3 : Int) (x4 : Int) (x5 : Int) (M : Mem) : Option (Int × Mem) :=
  (if w32 ((M 1 1) + 20) ≤ w32 1600 then bnd (x_Tape_put x1 M) (fun M1 => bnd (x_Tape_put x2 M1) (fun M2 => bnd (x_Tape_put x3 M2) (fun M3 => bnd (x_Tape_put x4 M3) (fun M4 => bnd (x_Tape_put x5 M4) (fun M5 => some ((M5 1 1), M5)))))) else bnd2 (x_X_none 0 M) (fun r6 M6 => some (r6, M6)))
def x_X_end (x1 : Int) (M : Mem) : Option (Bool × Mem) :=
  (if w32 x1 < 0 then bnd2 (x_X_no 0 M) (fun r1 M1 => some (r1, M1)) else (if w32 x1 ≤ w32 (M 1 1) then lt (upM M 1 1 x1) (fun M_26 => some (true, M_26)) else bnd2 (x_X_no 0 M) (fun r2 M2 => some (r2, M2))))
def x_Heard_clear (M : Mem) : Option (Mem) :=
  lt (upM M 354 0 0) (fun M_2 => some M_2)
def x_Past_clear (M : Mem) : Option (Mem) :=
  lt (upM M 64 0 0) (fun M_2 => some M_2)
def x_Reader_at (x1 : Int) (M : Mem) : Option (Bool) :=
  (if ¬ w32 (M 3 1) = 0 then some false else (if w32 (M 3 4) < 0 then some false else (if w32 (M 19 3) ≤ w32 (M 3 4) then some false else chk (0 ≤ (M 3 4) ∧ (M 3 4) < 1601) ((if ¬ w32 (M 20 (M 3 4).toNat) = w32 x1 then some false else some true)))))
def x_Reader_kind (M : Mem) : Option (Int) :=
  (if w32 (M 3 4) < 0 then some 26 else (if w32 (M 19 3) ≤ w32 (M 3 4) then some 26 else chk (0 ≤ (M 3 4) ∧ (M 3 4) < 1601) (some (M 20 (M 3 4).toNat))))
def x_Reader_refuse (x1 : Int) (M : Mem) : Option (Mem) :=
  (if w32 (M 3 1) = 0 then lt (upM M 3 1 x1) (fun M_10 => (if w32 (M_10 3 4) < 0 then lt (upM M_10 3 2 (-1)) (fun M_51 => some M_51) else (if w32 (M_10 19 3) ≤ w32 (M_10 3 4) then lt (upM M_10 3 2 (-1)) (fun M_51 => some M_51) else chk (0 ≤ (M_10 3 4) ∧ (M_10 3 4) < 1601) (lt (upM M_10 3 2 (M_10 21 (M_10 3 4).toNat)) (fun M_51 => some M_51))))) else some M)
def x_Reader_value (M : Mem) : Option (Int) :=
  (if w32 (M 3 4) < 0 then some 0 else (if w32 (M 19 3) ≤ w32 (M 3 4) then some 0 else chk (0 ≤ (M 3 4) ∧ (M 3 4) < 1601) (some (M 22 (M 3 4).toNat))))
def x_Reader_number_B34 (v3 : Int) (M : Mem) : Option (Int × Mem) :=
  (if ¬ w32 (M 3 1) = 0 then some (v3, M) else lt (upM M 3 4 ((M 3 4) + 1)) (fun M_48 => some (v3, M_48)))
def x_Reader_number_B29 (v3 : Int) (M : Mem) : Option (Int × Mem) :=
  bnd (x_Reader_refuse 4 M) (fun M3 => x_Reader_number_B34 v3 M3)
def x_Reader_number_B14 (v1 : Int) (v2 : Int) (M : Mem) : Option (Int × Mem) :=
  bnd (x_Reader_value M) (fun r2 => (if w32 r2 < w32 v1 then x_Reader_number_B29 r2 M else (if w32 r2 ≤ w32 v2 then x_Reader_number_B34 r2 M else x_Reader_number_B29 r2 M)))
def x_Reader_number (x1 : Int) (x2 : Int) (M : Mem) : Option (Int × Mem) :=
  bnd (x_Reader_at 24 M) (fun r1 => (if r1 = true then x_Reader_number_B14 x1 x2 M else bnd (x_Reader_refuse 1 M) (fun M4 => x_Reader_number_B14 x1 x2 M4)))
def x_Town_personOf_L2 (th : Nat) (v1 : Int) (M : Mem) (rec : Int → Option ((Int) ⊕ (Int))) (v2 : Int) : Option ((Int) ⊕ (Int)) :=
  (if w32 (M th 1) ≤ w32 v2 then some (.inr v2) else (if w32 8 ≤ w32 v2 then some (.inr v2) else chk (0 ≤ v2 ∧ v2 < 8) ((if ¬ w32 (M (th + 3) v2.toNat) = w32 v1 then lt (v2 + 1) (fun v2_28 => rec v2_28) else some (.inl v2)))))
def x_Town_personOf (th : Nat) (x1 : Int) (M : Mem) : Option (Int) :=
  bnd (itr1 (x_Town_personOf_L2 th x1 M) FUEL 0) (fun q1 => match q1 with | .inl r => some r | .inr v2_1 => some (-1))
def x_Town_voiceOf_L2 (th : Nat) (v1 : Int) (M : Mem) (rec : Int → Option ((Int) ⊕ (Int))) (v2 : Int) : Option ((Int) ⊕ (Int)) :=
  (if w32 (M th 0) ≤ w32 v2 then some (.inr v2) else (if w32 7 ≤ w32 v2 then some (.inr v2) else chk (0 ≤ v2 ∧ v2 < 7) ((if ¬ w32 (M (th + 1) v2.toNat) = w32 v1 then lt (v2 + 1) (fun v2_28 => rec v2_28) else some (.inl v2)))))
def x_Town_voiceOf (th : Nat) (x1 : Int) (M : Mem) : Option (Int) :=
  bnd (itr1 (x_Town_voiceOf_L2 th x1 M) FUEL 0) (fun q1 => match q1 with | .inl r => some r | .inr v2_1 => some (-1))
def x_Reader_newName_B48 (v1 : Int) (M : Mem) : Option (Int × Mem) :=
  (if ¬ w32 (M 3 1) = 0 then some (v1, M) else lt (upM M 3 4 ((M 3 4) + 1)) (fun M_62 => some (v1, M_62)))
def x_Reader_newName_B43 (v1 : Int) (M : Mem) : Option (Int × Mem) :=
  bnd (x_Reader_refuse 2 M) (fun M4 => x_Reader_newName_B48 v1 M4)
def x_Reader_newName_B14 (M : Mem) : Option (Int × Mem) :=
  bnd (x_Reader_value M) (fun r2 => bnd (x_Town_voiceOf 4 r2 M) (fun r3 => (if ¬ w32 r3 = w32 (-1) then x_Reader_newName_B43 r2 M else bnd (x_Town_personOf 4 r2 M) (fun r5 => (if w32 r5 = w32 (-1) then x_Reader_newName_B48 r2 M else x_Reader_newName_B43 r2 M)))))
def x_Reader_newName (M : Mem) : Option (Int × Mem) :=
  bnd (x_Reader_at 23 M) (fun r1 => (if r1 = true then x_Reader_newName_B14 M else bnd (x_Reader_refuse 1 M) (fun M6 => x_Reader_newName_B14 M6)))
def x_Reader_require_B13 (M : Mem) : Option (Mem) :=
  (if ¬ w32 (M 3 1) = 0 then some M else lt (upM M 3 4 ((M 3 4) + 1)) (fun M_27 => some M_27))
def x_Reader_require (x1 : Int) (M : Mem) : Option (Mem) :=
  bnd (x_Reader_at x1 M) (fun r1 => (if r1 = true then x_Reader_require_B13 M else bnd (x_Reader_refuse 1 M) (fun M2 => x_Reader_require_B13 M2)))
def x_Reader_readPerson_B20 (v1 : Int) (M : Mem) : Option (Mem) :=
  bnd (x_Reader_require 1 M) (fun M1 => bnd2 (x_Reader_newName M1) (fun r2 M2 => bnd (x_Reader_require 7 M2) (fun M3 => bnd2 (x_Reader_number 0 9 M3) (fun r4 M4 => bnd (x_Reader_require 8 M4) (fun M5 => bnd2 (x_Reader_number 0 99 M5) (fun r6 M6 => (if ¬ w32 (M6 3 1) = 0 then some M6 else (if w32 v1 < w32 8 then chk (0 ≤ v1 ∧ v1 < 8) (lt (upM M6 7 v1.toNat r2) (fun M_82 => chk (0 ≤ v1 ∧ v1 < 8) (lt (upM M_82 8 v1.toNat r4) (fun M_92 => chk (0 ≤ v1 ∧ v1 < 8) (lt (upM M_92 9 v1.toNat r6) (fun M_103 => lt (upM M_103 4 1 ((M_103 4 1) + 1)) (fun M_114 => some M_114))))))) else some M6))))))))
def x_Reader_readPerson (M : Mem) : Option (Mem) :=
  lt ((M 4 1)) (fun v1_7 => (if w32 v1_7 < w32 8 then x_Reader_readPerson_B20 v1_7 M else bnd (x_Reader_refuse 6 M) (fun M7 => x_Reader_readPerson_B20 v1_7 M7)))
def x_Reader_enter_B14 (M : Mem) : Option (Bool × Mem) :=
  (if w32 (M 3 1) = 0 then lt (upM M 3 5 ((M 3 5) + 1)) (fun M_30 => lt (upM M_30 3 4 ((M_30 3 4) + 1)) (fun M_40 => some (true, M_40))) else some (false, M))
def x_Reader_enter (M : Mem) : Option (Bool × Mem) :=
  (if w32 (M 3 5) < w32 7 then x_Reader_enter_B14 M else bnd (x_Reader_refuse 5 M) (fun M1 => x_Reader_enter_B14 M1))
def x_Reader_isAsked (x1 : Int) (M : Mem) : Option (Bool) :=
  (if w32 x1 = 7 then (if w32 (M 3 6) = 0 then some true else (if ¬ w32 (M 3 6) = w32 1 then some false else some true)) else (if w32 x1 = 8 then (if ¬ w32 (M 3 6) = w32 2 then some false else some true) else (if w32 x1 = 10 then some true else (if w32 x1 = 11 then some true else (if w32 x1 = 12 then some true else (if w32 x1 = 13 then some true else (if w32 x1 = 14 then (if ¬ w32 (M 3 6) = 0 then some false else some true) else (if w32 x1 = 15 then (if ¬ w32 (M 3 6) = w32 1 then some false else some true) else some false))))))))
def x_Rules_add (th : Nat) (x1 : Int) (M : Mem) : Option (Mem) :=
  (if w32 1600 ≤ w32 (M th 5) then some M else chk (0 ≤ (M th 5) ∧ (M th 5) < 1600) (lt (upM M (th + 2) (M th 5).toNat x1) (fun M_21 => lt (upM M_21 th 5 ((M_21 th 5) + 1)) (fun M_29 => some M_29))))
def x_Rules_addNumber (th : Nat) (x1 : Int) (M : Mem) : Option (Mem) :=
  bnd (x_Rules_add th x1 M) (fun M1 => some M1)
def x_Rules_addSign (th : Nat) (x1 : Int) (M : Mem) : Option (Mem) :=
  bnd (x_Rules_add th (20000 + x1) M) (fun M1 => some M1)
def x_Rules_addFact (th : Nat) (x1 : Int) (M : Mem) : Option (Mem) :=
  bnd (x_Rules_add th (10000 + x1) M) (fun M1 => some M1)
def x_Rules_isTold (th : Nat) (x1 : Int) (M : Mem) : Option (Bool) :=
  (if w32 x1 < 0 then some false else (if w32 3 ≤ w32 x1 then some false else chk (0 ≤ x1 ∧ x1 < 3) (chk (0 ≤ x1 ∧ x1 < 3) ((if w32 (M (th + 4) x1.toNat) ≤ w32 (M (th + 3) x1.toNat) then some false else some true)))))
def x_Rules_start (th : Nat) (x1 : Int) (M : Mem) : Option (Mem) :=
  (if w32 x1 < 0 then some M else (if w32 3 ≤ w32 x1 then some M else chk (0 ≤ x1 ∧ x1 < 3) (lt (upM M (th + 3) x1.toNat (M th 5)) (fun M_18 => some M_18))))
def x_Rules_stop (th : Nat) (x1 : Int) (M : Mem) : Option (Mem) :=
  (if w32 x1 < 0 then some M else (if w32 3 ≤ w32 x1 then some M else chk (0 ≤ x1 ∧ x1 < 3) (lt (upM M (th + 4) x1.toNat (M th 5)) (fun M_18 => some M_18))))
def x_Reader_readVoice_B20 (v1 : Int) (M : Mem) : Option (Mem) :=
  bnd (x_Reader_require 0 M) (fun M1 => bnd2 (x_Reader_newName M1) (fun r2 M2 => bnd (x_Reader_require 7 M2) (fun M3 => bnd2 (x_Reader_number 0 9 M3) (fun r4 M4 => (if ¬ w32 (M4 3 1) = 0 then some M4 else (if w32 v1 < w32 7 then chk (0 ≤ v1 ∧ v1 < 7) (lt (upM M4 5 v1.toNat r2) (fun M_67 => chk (0 ≤ v1 ∧ v1 < 7) (lt (upM M_67 6 v1.toNat r4) (fun M_77 => lt (upM M_77 4 0 ((M_77 4 0) + 1)) (fun M_88 => some M_88))))) else some M4))))))
def x_Reader_readVoice (M : Mem) : Option (Mem) :=
  lt ((M 4 0)) (fun v1_7 => (if w32 v1_7 < w32 7 then x_Reader_readVoice_B20 v1_7 M else bnd (x_Reader_refuse 6 M) (fun M5 => x_Reader_readVoice_B20 v1_7 M5)))
def x_Reader_personName_B36 (v1 : Int) (M : Mem) : Option (Int × Mem) :=
  (if ¬ w32 (M 3 1) = 0 then some (v1, M) else lt (upM M 3 4 ((M 3 4) + 1)) (fun M_50 => some (v1, M_50)))
def x_Reader_personName_B14 (M : Mem) : Option (Int × Mem) :=
  bnd (x_Reader_value M) (fun r2 => bnd (x_Town_personOf 4 r2 M) (fun r3 => (if ¬ w32 r3 = w32 (-1) then x_Reader_personName_B36 r3 M else bnd (x_Reader_refuse 3 M) (fun M4 => x_Reader_personName_B36 r3 M4))))
def x_Reader_personName (M : Mem) : Option (Int × Mem) :=
  bnd (x_Reader_at 23 M) (fun r1 => (if r1 = true then x_Reader_personName_B14 M else bnd (x_Reader_refuse 1 M) (fun M5 => x_Reader_personName_B14 M5)))
def x_Reader_readWants_B20 (v1 : Int) (M : Mem) : Option (Mem) :=
  bnd (x_Reader_require 2 M) (fun M1 => bnd2 (x_Reader_personName M1) (fun r2 M2 => bnd (x_Reader_require 9 M2) (fun M3 => bnd2 (x_Reader_number 0 999 M3) (fun r4 M4 => bnd (x_Reader_require 10 M4) (fun M5 => bnd2 (x_Reader_number 1 20 M5) (fun r6 M6 => (if ¬ w32 (M6 3 1) = 0 then some M6 else (if w32 v1 < w32 12 then chk (0 ≤ v1 ∧ v1 < 12) (lt (upM M6 10 v1.toNat r2) (fun M_83 => chk (0 ≤ v1 ∧ v1 < 12) (lt (upM M_83 11 v1.toNat r4) (fun M_93 => chk (0 ≤ v1 ∧ v1 < 12) (lt (upM M_93 12 v1.toNat r6) (fun M_104 => lt (upM M_104 4 2 ((M_104 4 2) + 1)) (fun M_115 => some M_115))))))) else some M6))))))))
def x_Reader_readWants (M : Mem) : Option (Mem) :=
  lt ((M 4 2)) (fun v1_7 => (if w32 v1_7 < w32 12 then x_Reader_readWants_B20 v1_7 M else bnd (x_Reader_refuse 6 M) (fun M7 => x_Reader_readWants_B20 v1_7 M7)))
def x_Reader_refuseOneMore (M : Mem) : Option (Mem) :=
  bnd (x_Reader_at 26 M) (fun r1 => lt ((b2i r1)) (fun v1_6 => bnd (x_Reader_refuse 6 M) (fun M2 => (if w32 v1_6 = 0 then some M2 else bnd (x_Reader_value M2) (fun r3 => lt (upM M2 3 2 r3) (fun M_22 => some M_22))))))
def x_Tokens_add (x1 : Int) (x2 : Int) (x3 : Int) (M : Mem) : Option (Mem) :=
  (if w32 1601 ≤ w32 (M 19 3) then some M else (if w32 1601 ≤ w32 (M 19 3) then some M else (if w32 1601 ≤ w32 (M 19 3) then some M else chk (0 ≤ (M 19 3) ∧ (M 19 3) < 1601) (lt (upM M 20 (M 19 3).toNat x1) (fun M_45 => chk (0 ≤ (M_45 19 3) ∧ (M_45 19 3) < 1601) (lt (upM M_45 21 (M_45 19 3).toNat x2) (fun M_55 => chk (0 ≤ (M_55 19 3) ∧ (M_55 19 3) < 1601) (lt (upM M_55 22 (M_55 19 3).toNat x3) (fun M_65 => lt (upM M_65 19 3 ((M_65 19 3) + 1)) (fun M_73 => some M_73))))))))))
def x_Word_kindOf_L12_B48 (rec : Int → Int → Option (Int × Int)) (v0 : Int) (v1 : Int) (v2 : Int) (v3 : Int) (s0 : Int) (M : Mem) : Option (Int × Int) :=
  (if w32 s0 = w32 32 then lt (v3 + 1) (fun v3_71 => rec v2 v3_71) else lt ((or32 v2 (shl32 ((s0 - 97) + 1) (5 * v3)))) (fun v2_70 => lt (v3 + 1) (fun v3_71 => rec v2_70 v3_71)))
def x_Word_kindOf_L12 (v0 : Int) (v1 : Int) (M : Mem) (rec : Int → Int → Option (Int × Int)) (v2 : Int) (v3 : Int) : Option (Int × Int) :=
  (if w32 6 ≤ w32 v3 then some (v2, v3) else lt (((6 * v1) + v3)) (fun v4_24 => (if w32 138 ≤ w32 v4_24 then x_Word_kindOf_L12_B48 rec v0 v1 v2 v3 32 M else chk (0 ≤ v4_24 ∧ v4_24 < 138) (x_Word_kindOf_L12_B48 rec v0 v1 v2 v3 (xT0.getD v4_24.toNat 0) M))))
def x_Word_kindOf_L2 (v0 : Int) (M : Mem) (rec : Int → Option ((Int) ⊕ (Int))) (v1 : Int) : Option ((Int) ⊕ (Int)) :=
  (if w32 23 ≤ w32 v1 then some (.inr v1) else bnd (itr2 (x_Word_kindOf_L12 v0 v1 M) FUEL 0 0) (fun q1 => match q1 with | (v2_1, v3_1) => (if ¬ w32 v2_1 = w32 v0 then lt (v1 + 1) (fun v1_84 => rec v1_84) else some (.inl v1))))
def x_Word_kindOf (x0 : Int) (M : Mem) : Option (Int) :=
  bnd (itr1 (x_Word_kindOf_L2 x0 M) FUEL 0) (fun q2 => match q2 with | .inl r => some r | .inr v1_2 => some 23)
def x_Tokens_finish_B27 (s1 : Int) (M : Mem) : Option (Mem) :=
  bnd (x_Tokens_add s1 (M 19 5) (M 19 7) M) (fun M1 => lt (upM M1 19 6 0) (fun M_40 => some M_40))
def x_Tokens_finish (M : Mem) : Option (Mem) :=
  (if w32 (M 19 6) ≤ 0 then lt (upM M 19 6 0) (fun M_40 => some M_40) else (if w32 (M 19 4) = 0 then x_Tokens_finish_B27 24 M else bnd (x_Word_kindOf (M 19 7) M) (fun r2 => x_Tokens_finish_B27 r2 M)))
def x_Tokens_bad (x1 : Int) (x2 : Int) (M : Mem) : Option (Bool × Mem) :=
  bnd (x_Tokens_add 26 x1 x2 M) (fun M1 => some (false, M1))
def x_Tokens_takeSign_L20 (v1 : Int) (v2 : Int) (M : Mem) (rec : Int → Option ((Bool × Mem) ⊕ (Int))) (v3 : Int) : Option ((Bool × Mem) ⊕ (Int)) :=
  (if w32 14 ≤ w32 v3 then some (.inr v3) else chk (0 ≤ v3 ∧ v3 < 14) ((if ¬ w32 (xT1.getD v3.toNat 0) = w32 v1 then lt (v3 + 1) (fun v3_48 => rec v3_48) else bnd (x_Tokens_add v1 v2 0 M) (fun M2 => some (.inl (true, M2))))))
def x_Tokens_takeSign (x1 : Int) (x2 : Int) (M : Mem) : Option (Bool × Mem) :=
  bnd (x_Tokens_finish M) (fun M1 => (if w32 x1 = w32 32 then some (true, M1) else (if ¬ w32 x1 = w32 10 then bnd (itr1 (x_Tokens_takeSign_L20 x1 x2 M1) FUEL 0) (fun q3 => match q3 with | .inl r => some r | .inr v3_3 => bnd2 (x_Tokens_bad x2 x2 M1) (fun r4 M4 => some (r4, M4))) else some (true, M1))))
def x_Tokens_take_B166 (s1 : Int) (M : Mem) : Option (Bool × Mem) :=
  lt (upM M 19 7 s1) (fun M_166 => lt (upM M_166 19 6 ((M_166 19 6) + 1)) (fun M_176 => some (true, M_176)))
def x_Tokens_take_B128 (v1 : Int) (v3 : Int) (M : Mem) : Option (Bool × Mem) :=
  (if w32 v3 = 0 then x_Tokens_take_B166 (((10 * (M 19 7)) + v1) - 48) M else x_Tokens_take_B166 (or32 (M 19 7) (shl32 ((v1 - 97) + 1) (5 * (M 19 6)))) M)
def x_Tokens_take_B93 (v1 : Int) (v2 : Int) (v3 : Int) (s0 : Int) (s1 : Int) (M : Mem) : Option (Bool × Mem) :=
  (if ¬ w32 s0 = w32 s1 then (if ¬ w32 (M 19 6) = 0 then x_Tokens_take_B128 v1 v3 M else lt (upM M 19 5 v2) (fun M_115 => chk (v3 = (0 : Int) ∨ v3 = 1) (lt (upM M_115 19 4 v3) (fun M_120 => lt (upM M_120 19 7 0) (fun M_125 => x_Tokens_take_B128 v1 v3 M_125))))) else bnd2 (x_Tokens_bad v2 (M 19 5) M) (fun r1 M1 => some (r1, M1)))
def x_Tokens_take_B79 (v1 : Int) (v2 : Int) (v3 : Int) (M : Mem) : Option (Bool × Mem) :=
  (if w32 v3 = 0 then x_Tokens_take_B93 v1 v2 v3 (M 19 6) 4 M else x_Tokens_take_B93 v1 v2 v3 (M 19 6) 6 M)
def x_Tokens_take_B53 (v1 : Int) (v2 : Int) (v3 : Int) (M : Mem) : Option (Bool × Mem) :=
  (if w32 (M 19 6) ≤ 0 then x_Tokens_take_B79 v1 v2 v3 M else (if w32 v3 = w32 (M 19 4) then x_Tokens_take_B79 v1 v2 v3 M else bnd (x_Tokens_finish M) (fun M2 => bnd2 (x_Tokens_bad v2 v2 M2) (fun r3 M3 => some (r3, M3)))))
def x_Tokens_take_B35 (v1 : Int) (v2 : Int) (v3 : Int) (s0 : Int) (M : Mem) : Option (Bool × Mem) :=
  (if ¬ w32 v3 = 0 then x_Tokens_take_B53 v1 v2 v3 M else (if ¬ w32 s0 = 0 then x_Tokens_take_B53 v1 v2 v3 M else bnd2 (x_Tokens_takeSign v1 v2 M) (fun r4 M4 => some (r4, M4))))
def x_Tokens_take_B34 (v1 : Int) (v2 : Int) (v3 : Int) (M : Mem) : Option (Bool × Mem) :=
  x_Tokens_take_B35 v1 v2 v3 0 M
def x_Tokens_take_B17 (v1 : Int) (v2 : Int) (s0 : Int) (M : Mem) : Option (Bool × Mem) :=
  (if w32 v1 < w32 48 then x_Tokens_take_B34 v1 v2 s0 M else (if w32 57 < w32 v1 then x_Tokens_take_B34 v1 v2 s0 M else x_Tokens_take_B35 v1 v2 s0 1 M))
def x_Tokens_take_B16 (v1 : Int) (v2 : Int) (M : Mem) : Option (Bool × Mem) :=
  x_Tokens_take_B17 v1 v2 0 M
def x_Tokens_take (x1 : Int) (x2 : Int) (M : Mem) : Option (Bool × Mem) :=
  (if w32 x1 < w32 97 then x_Tokens_take_B16 x1 x2 M else (if w32 122 < w32 x1 then x_Tokens_take_B16 x1 x2 M else x_Tokens_take_B17 x1 x2 1 M))
def x_Tokens_split_L14 (rec : Int → Int → Mem → Option (Int × Int × Mem)) (v2 : Int) (v3 : Int) (M : Mem) : Option (Int × Int × Mem) :=
  (if w32 (M 1 1) ≤ w32 v3 then some (v2, v3, M) else (if w32 1600 ≤ w32 v3 then some (v2, v3, M) else (if w32 v2 = 0 then some (v2, v3, M) else chk (0 ≤ v3 ∧ v3 < 1600) (bnd2 (x_Tokens_take (M 2 v3.toNat) v3 M) (fun r1 M1 => lt ((b2i r1)) (fun v2_46 => lt (v3 + 1) (fun v3_47 => rec v2_46 v3_47 M1)))))))
def x_Tokens_split (M : Mem) : Option (Mem) :=
  lt (upM M 19 3 0) (fun M_2 => lt (upM M_2 19 6 0) (fun M_7 => bnd (itr3 (x_Tokens_split_L14) FUEL 1 0 M_7) (fun q2 => match q2 with | (v2_2, v3_2, M_2) => (if w32 v2_2 = 0 then some M_2 else bnd (x_Tokens_finish M_2) (fun M3 => bnd (x_Tokens_add 25 (M3 1 1) 0 M3) (fun M4 => some M4))))))
def j_Arrays_fill_53178_L5 (a0 : Nat) (La0 : Nat) (v1 : Int) (v3 : Int) (rec : Int → Mem → Option (Int × Mem)) (v2 : Int) (M : Mem) : Option (Int × Mem) :=
  (if w32 v3 ≤ w32 v2 then some (v2, M) else chk (0 ≤ v2 ∧ v2 < La0) (lt (upM M a0 v2.toNat v1) (fun M_13 => lt (v2 + 1) (fun v2_14 => rec v2_14 M_13))))
def j_Arrays_fill_53178 (a0 : Nat) (La0 : Nat) (x1 : Int) (M : Mem) : Option (Mem) :=
  lt ((La0 : Int)) (fun v3_4 => bnd (itr2 (j_Arrays_fill_53178_L5 a0 La0 x1 v3_4) FUEL 0 M) (fun q1 => match q1 with | (v2_1, M_1) => some M_1))
def x_Rules_clear (th : Nat) (M : Mem) : Option (Mem) :=
  lt (upM M th 5 0) (fun M_2 => bnd (j_Arrays_fill_53178 (th + 3) 3 0 M_2) (fun M1 => bnd (j_Arrays_fill_53178 (th + 4) 3 0 M1) (fun M2 => some M2)))
def x_Town_clear (th : Nat) (M : Mem) : Option (Mem) :=
  lt (upM M th 0 0) (fun M_2 => lt (upM M_2 th 1 0) (fun M_7 => lt (upM M_7 th 2 0) (fun M_12 => lt (upM M_12 th 3 0) (fun M_17 => bnd (x_Rules_clear (th + 9) M_17) (fun M1 => some M1)))))
def x_State_reset (th : Nat) (M : Mem) : Option (Mem) :=
  lt (cpyM M 25 (th + 1) 7) (fun M1 => bnd (j_Arrays_fill_53178 (th + 2) 7 0 M1) (fun M2 => bnd (j_Arrays_fill_53178 (th + 3) 7 0 M2) (fun M3 => bnd (j_Arrays_fill_53178 (th + 4) 12 0 M3) (fun M4 => lt (cpyM M4 30 (th + 5) 12) (fun M5 => bnd (j_Arrays_fill_53178 (th + 6) 12 0 M5) (fun M6 => bnd (j_Arrays_fill_53178 (th + 7) 12 (-1) M6) (fun M7 => bnd (j_Arrays_fill_53178 (th + 8) 12 0 M7) (fun M8 => bnd (j_Arrays_fill_53178 (th + 9) 12 0 M8) (fun M9 => lt (upM M9 th 12 0) (fun M_94 => lt (upM M_94 th 13 0) (fun M_99 => some M_99)))))))))))
def x_Rules_copyFrom (th : Nat) (o1 : Nat) (M : Mem) : Option (Mem) :=
  lt (cpyM M (o1 + 2) (th + 2) 1600) (fun M1 => lt (cpyM M1 (o1 + 3) (th + 3) 3) (fun M2 => lt (cpyM M2 (o1 + 4) (th + 4) 3) (fun M3 => some M3)))
def x_Town_copyFrom (th : Nat) (o1 : Nat) (M : Mem) : Option (Mem) :=
  lt (upM M th 0 (M o1 0)) (fun M_5 => lt (upM M_5 th 1 (M_5 o1 1)) (fun M_13 => lt (upM M_13 th 2 (M_13 o1 2)) (fun M_21 => lt (upM M_21 th 3 (M_21 o1 3)) (fun M_29 => lt (cpyM M_29 (o1 + 1) (th + 1) 7) (fun M1 => lt (cpyM M1 (o1 + 2) (th + 2) 7) (fun M2 => lt (cpyM M2 (o1 + 3) (th + 3) 8) (fun M3 => lt (cpyM M3 (o1 + 4) (th + 4) 8) (fun M4 => lt (cpyM M4 (o1 + 5) (th + 5) 8) (fun M5 => lt (cpyM M5 (o1 + 6) (th + 6) 12) (fun M6 => lt (cpyM M6 (o1 + 7) (th + 7) 12) (fun M7 => lt (cpyM M7 (o1 + 8) (th + 8) 12) (fun M8 => bnd (x_Rules_copyFrom (th + 9) (o1 + 9) M8) (fun M9 => some M9)))))))))))))
def x_X_fault (x1 : Int) (M : Mem) : Option (Int) :=
  (if ¬ w32 x1 = 0 then (if ¬ w32 x1 = w32 1 then some (-1) else some (M 3 2)) else some (M 3 1))
def x_State_countOf_L4 (th : Nat) (v1 : Int) (M : Mem) (rec : Int → Int → Option (Int × Int)) (v2 : Int) (v3 : Int) : Option (Int × Int) :=
  (if w32 (M 23 2) ≤ w32 v3 then some (v2, v3) else chk (0 ≤ v3 ∧ v3 < 12) ((if ¬ w32 (M (th + 4) v3.toNat) = w32 v1 then lt (v3 + 1) (fun v3_28 => rec v2 v3_28) else lt (v2 + 1) (fun v2_25 => lt (v3 + 1) (fun v3_28 => rec v2_25 v3_28)))))
def x_State_countOf (th : Nat) (x1 : Int) (M : Mem) : Option (Int) :=
  bnd (itr2 (x_State_countOf_L4 th x1 M) FUEL 0 0) (fun q1 => match q1 with | (v2_1, v3_1) => some v2_1)
def x_State_busyCount (th : Nat) (M : Mem) : Option (Int) :=
  bnd (x_State_countOf th 2 M) (fun r1 => some r1)
def x_State_struckCount_L4 (th : Nat) (M : Mem) (rec : Int → Int → Option (Int × Int)) (v1 : Int) (v2 : Int) : Option (Int × Int) :=
  (if w32 (M 23 0) ≤ w32 v2 then some (v1, v2) else chk (0 ≤ v2 ∧ v2 < 7) ((if w32 (M (th + 2) v2.toNat) = 0 then lt (v2 + 1) (fun v2_27 => rec v1 v2_27) else lt (v1 + 1) (fun v1_24 => lt (v2 + 1) (fun v2_27 => rec v1_24 v2_27)))))
def x_State_struckCount (th : Nat) (M : Mem) : Option (Int) :=
  bnd (itr2 (x_State_struckCount_L4 th M) FUEL 0 0) (fun q1 => match q1 with | (v1_1, v2_1) => some v1_1)
def x_X_has (x1 : Int) (M : Mem) : Option (Int) :=
  (if w32 x1 = 0 then some (M 23 0) else (if w32 x1 = 1 then some (M 23 1) else (if w32 x1 = 2 then some (M 23 2) else (if w32 x1 = 3 then some (M 38 13) else (if w32 x1 = 4 then bnd (x_State_struckCount 38 M) (fun r1 => some r1) else (if w32 x1 = 5 then bnd (x_State_busyCount 38 M) (fun r2 => some r2) else (if w32 x1 = 6 then bnd (x_State_countOf 38 0 M) (fun r3 => some r3) else (if w32 x1 = 7 then bnd (x_State_countOf 38 1 M) (fun r4 => some r4) else (if w32 x1 = 8 then bnd (x_State_countOf 38 2 M) (fun r5 => some r5) else (if w32 x1 = 9 then bnd (x_State_countOf 38 3 M) (fun r6 => some r6) else (if w32 x1 = 10 then bnd (x_State_countOf 38 4 M) (fun r7 => some r7) else (if w32 x1 = 11 then bnd (x_State_countOf 38 5 M) (fun r8 => some r8) else (if w32 x1 = 12 then some (M 38 12) else (if w32 x1 = 13 then some (M 354 0) else (if w32 x1 = 14 then some (M 64 0) else (if w32 x1 = 15 then some (M 0 10) else some (-1)))))))))))))))))
def x_X_isPerson (x1 : Int) (M : Mem) : Option (Bool) :=
  (if w32 x1 < 0 then some false else (if w32 (M 23 1) ≤ w32 x1 then some false else some true))
def x_X_isVoice (x1 : Int) (M : Mem) : Option (Bool) :=
  (if w32 x1 < 0 then some false else (if w32 (M 23 0) ≤ w32 x1 then some false else some true))
def x_Word_letterOf (x0 : Int) (x1 : Int) : Option (Int) :=
  some (and32 (shr32 x0 (5 * x1)) 31)
def x_X_letter_B38 (v1 : Int) (v2 : Int) (v3 : Int) (M : Mem) : Option (Int) :=
  (if ¬ w32 v1 = w32 1 then some (-1) else bnd (x_X_isPerson v2 M) (fun r1 => (if r1 = true then chk (0 ≤ v2 ∧ v2 < 8) (bnd (x_Word_letterOf (M 26 v2.toNat) v3) (fun r2 => some r2)) else some (-1))))
def x_X_letter (x1 : Int) (x2 : Int) (x3 : Int) (M : Mem) : Option (Int) :=
  (if w32 x3 < 0 then some (-1) else (if w32 x3 < w32 6 then (if ¬ w32 x1 = 0 then x_X_letter_B38 x1 x2 x3 M else bnd (x_X_isVoice x2 M) (fun r3 => (if r3 = true then chk (0 ≤ x2 ∧ x2 < 7) (bnd (x_Word_letterOf (M 24 x2.toNat) x3) (fun r4 => some r4)) else x_X_letter_B38 x1 x2 x3 M))) else some (-1)))
def x_State_sayingBy_L2 (th : Nat) (v1 : Int) (M : Mem) (rec : Int → Option ((Int) ⊕ (Int))) (v2 : Int) : Option ((Int) ⊕ (Int)) :=
  (if w32 (M 23 2) ≤ w32 v2 then some (.inr v2) else chk (0 ≤ v2 ∧ v2 < 12) ((if ¬ w32 (M (th + 4) v2.toNat) = w32 2 then lt (v2 + 1) (fun v2_35 => rec v2_35) else chk (0 ≤ v2 ∧ v2 < 12) ((if ¬ w32 (M (th + 7) v2.toNat) = w32 v1 then lt (v2 + 1) (fun v2_35 => rec v2_35) else some (.inl v2))))))
def x_State_sayingBy (th : Nat) (x1 : Int) (M : Mem) : Option (Int) :=
  bnd (itr1 (x_State_sayingBy_L2 th x1 M) FUEL 0) (fun q1 => match q1 with | .inl r => some r | .inr v2_1 => some (-1))
def x_X_voice (x1 : Int) (x2 : Int) (M : Mem) : Option (Int) :=
  bnd (x_X_isVoice x1 M) (fun r1 => (if r1 = true then (if w32 x2 = 0 then chk (0 ≤ x1 ∧ x1 < 7) (some (M 39 x1.toNat)) else (if w32 x2 = 1 then chk (0 ≤ x1 ∧ x1 < 7) (some (M 40 x1.toNat)) else (if w32 x2 = 2 then chk (0 ≤ x1 ∧ x1 < 7) (some (M 41 x1.toNat)) else (if w32 x2 = 3 then bnd (x_State_sayingBy 38 x1 M) (fun r2 => some r2) else some (-1))))) else some (-1)))
def x_X_sayingsOf_L5_B40 (rec : Int → Int → Option (Int × Int)) (v1 : Int) (v2 : Int) (v3 : Int) (v4 : Int) (s0 : Int) (M : Mem) : Option (Int × Int) :=
  (if w32 s0 = 0 then lt (v4 + 1) (fun v4_64 => rec v3 v4_64) else chk (0 ≤ v4 ∧ v4 < 12) ((if ¬ w32 (M 29 v4.toNat) = w32 v1 then lt (v4 + 1) (fun v4_64 => rec v3 v4_64) else lt (v3 + 1) (fun v3_61 => lt (v4 + 1) (fun v4_64 => rec v3_61 v4_64)))))
def x_X_sayingsOf_L5_B35 (rec : Int → Int → Option (Int × Int)) (v1 : Int) (v2 : Int) (v3 : Int) (v4 : Int) (M : Mem) : Option (Int × Int) :=
  x_X_sayingsOf_L5_B40 rec v1 v2 v3 v4 1 M
def x_X_sayingsOf_L5 (v1 : Int) (v2 : Int) (M : Mem) (rec : Int → Int → Option (Int × Int)) (v3 : Int) (v4 : Int) : Option (Int × Int) :=
  (if w32 (M 23 2) ≤ w32 v4 then some (v3, v4) else (if w32 v2 = 0 then x_X_sayingsOf_L5_B35 rec v1 v2 v3 v4 M else chk (0 ≤ v4 ∧ v4 < 12) ((if ¬ w32 (M 42 v4.toNat) = w32 2 then x_X_sayingsOf_L5_B40 rec v1 v2 v3 v4 0 M else x_X_sayingsOf_L5_B35 rec v1 v2 v3 v4 M))))
def x_X_sayingsOf (x1 : Int) (x2 : Int) (M : Mem) : Option (Int) :=
  bnd (itr2 (x_X_sayingsOf_L5 x1 x2 M) FUEL 0 0) (fun q1 => match q1 with | (v3_1, v4_1) => some v3_1)
def x_X_person (x1 : Int) (x2 : Int) (M : Mem) : Option (Int) :=
  bnd (x_X_isPerson x1 M) (fun r1 => (if r1 = true then (if w32 x2 = 0 then chk (0 ≤ x1 ∧ x1 < 8) (some (M 27 x1.toNat)) else (if w32 x2 = 1 then chk (0 ≤ x1 ∧ x1 < 8) (some (M 28 x1.toNat)) else (if w32 x2 = 2 then bnd (x_X_sayingsOf x1 0 M) (fun r2 => some r2) else (if w32 x2 = 3 then bnd (x_X_sayingsOf x1 1 M) (fun r3 => some r3) else some (-1))))) else some (-1)))
def x_X_isSaying (x1 : Int) (M : Mem) : Option (Bool) :=
  (if w32 x1 < 0 then some false else (if w32 (M 23 2) ≤ w32 x1 then some false else some true))
def x_X_saying (x1 : Int) (x2 : Int) (M : Mem) : Option (Int) :=
  bnd (x_X_isSaying x1 M) (fun r1 => (if r1 = true then (if w32 x2 = 0 then chk (0 ≤ x1 ∧ x1 < 12) (some (M 29 x1.toNat)) else (if w32 x2 = 1 then chk (0 ≤ x1 ∧ x1 < 12) (some (M 43 x1.toNat)) else (if w32 x2 = 2 then chk (0 ≤ x1 ∧ x1 < 12) (some (M 31 x1.toNat)) else (if w32 x2 = 3 then chk (0 ≤ x1 ∧ x1 < 12) (some (M 42 x1.toNat)) else (if w32 x2 = 4 then chk (0 ≤ x1 ∧ x1 < 12) (some (M 44 x1.toNat)) else (if w32 x2 = 5 then chk (0 ≤ x1 ∧ x1 < 12) (some (M 45 x1.toNat)) else (if w32 x2 = 6 then chk (0 ≤ x1 ∧ x1 < 12) (some (M 46 x1.toNat)) else (if w32 x2 = 7 then chk (0 ≤ x1 ∧ x1 < 12) (some (M 47 x1.toNat)) else some (-1))))))))) else some (-1)))
def j_Math_floorDiv_7cf53 (x0 : Int) (x1 : Int) : Option (Int) :=
  chk (w32 x1 ≠ 0) (lt (((w32 x0).tdiv (w32 x1))) (fun v2_3 => (if 0 ≤ w32 (xor32 x0 x1) then some v2_3 else (if w32 (v2_3 * x1) = w32 x0 then some v2_3 else some (v2_3 - 1)))))
def j_Math_floorMod_7cf53 (x0 : Int) (x1 : Int) : Option (Int) :=
  chk (w32 x1 ≠ 0) (lt (((w32 x0).tmod (w32 x1))) (fun v2_3 => (if 0 ≤ w32 (xor32 x0 x1) then some v2_3 else (if w32 v2_3 = 0 then some v2_3 else some (v2_3 + x1)))))
def j_Math_max_7cf53 (x0 : Int) (x1 : Int) : Option (Int) :=
  (if w32 x0 < w32 x1 then some x1 else some x0)
def j_Math_max_f86c9 (x0 : Int) (x2 : Int) : Option (Int) :=
  (if w32 (lcmp x0 x2) < 0 then some x2 else some x0)
def j_Math_min_7cf53 (x0 : Int) (x1 : Int) : Option (Int) :=
  (if w32 x1 < w32 x0 then some x1 else some x0)
def j_Math_min_f86c9 (x0 : Int) (x2 : Int) : Option (Int) :=
  (if 0 < w32 (lcmp x0 x2) then some x2 else some x0)
def x_Rules_combine_B341 (v3 : Int) (M : Mem) : Option (Int) :=
  bnd (j_Math_min_f86c9 1000000 v3) (fun r1 => bnd (j_Math_max_f86c9 (-1000000) r1) (fun r2 => some r2))
def x_Rules_combine_B259 (s0 : Int) (M : Mem) : Option (Int) :=
  x_Rules_combine_B341 s0 M
def x_Rules_combine_B241 (s0 : Int) (M : Mem) : Option (Int) :=
  x_Rules_combine_B341 s0 M
def x_Rules_combine_B273 (s0 : Int) (M : Mem) : Option (Int) :=
  x_Rules_combine_B341 s0 M
def x_Rules_combine_B301 (s0 : Int) (M : Mem) : Option (Int) :=
  x_Rules_combine_B341 s0 M
def x_Rules_combine_B287 (s0 : Int) (M : Mem) : Option (Int) :=
  x_Rules_combine_B341 s0 M
def x_Rules_combine (x0 : Int) (x1 : Int) (x2 : Int) (M : Mem) : Option (Int) :=
  (if w32 x0 = 17 then lt ((w32 (or32 x1 x2))) (fun v3_317 => x_Rules_combine_B341 v3_317 M) else (if w32 x0 = 18 then lt ((w32 (and32 x1 x2))) (fun v3_309 => x_Rules_combine_B341 v3_309 M) else (if w32 x0 = 21 then bnd (j_Math_min_7cf53 x1 x2) (fun r3 => lt ((w32 r3)) (fun v3_327 => x_Rules_combine_B341 v3_327 M)) else (if w32 x0 = 22 then bnd (j_Math_max_7cf53 x1 x2) (fun r4 => lt ((w32 r4)) (fun v3_337 => x_Rules_combine_B341 v3_337 M)) else (if w32 x0 = 37 then (if ¬ w32 x2 = 0 then bnd (j_Math_floorMod_7cf53 x1 x2) (fun r5 => x_Rules_combine_B259 (w32 r5) M) else x_Rules_combine_B259 0 M) else (if w32 x0 = 42 then lt (((w32 x1) * (w32 x2))) (fun v3_223 => x_Rules_combine_B341 v3_223 M) else (if w32 x0 = 43 then lt (((w32 x1) + (w32 x2))) (fun v3_205 => x_Rules_combine_B341 v3_205 M) else (if w32 x0 = 45 then lt (((w32 x1) - (w32 x2))) (fun v3_214 => x_Rules_combine_B341 v3_214 M) else (if w32 x0 = 47 then (if ¬ w32 x2 = 0 then bnd (j_Math_floorDiv_7cf53 x1 x2) (fun r6 => x_Rules_combine_B241 (w32 r6) M) else x_Rules_combine_B241 0 M) else (if w32 x0 = 60 then (if w32 x2 ≤ w32 x1 then x_Rules_combine_B273 0 M else x_Rules_combine_B273 1 M) else (if w32 x0 = 61 then (if ¬ w32 x1 = w32 x2 then x_Rules_combine_B301 0 M else x_Rules_combine_B301 1 M) else (if w32 x0 = 62 then (if w32 x1 ≤ w32 x2 then x_Rules_combine_B287 0 M else x_Rules_combine_B287 1 M) else x_Rules_combine_B341 0 M))))))))))))
def x_Rules_factOf (th : Nat) (x1 : Int) (M : Mem) : Option (Int) :=
  (if w32 x1 < 0 then some 0 else (if w32 23 ≤ w32 x1 then some 0 else chk (0 ≤ x1 ∧ x1 < 23) (some (M (th + 1) x1.toNat))))
def x_Rules_value_L19 (th : Nat) (v1 : Int) (rec : Int → Int → Mem → Option ((Int × Mem) ⊕ (Int × Int × Mem))) (v2 : Int) (v3 : Int) (M : Mem) : Option ((Int × Mem) ⊕ (Int × Int × Mem)) :=
  chk (0 ≤ v1 ∧ v1 < 3) ((if w32 (M (th + 4) v1.toNat) ≤ w32 v3 then some (.inr (v2, v3, M)) else (if w32 1600 ≤ w32 v3 then some (.inr (v2, v3, M)) else chk (0 ≤ v3 ∧ v3 < 1600) (lt ((M (th + 2) v3.toNat)) (fun v4_44 => (if w32 20000 ≤ w32 v4_44 then (if ¬ w32 v4_44 = w32 20019 then (if ¬ w32 v4_44 = w32 20016 then (if w32 2 ≤ w32 v2 then lt (v2 + (-1)) (fun v2_208 => chk (0 ≤ (v2_208 - 1) ∧ (v2_208 - 1) < 64) (chk (0 ≤ v2_208 ∧ v2_208 < 64) (bnd (x_Rules_combine (v4_44 - 20000) (M (th + 5) (v2_208 - 1).toNat) (M (th + 5) v2_208.toNat) M) (fun r2 => chk (0 ≤ (v2_208 - 1) ∧ (v2_208 - 1) < 64) (lt (upM M (th + 5) (v2_208 - 1).toNat r2) (fun M_241 => lt (v3 + 1) (fun v3_242 => rec v2_208 v3_242 M_241))))))) else some (.inl (0, M))) else (if w32 3 ≤ w32 v2 then lt (v2 + (-2)) (fun v2_151 => chk (0 ≤ (v2_151 - 1) ∧ (v2_151 - 1) < 64) ((if w32 (M (th + 5) (v2_151 - 1).toNat) = 0 then chk (0 ≤ (v2_151 + 1) ∧ (v2_151 + 1) < 64) (chk (0 ≤ (v2_151 - 1) ∧ (v2_151 - 1) < 64) (lt (upM M (th + 5) (v2_151 - 1).toNat (M (th + 5) (v2_151 + 1).toNat)) (fun M_197 => lt (v3 + 1) (fun v3_242 => rec v2_151 v3_242 M_197)))) else chk (0 ≤ v2_151 ∧ v2_151 < 64) (chk (0 ≤ (v2_151 - 1) ∧ (v2_151 - 1) < 64) (lt (upM M (th + 5) (v2_151 - 1).toNat (M (th + 5) v2_151.toNat)) (fun M_178 => lt (v3 + 1) (fun v3_242 => rec v2_151 v3_242 M_178))))))) else some (.inl (0, M)))) else (if w32 1 ≤ w32 v2 then chk (0 ≤ (v2 - 1) ∧ (v2 - 1) < 64) (chk (0 ≤ (v2 - 1) ∧ (v2 - 1) < 64) (lt (upM M (th + 5) (v2 - 1).toNat (1 - (M (th + 5) (v2 - 1).toNat))) (fun M_132 => lt (v3 + 1) (fun v3_242 => rec v2 v3_242 M_132)))) else some (.inl (0, M)))) else (if w32 v2 < w32 64 then (if w32 10000 ≤ w32 v4_44 then bnd (x_Rules_factOf th (v4_44 - 10000) M) (fun r3 => chk (0 ≤ v2 ∧ v2 < 64) (lt (upM M (th + 5) v2.toNat r3) (fun M_93 => lt (v2 + 1) (fun v2_94 => lt (v3 + 1) (fun v3_242 => rec v2_94 v3_242 M_93))))) else chk (0 ≤ v2 ∧ v2 < 64) (lt (upM M (th + 5) v2.toNat v4_44) (fun M_93 => lt (v2 + 1) (fun v2_94 => lt (v3 + 1) (fun v3_242 => rec v2_94 v3_242 M_93))))) else some (.inl (0, M)))))))))
def x_Rules_value (th : Nat) (x1 : Int) (M : Mem) : Option (Int × Mem) :=
  bnd (x_Rules_isTold th x1 M) (fun r1 => (if r1 = true then chk (0 ≤ x1 ∧ x1 < 3) (lt ((M (th + 3) x1.toNat)) (fun v3_18 => bnd (itr3 (x_Rules_value_L19 th x1) FUEL 0 v3_18 M) (fun q4 => match q4 with | .inl r => some r | .inr (v2_4, v3_4, M_4) => (if ¬ w32 v2_4 = w32 1 then some (0, M_4) else some ((M_4 (th + 5) 0), M_4))))) else some (0, M)))
def x_Town_toneOf (th : Nat) (x1 : Int) (M : Mem) : Option (Int) :=
  chk (0 ≤ x1 ∧ x1 < 12) (lt ((M (th + 6) x1.toNat)) (fun v2_6 => (if w32 v2_6 < 0 then some 0 else (if w32 8 ≤ w32 v2_6 then some 0 else chk (0 ≤ v2_6 ∧ v2_6 < 8) (some (M (th + 4) v2_6.toNat))))))
def x_State_know (th : Nat) (x1 : Int) (M : Mem) : Option (Mem) :=
  bnd (x_Town_toneOf 23 x1 M) (fun r1 => lt (upM M 33 11 r1) (fun M_20 => chk (0 ≤ x1 ∧ x1 < 12) (lt (upM M_20 33 12 (M_20 (th + 6) x1.toNat)) (fun M_39 => lt (upM M_39 33 13 (M_39 th 13)) (fun M_56 => chk (0 ≤ x1 ∧ x1 < 12) (lt (upM M_56 33 10 (M_56 31 x1.toNat)) (fun M_78 => some M_78)))))))
def j_Math_abs_0f7a4 (x0 : Int) : Option (Int) :=
  (if 0 ≤ w32 x0 then some x0 else some (-x0))
def x_State_sumOfPicks (th : Nat) (x1 : Int) (x2 : Int) (M : Mem) : Option (Int × Mem) :=
  bnd (x_Rules_isTold 32 0 M) (fun r1 => (if r1 = true then bnd (x_State_know th x1 M) (fun M2 => chk (0 ≤ x2 ∧ x2 < 7) (lt (upM M2 33 14 (M2 (th + 3) x2.toNat)) (fun M_59 => chk (0 ≤ x2 ∧ x2 < 7) (lt (upM M_59 33 7 (M_59 (th + 1) x2.toNat)) (fun M_78 => bnd2 (x_Rules_value 32 0 M_78) (fun r3 M3 => some (r3, M3))))))) else chk (0 ≤ x2 ∧ x2 < 7) (bnd (x_Town_toneOf 23 x1 M) (fun r4 => bnd (j_Math_abs_0f7a4 ((M (th + 1) x2.toNat) - r4)) (fun r5 => some ((9 - r5), M))))))
def x_X_picks (x1 : Int) (x2 : Int) (M : Mem) : Option (Int × Mem) :=
  bnd (x_X_isSaying x1 M) (fun r1 => (if r1 = true then bnd (x_X_isVoice x2 M) (fun r2 => (if r2 = true then bnd2 (x_State_sumOfPicks 38 x1 x2 M) (fun r3 M3 => some ((w32 r3), M3)) else some ((-1000000000000000), M))) else some ((-1000000000000000), M)))
def x_X_comes (x1 : Int) (x2 : Int) (x3 : Int) (M : Mem) : Option (Bool) :=
  (if w32 x1 < w32 x2 then some false else (if w32 x3 < w32 x1 then some false else (if w32 999 < w32 ((M 38 13) + x1) then some false else some true)))
def x_State_copyFrom (th : Nat) (o1 : Nat) (M : Mem) : Option (Mem) :=
  lt (cpyM M (o1 + 1) (th + 1) 7) (fun M1 => lt (cpyM M1 (o1 + 2) (th + 2) 7) (fun M2 => lt (cpyM M2 (o1 + 3) (th + 3) 7) (fun M3 => lt (cpyM M3 (o1 + 4) (th + 4) 12) (fun M4 => lt (cpyM M4 (o1 + 5) (th + 5) 12) (fun M5 => lt (cpyM M5 (o1 + 6) (th + 6) 12) (fun M6 => lt (cpyM M6 (o1 + 7) (th + 7) 12) (fun M7 => lt (cpyM M7 (o1 + 8) (th + 8) 12) (fun M8 => lt (cpyM M8 (o1 + 9) (th + 9) 12) (fun M9 => lt (cpyM M9 (o1 + 10) (th + 10) 12) (fun M10 => lt (cpyM M10 (o1 + 11) (th + 11) 12) (fun M11 => lt (cpyM M11 (o1 + 12) (th + 12) 12) (fun M12 => lt (upM M12 th 12 (M12 o1 12)) (fun M_185 => lt (upM M_185 th 13 (M_185 o1 13)) (fun M_193 => some M_193))))))))))))))
def x_X_fresh (M : Mem) : Option (Mem) :=
  bnd (x_State_copyFrom 51 38 M) (fun M1 => some M1)
def x_State_conclude (th : Nat) (x1 : Int) (x2 : Int) (M : Mem) : Option (Mem) :=
  chk (0 ≤ x1 ∧ x1 < 12) (lt (upM M (th + 4) x1.toNat x2) (fun M_6 => chk (0 ≤ x1 ∧ x1 < 12) (lt (upM M_6 (th + 8) x1.toNat 0) (fun M_13 => (if w32 12 ≤ w32 (M_13 th 12) then some M_13 else chk (0 ≤ (M_13 th 12) ∧ (M_13 th 12) < 12) (lt (upM M_13 (th + 10) (M_13 th 12).toNat (M_13 th 13)) (fun M_35 => chk (0 ≤ (M_35 th 12) ∧ (M_35 th 12) < 12) (lt (upM M_35 (th + 11) (M_35 th 12).toNat x1) (fun M_45 => chk (0 ≤ (M_45 th 12) ∧ (M_45 th 12) < 12) (lt (upM M_45 (th + 12) (M_45 th 12).toNat x2) (fun M_55 => lt (upM M_55 th 12 ((M_55 th 12) + 1)) (fun M_63 => some M_63))))))))))))
def x_State_isFree (th : Nat) (x1 : Int) (M : Mem) : Option (Bool) :=
  chk (0 ≤ x1 ∧ x1 < 7) ((if ¬ w32 (M (th + 2) x1.toNat) = 0 then some false else bnd (x_State_sayingBy th x1 M) (fun r1 => (if ¬ w32 r1 = w32 (-1) then some false else some true))))
def x_State_isMixed (th : Nat) (x1 : Int) (x2 : Int) (M : Mem) : Option (Bool × Mem) :=
  bnd (x_Rules_isTold 32 1 M) (fun r1 => (if r1 = true then bnd (x_State_know th x1 M) (fun M2 => chk (0 ≤ x2 ∧ x2 < 7) (lt (upM M2 33 7 (M2 (th + 1) x2.toNat)) (fun M_39 => bnd (x_State_busyCount th M_39) (fun r3 => lt (upM M_39 33 15 r3) (fun M_56 => bnd2 (x_Rules_value 32 1 M_56) (fun r4 M4 => (if w32 r4 = 0 then some (false, M4) else some (true, M4)))))))) else some (false, M)))
def x_State_give_L8 (th : Nat) (v1 : Int) (v2 : Int) (rec : Int → Int → Int → Mem → Option (Int × Int × Int × Mem)) (v3 : Int) (v4 : Int) (v5 : Int) (M : Mem) : Option (Int × Int × Int × Mem) :=
  (if w32 (M 23 0) ≤ w32 v5 then some (v3, v4, v5, M) else (if w32 (and32 (shr32 v2 v5) 1) = 0 then lt (v5 + 1) (fun v5_61 => rec v3 v4 v5_61 M) else bnd (x_State_isFree th v5 M) (fun r1 => (if r1 = true then bnd2 (x_State_sumOfPicks th v1 v5 M) (fun r2 M2 => (if w32 r2 ≤ w32 v4 then lt (v5 + 1) (fun v5_61 => rec v3 v4 v5_61 M2) else lt (v5 + 1) (fun v5_61 => rec v5 r2 v5_61 M2))) else lt (v5 + 1) (fun v5_61 => rec v3 v4 v5_61 M)))))
def x_State_give (th : Nat) (x1 : Int) (x2 : Int) (M : Mem) : Option (Mem) :=
  bnd (itr4 (x_State_give_L8 th x1 x2) FUEL (-1) 0 0 M) (fun q3 => match q3 with | (v3_3, v4_3, v5_3, M_3) => (if ¬ w32 v3_3 = w32 (-1) then chk (0 ≤ x1 ∧ x1 < 12) (lt (upM M_3 (th + 4) x1.toNat 2) (fun M_79 => chk (0 ≤ x1 ∧ x1 < 12) (lt (upM M_79 (th + 7) x1.toNat v3_3) (fun M_86 => chk (0 ≤ x1 ∧ x1 < 12) (chk (0 ≤ x1 ∧ x1 < 12) (lt (upM M_86 (th + 8) x1.toNat (M_86 31 x1.toNat)) (fun M_101 => chk (0 ≤ v3_3 ∧ v3_3 < 7) (bnd (j_Math_min_7cf53 99 ((M_101 (th + 3) v3_3.toNat) + 1)) (fun r4 => chk (0 ≤ v3_3 ∧ v3_3 < 7) (lt (upM M_101 (th + 3) v3_3.toNat r4) (fun M_120 => bnd2 (x_State_isMixed th x1 v3_3 M_120) (fun r5 M5 => (if r5 = true then chk (0 ≤ x1 ∧ x1 < 12) (lt (upM M5 (th + 9) x1.toNat 1) (fun M_140 => some M_140)) else chk (0 ≤ x1 ∧ x1 < 12) (lt (upM M5 (th + 9) x1.toNat 0) (fun M_140 => some M_140))))))))))))))) else some M_3))
def x_Town_calmOf (th : Nat) (x1 : Int) (M : Mem) : Option (Int) :=
  chk (0 ≤ x1 ∧ x1 < 12) (lt ((M (th + 6) x1.toNat)) (fun v2_6 => (if w32 v2_6 < 0 then some 0 else (if w32 8 ≤ w32 v2_6 then some 0 else chk (0 ≤ v2_6 ∧ v2_6 < 8) (some (M (th + 5) v2_6.toNat))))))
def x_State_isHushed (th : Nat) (x1 : Int) (M : Mem) : Option (Bool × Mem) :=
  chk (0 ≤ x1 ∧ x1 < 12) (bnd (j_Math_min_7cf53 99 ((M (th + 6) x1.toNat) + 1)) (fun r1 => chk (0 ≤ x1 ∧ x1 < 12) (lt (upM M (th + 6) x1.toNat r1) (fun M_18 => bnd (x_Rules_isTold 32 2 M_18) (fun r2 => (if r2 = true then bnd (x_State_know th x1 M_18) (fun M3 => bnd (x_Town_calmOf 23 x1 M3) (fun r4 => lt (upM M3 33 8 r4) (fun M_81 => bnd2 (x_Rules_value 32 2 M_81) (fun r5 M5 => (if w32 r5 = 0 then some (false, M5) else some (true, M5)))))) else chk (0 ≤ x1 ∧ x1 < 12) (bnd (x_Town_calmOf 23 x1 M_18) (fun r6 => (if w32 (M_18 (th + 6) x1.toNat) ≤ w32 r6 then some (false, M_18) else some (true, M_18))))))))))
def x_State_begin_L2 (th : Nat) (v1 : Int) (rec : Int → Mem → Option (Int × Mem)) (v2 : Int) (M : Mem) : Option (Int × Mem) :=
  (if w32 (M 23 2) ≤ w32 v2 then some (v2, M) else chk (0 ≤ v2 ∧ v2 < 12) ((if ¬ w32 (M (th + 4) v2.toNat) = 0 then lt (v2 + 1) (fun v2_42 => rec v2_42 M) else chk (0 ≤ v2 ∧ v2 < 12) ((if w32 (M th 13) < w32 (M (th + 5) v2.toNat) then lt (v2 + 1) (fun v2_42 => rec v2_42 M) else chk (0 ≤ v2 ∧ v2 < 12) (lt (upM M (th + 4) v2.toNat 1) (fun M_41 => lt (v2 + 1) (fun v2_42 => rec v2_42 M_41))))))))
def x_State_begin_L50 (th : Nat) (v1 : Int) (rec : Int → Mem → Option (Int × Mem)) (v2 : Int) (M : Mem) : Option (Int × Mem) :=
  (if w32 (M 23 2) ≤ w32 v2 then some (v2, M) else chk (0 ≤ v2 ∧ v2 < 12) ((if ¬ w32 (M (th + 4) v2.toNat) = w32 1 then lt (v2 + 1) (fun v2_77 => rec v2_77 M) else bnd (x_State_give th v2 v1 M) (fun M2 => lt (v2 + 1) (fun v2_77 => rec v2_77 M2)))))
def x_State_begin_L87 (th : Nat) (rec : Int → Int → Mem → Option (Int × Int × Mem)) (v2 : Int) (v3 : Int) (M : Mem) : Option (Int × Int × Mem) :=
  (if w32 (M 23 2) ≤ w32 v3 then some (v2, v3, M) else chk (0 ≤ v3 ∧ v3 < 12) ((if ¬ w32 (M (th + 4) v3.toNat) = w32 1 then lt (v3 + 1) (fun v3_125 => rec v2 v3_125 M) else bnd2 (x_State_isHushed th v3 M) (fun r4 M4 => (if r4 = true then bnd (x_State_conclude th v3 4 M4) (fun M5 => lt (v2 + 1) (fun v2_122 => lt (v3 + 1) (fun v3_125 => rec v2_122 v3_125 M5))) else lt (v3 + 1) (fun v3_125 => rec v2 v3_125 M4))))))
def x_State_begin (th : Nat) (x1 : Int) (M : Mem) : Option (Int × Mem) :=
  bnd (itr2 (x_State_begin_L2 th x1) FUEL 0 M) (fun q1 => match q1 with | (v2_1, M_1) => bnd (itr2 (x_State_begin_L50 th x1) FUEL 0 M_1) (fun q3 => match q3 with | (v2_3, M_3) => bnd (itr3 (x_State_begin_L87 th) FUEL 0 0 M_3) (fun q6 => match q6 with | (v2_6, v3_6, M_6) => some (v2_6, M_6))))
def x_State_finish_L4 (th : Nat) (rec : Int → Int → Mem → Option (Int × Int × Mem)) (v1 : Int) (v2 : Int) (M : Mem) : Option (Int × Int × Mem) :=
  (if w32 (M 23 2) ≤ w32 v2 then some (v1, v2, M) else chk (0 ≤ v2 ∧ v2 < 12) ((if ¬ w32 (M (th + 4) v2.toNat) = w32 2 then lt (v2 + 1) (fun v2_53 => rec v1 v2_53 M) else chk (0 ≤ v2 ∧ v2 < 12) (chk (0 ≤ v2 ∧ v2 < 12) (lt (upM M (th + 8) v2.toNat ((M (th + 8) v2.toNat) - 1)) (fun M_34 => chk (0 ≤ v2 ∧ v2 < 12) ((if 0 < w32 (M_34 (th + 8) v2.toNat) then lt (v2 + 1) (fun v2_53 => rec v1 v2_53 M_34) else bnd (x_State_conclude th v2 3 M_34) (fun M1 => lt (v1 + 1) (fun v1_50 => lt (v2 + 1) (fun v2_53 => rec v1_50 v2_53 M1)))))))))))
def x_State_finish (th : Nat) (M : Mem) : Option (Int × Mem) :=
  bnd (itr3 (x_State_finish_L4 th) FUEL 0 0 M) (fun q2 => match q2 with | (v1_2, v2_2, M_2) => bnd (j_Math_min_7cf53 999 ((M_2 th 13) + 1)) (fun r3 => lt (upM M_2 th 13 r3) (fun M_72 => some (v1_2, M_72))))
def x_State_pass_L4 (th : Nat) (v1 : Int) (rec : Int → Int → Mem → Option (Int × Int × Mem)) (v2 : Int) (v3 : Int) (M : Mem) : Option (Int × Int × Mem) :=
  (if w32 v1 ≤ w32 v3 then some (v2, v3, M) else bnd2 (x_State_begin th 127 M) (fun r1 M1 => bnd2 (x_State_finish th M1) (fun r2 M2 => lt ((v2 + r2)) (fun v2_22 => lt (v3 + 1) (fun v3_23 => rec v2_22 v3_23 M2)))))
def x_State_pass (th : Nat) (x1 : Int) (M : Mem) : Option (Int × Mem) :=
  bnd (itr3 (x_State_pass_L4 th x1) FUEL 0 0 M) (fun q3 => match q3 with | (v2_3, v3_3, M_3) => some (v2_3, M_3))
def x_X_later (x1 : Int) (x2 : Int) (x3 : Int) (M : Mem) : Option (Int × Mem) :=
  bnd (x_X_isSaying x1 M) (fun r1 => (if r1 = true then bnd (x_X_comes x2 0 60 M) (fun r2 => (if r2 = true then (if w32 x3 < 0 then some ((-1), M) else (if w32 x3 ≤ w32 2 then bnd (x_X_fresh M) (fun M3 => bnd2 (x_State_pass 51 x2 M3) (fun r4 M4 => (if ¬ w32 x3 = 0 then (if ¬ w32 x3 = w32 1 then chk (0 ≤ x1 ∧ x1 < 12) (some ((M4 60 x1.toNat), M4)) else chk (0 ≤ x1 ∧ x1 < 12) (some ((M4 58 x1.toNat), M4))) else chk (0 ≤ x1 ∧ x1 < 12) (some ((M4 55 x1.toNat), M4))))) else some ((-1), M))) else some ((-1), M))) else some ((-1), M)))
def x_X_ends_L35 (v1 : Int) (v3 : Int) (rec : Int → Mem → Option (Int × Mem)) (v4 : Int) (M : Mem) : Option (Int × Mem) :=
  (if w32 v3 ≤ w32 v4 then some (v4, M) else chk (0 ≤ v1 ∧ v1 < 12) ((if w32 3 ≤ w32 (M 55 v1.toNat) then some (v4, M) else bnd2 (x_State_pass 51 1 M) (fun r4 M4 => lt (v4 + 1) (fun v4_57 => rec v4_57 M4)))))
def x_X_ends (x1 : Int) (M : Mem) : Option (Int × Mem) :=
  bnd (x_X_isSaying x1 M) (fun r1 => (if r1 = true then bnd (x_X_fresh M) (fun M2 => bnd (j_Math_min_7cf53 60 (999 - (M2 38 13))) (fun r3 => bnd (itr2 (x_X_ends_L35 x1 r3) FUEL 0 M2) (fun q5 => match q5 with | (v4_5, M_5) => chk (0 ≤ x1 ∧ x1 < 12) ((if w32 3 ≤ w32 (M_5 55 x1.toNat) then some (((M_5 51 13) - (M_5 38 13)), M_5) else some ((-1), M_5)))))) else some ((-1), M)))
def x_X_busy (x1 : Int) (M : Mem) : Option (Int × Mem) :=
  bnd (x_X_comes x1 0 60 M) (fun r1 => (if r1 = true then bnd (x_X_fresh M) (fun M2 => bnd2 (x_State_pass 51 x1 M2) (fun r3 M3 => bnd (x_State_busyCount 51 M3) (fun r4 => some (r4, M3)))) else some ((-1), M)))
def x_Matching_fillSums_L15_B55 (rec : Int → Mem → Option (Int × Mem)) (v1 : Int) (v2 : Int) (s0 : Int) (M : Mem) : Option (Int × Mem) :=
  chk (0 ≤ v1 ∧ v1 < 12) ((if w32 s0 = 0 then chk (0 ≤ v2 ∧ v2 < 7) (lt (upM M (342 + v1.toNat) v2.toNat 0) (fun M_84 => lt (v2 + 1) (fun v2_85 => rec v2_85 M_84))) else bnd2 (x_State_sumOfPicks 38 v1 v2 M) (fun r1 M1 => bnd (j_Math_max_7cf53 0 r1) (fun r2 => chk (0 ≤ v2 ∧ v2 < 7) (lt (upM M1 (342 + v1.toNat) v2.toNat r2) (fun M_84 => lt (v2 + 1) (fun v2_85 => rec v2_85 M_84)))))))
def x_Matching_fillSums_L15_B54 (rec : Int → Mem → Option (Int × Mem)) (v1 : Int) (v2 : Int) (M : Mem) : Option (Int × Mem) :=
  x_Matching_fillSums_L15_B55 rec v1 v2 0 M
def x_Matching_fillSums_L15 (v1 : Int) (rec : Int → Mem → Option (Int × Mem)) (v2 : Int) (M : Mem) : Option (Int × Mem) :=
  (if w32 (M 23 0) ≤ w32 v2 then some (v2, M) else chk (0 ≤ v1 ∧ v1 < 12) ((if ¬ w32 (M 42 v1.toNat) = w32 1 then x_Matching_fillSums_L15_B54 rec v1 v2 M else bnd (x_State_isFree 38 v2 M) (fun r3 => (if r3 = true then x_Matching_fillSums_L15_B55 rec v1 v2 1 M else x_Matching_fillSums_L15_B54 rec v1 v2 M)))))
def x_Matching_fillSums_L2 (rec : Int → Mem → Option (Int × Mem)) (v1 : Int) (M : Mem) : Option (Int × Mem) :=
  (if w32 (M 23 2) ≤ w32 v1 then some (v1, M) else bnd (itr2 (x_Matching_fillSums_L15 v1) FUEL 0 M) (fun q4 => match q4 with | (v2_4, M_4) => lt (v1 + 1) (fun v1_91 => rec v1_91 M_4)))
def x_Matching_fillSums (M : Mem) : Option (Mem) :=
  bnd (itr2 (x_Matching_fillSums_L2) FUEL 0 M) (fun q5 => match q5 with | (v1_5, M_5) => some M_5)
def x_Matching_sumWith (x1 : Int) (x2 : Int) (x3 : Int) (M : Mem) : Option (Int) :=
  lt ((shl32 1 x2)) (fun v4_3 => (if ¬ w32 (and32 x3 v4_3) = 0 then some (-1) else chk (0 ≤ x1 ∧ x1 < 12) (chk (0 ≤ x2 ∧ x2 < 7) ((if 0 < w32 (M (342 + x1.toNat) x2.toNat) then chk (0 ≤ x1 ∧ x1 < 12) (chk (0 ≤ x2 ∧ x2 < 7) (chk (0 ≤ (x1 + 1) ∧ (x1 + 1) < 13) (chk (0 ≤ (or32 x3 v4_3) ∧ (or32 x3 v4_3) < 128) (some ((M (342 + x1.toNat) x2.toNat) + (M (328 + (x1 + 1).toNat) (or32 x3 v4_3).toNat)))))) else some (-1))))))
def x_Matching_fillBest_L56 (v1 : Int) (v2 : Int) (M : Mem) (rec : Int → Int → Option (Int × Int)) (v3 : Int) (v4 : Int) : Option (Int × Int) :=
  (if w32 (M 23 0) ≤ w32 v4 then some (v3, v4) else bnd (x_Matching_sumWith v1 v4 v2 M) (fun r3 => bnd (j_Math_max_7cf53 v3 r3) (fun r4 => lt (v4 + 1) (fun v4_81 => rec r4 v4_81))))
def x_Matching_fillBest_L36 (v1 : Int) (rec : Int → Mem → Option (Int × Mem)) (v2 : Int) (M : Mem) : Option (Int × Mem) :=
  (if w32 127 < w32 v2 then some (v2, M) else chk (0 ≤ (v1 + 1) ∧ (v1 + 1) < 13) (chk (0 ≤ v2 ∧ v2 < 128) (lt ((M (328 + (v1 + 1).toNat) v2.toNat)) (fun v3_52 => bnd (itr2 (x_Matching_fillBest_L56 v1 v2 M) FUEL v3_52 0) (fun q5 => match q5 with | (v3_5, v4_5) => chk (0 ≤ v1 ∧ v1 < 13) (chk (0 ≤ v2 ∧ v2 < 128) (lt (upM M (328 + v1.toNat) v2.toNat v3_5) (fun M_95 => lt (v2 + 1) (fun v2_96 => rec v2_96 M_95)))))))))
def x_Matching_fillBest_L30 (rec : Int → Mem → Option (Int × Mem)) (v1 : Int) (M : Mem) : Option (Int × Mem) :=
  (if w32 v1 < 0 then some (v1, M) else bnd (itr2 (x_Matching_fillBest_L36 v1) FUEL 0 M) (fun q6 => match q6 with | (v2_6, M_6) => lt (v1 + (-1)) (fun v1_102 => rec v1_102 M_6)))
def x_Matching_fillBest (M : Mem) : Option (Mem) :=
  bnd (x_Matching_fillSums M) (fun M1 => chk (0 ≤ (M1 23 2) ∧ (M1 23 2) < 13) (bnd (j_Arrays_fill_53178 (328 + (M1 23 2).toNat) 128 0 M1) (fun M2 => lt (((M2 23 2) - 1)) (fun v1_29 => bnd (itr2 (x_Matching_fillBest_L30) FUEL v1_29 M2) (fun q7 => match q7 with | (v1_7, M_7) => some M_7)))))
def x_Matching_bestSum (M : Mem) : Option (Int × Mem) :=
  bnd (x_Matching_fillBest M) (fun M1 => some ((M1 (328 + 0) 0), M1))
def x_Matching_firstBest_L25 (v1 : Int) (v2 : Int) (M : Mem) (rec : Int → Option ((Int) ⊕ (Int))) (v3 : Int) : Option ((Int) ⊕ (Int)) :=
  (if w32 (M 23 0) ≤ w32 v3 then some (.inr v3) else bnd (x_Matching_sumWith v1 v3 v2 M) (fun r1 => chk (0 ≤ v1 ∧ v1 < 13) (chk (0 ≤ v2 ∧ v2 < 128) ((if ¬ w32 r1 = w32 (M (328 + v1.toNat) v2.toNat) then lt (v3 + 1) (fun v3_56 => rec v3_56) else some (.inl v3))))))
def x_Matching_firstBest (x1 : Int) (x2 : Int) (M : Mem) : Option (Int) :=
  chk (0 ≤ (x1 + 1) ∧ (x1 + 1) < 13) (chk (0 ≤ x2 ∧ x2 < 128) (chk (0 ≤ x1 ∧ x1 < 13) (chk (0 ≤ x2 ∧ x2 < 128) ((if ¬ w32 (M (328 + (x1 + 1).toNat) x2.toNat) = w32 (M (328 + x1.toNat) x2.toNat) then bnd (itr1 (x_Matching_firstBest_L25 x1 x2 M) FUEL 0) (fun q2 => match q2 with | .inl r => some r | .inr v3_2 => some (-1)) else some (-1))))))
def x_Matching_voiceFor_L11 (v1 : Int) (M : Mem) (rec : Int → Int → Int → Option (Int × Int × Int)) (v2 : Int) (v3 : Int) (v4 : Int) : Option (Int × Int × Int) :=
  (if w32 v1 < w32 v4 then some (v2, v3, v4) else (if w32 12 ≤ w32 v4 then some (v2, v3, v4) else bnd (x_Matching_firstBest v4 v2 M) (fun r2 => (if w32 r2 = w32 (-1) then lt (v4 + 1) (fun v4_43 => rec v2 r2 v4_43) else lt ((or32 v2 (shl32 1 r2))) (fun v2_42 => lt (v4 + 1) (fun v4_43 => rec v2_42 r2 v4_43))))))
def x_Matching_voiceFor (x1 : Int) (M : Mem) : Option (Int × Mem) :=
  bnd (x_Matching_fillBest M) (fun M1 => bnd (itr3 (x_Matching_voiceFor_L11 x1 M1) FUEL 0 (-1) 0) (fun q3 => match q3 with | (v2_3, v3_3, v4_3) => some (v3_3, M1)))
def x_X_match (x1 : Int) (M : Mem) : Option (Int × Mem) :=
  (if ¬ w32 x1 = w32 (-1) then bnd (x_X_isSaying x1 M) (fun r1 => (if r1 = true then bnd2 (x_Matching_voiceFor x1 M) (fun r2 M2 => some (r2, M2)) else some ((-1), M))) else bnd2 (x_Matching_bestSum M) (fun r3 M3 => some (r3, M3)))
def x_X_isEnough_L2 (v1 : Int) (v2 : Int) (M : Mem) (rec : Int → Option ((Bool × Mem) ⊕ (Int))) (v3 : Int) : Option ((Bool × Mem) ⊕ (Int)) :=
  (if w32 (M 23 0) ≤ w32 v3 then some (.inr v3) else (if w32 (and32 (shr32 v1 v3) 1) = 0 then lt (v3 + 1) (fun v3_35 => rec v3_35) else chk (0 ≤ v3 ∧ v3 < 7) ((if w32 (M 40 v3.toNat) = 0 then lt (v3 + 1) (fun v3_35 => rec v3_35) else some (.inl (false, M))))))
def x_X_isEnough_L49 (v1 : Int) (v2 : Int) (rec : Int → Mem → Option ((Bool × Mem) ⊕ (Int × Mem))) (v4 : Int) (M : Mem) : Option ((Bool × Mem) ⊕ (Int × Mem)) :=
  (if w32 v2 ≤ w32 v4 then some (.inr (v4, M)) else bnd2 (x_State_begin 51 v1 M) (fun r3 M3 => (if w32 r3 ≤ 0 then bnd2 (x_State_finish 51 M3) (fun r4 M4 => lt (v4 + 1) (fun v4_70 => rec v4_70 M4)) else some (.inl (false, M3)))))
def x_X_isEnough (x1 : Int) (x2 : Int) (M : Mem) : Option (Bool × Mem) :=
  bnd (itr1 (x_X_isEnough_L2 x1 x2 M) FUEL 0) (fun q1 => match q1 with | .inl r => some r | .inr v3_1 => bnd (x_X_fresh M) (fun M2 => bnd (itr2 (x_X_isEnough_L49 x1 x2) FUEL 0 M2) (fun q5 => match q5 with | .inl r => some r | .inr (v4_5, M_5) => some (true, M_5))))
def j_Integer_bitCount_0f7a4 (x0 : Int) : Option (Int) :=
  lt ((x0 - (and32 (ushr32 x0 1) 1431655765))) (fun v0_9 => lt (((and32 v0_9 858993459) + (and32 (ushr32 v0_9 2) 858993459))) (fun v0_23 => lt ((and32 (v0_23 + (ushr32 v0_23 4)) 252645135)) (fun v0_33 => lt ((v0_33 + (ushr32 v0_33 8))) (fun v0_40 => lt ((v0_40 + (ushr32 v0_40 16))) (fun v0_47 => some (and32 v0_47 63))))))
def x_X_choir_L28 (v1 : Int) (v2 : Int) (rec : Int → Mem → Option ((Int × Mem) ⊕ (Int × Mem))) (v3 : Int) (M : Mem) : Option ((Int × Mem) ⊕ (Int × Mem)) :=
  (if w32 (shl32 1 (M 23 0)) ≤ w32 v3 then some (.inr (v3, M)) else bnd (j_Integer_bitCount_0f7a4 v3) (fun r2 => (if ¬ w32 r2 = w32 v2 then lt (v3 + 1) (fun v3_60 => rec v3_60 M) else bnd2 (x_X_isEnough v3 v1 M) (fun r3 M3 => (if r3 = true then some (.inl (v3, M3)) else lt (v3 + 1) (fun v3_60 => rec v3_60 M3))))))
def x_X_choir_L15 (v1 : Int) (rec : Int → Mem → Option ((Int × Mem) ⊕ (Int × Mem))) (v2 : Int) (M : Mem) : Option ((Int × Mem) ⊕ (Int × Mem)) :=
  (if w32 (M 23 0) < w32 v2 then some (.inr (v2, M)) else bnd (itr2 (x_X_choir_L28 v1 v2) FUEL 0 M) (fun q4 => match q4 with | .inl r => some (.inl r) | .inr (v3_4, M_4) => lt (v2 + 1) (fun v2_66 => rec v2_66 M_4)))
def x_X_choir (x1 : Int) (M : Mem) : Option (Int × Mem) :=
  bnd (x_X_comes x1 1 30 M) (fun r1 => (if r1 = true then bnd (itr2 (x_X_choir_L15 x1) FUEL 0 M) (fun q5 => match q5 with | .inl r => some r | .inr (v2_5, M_5) => some ((-1), M_5)) else some ((-1), M)))
def x_State_breakVoice (th : Nat) (x1 : Int) (M : Mem) : Option (Mem) :=
  bnd (x_State_sayingBy th x1 M) (fun r1 => chk (0 ≤ x1 ∧ x1 < 7) (lt (upM M (th + 2) x1.toNat 1) (fun M_12 => (if w32 r1 = w32 (-1) then some M_12 else bnd (x_State_conclude th r1 5 M_12) (fun M2 => some M2)))))
def x_X_worst_L30 (v1 : Int) (v2 : Int) (rec : Int → Int → Int → Mem → Option (Int × Int × Int × Mem)) (v3 : Int) (v4 : Int) (v5 : Int) (M : Mem) : Option (Int × Int × Int × Mem) :=
  (if w32 (M 23 0) ≤ w32 v5 then some (v3, v4, v5, M) else chk (0 ≤ v5 ∧ v5 < 7) ((if ¬ w32 (M 40 v5.toNat) = 0 then lt (v5 + 1) (fun v5_104 => rec v3 v4 v5_104 M) else bnd (x_X_fresh M) (fun M2 => bnd (x_State_breakVoice 51 v5 M2) (fun M3 => bnd2 (x_State_pass 51 v1 M3) (fun r4 M4 => bnd (x_State_countOf 51 4 M4) (fun r5 => bnd (x_State_countOf 51 5 M4) (fun r6 => lt ((r5 + r6)) (fun v7_88 => (if w32 v7_88 ≤ w32 v4 then lt (v5 + 1) (fun v5_104 => rec v3 v4 v5_104 M4) else lt (v5 + 1) (fun v5_104 => rec v5 v7_88 v5_104 M4)))))))))))
def x_X_worst (x1 : Int) (x2 : Int) (M : Mem) : Option (Int × Mem) :=
  bnd (x_X_comes x1 1 30 M) (fun r1 => (if r1 = true then (if w32 x2 < 0 then some ((-1), M) else (if w32 x2 ≤ w32 1 then bnd (itr4 (x_X_worst_L30 x1 x2) FUEL (-1) (-1) 0 M) (fun q7 => match q7 with | (v3_7, v4_7, v5_7, M_7) => (if ¬ w32 x2 = 0 then some (v4_7, M_7) else some (v3_7, M_7))) else some ((-1), M))) else some ((-1), M)))
def x_X_tune_L39 (v1 : Int) (v2 : Int) (v3 : Int) (rec : Int → Int → Int → Mem → Option (Int × Int × Int × Mem)) (v4 : Int) (v5 : Int) (v6 : Int) (M : Mem) : Option (Int × Int × Int × Mem) :=
  (if w32 10 ≤ w32 v6 then some (v4, v5, v6, M) else bnd (x_X_fresh M) (fun M3 => chk (0 ≤ v1 ∧ v1 < 7) (lt (upM M3 52 v1.toNat v6) (fun M_60 => bnd2 (x_State_pass 51 v2 M_60) (fun r4 M4 => bnd (x_State_countOf 51 3 M4) (fun r5 => (if w32 r5 ≤ w32 v5 then lt (v6 + 1) (fun v6_91 => rec v4 v5 v6_91 M4) else lt (v6 + 1) (fun v6_91 => rec v6 r5 v6_91 M4))))))))
def x_X_tune (x1 : Int) (x2 : Int) (x3 : Int) (M : Mem) : Option (Int × Mem) :=
  bnd (x_X_isVoice x1 M) (fun r1 => (if r1 = true then bnd (x_X_comes x2 1 30 M) (fun r2 => (if r2 = true then (if w32 x3 < 0 then some ((-1), M) else (if w32 x3 ≤ w32 1 then bnd (itr4 (x_X_tune_L39 x1 x2 x3) FUEL (-1) (-1) 0 M) (fun q6 => match q6 with | (v4_6, v5_6, v6_6, M_6) => (if ¬ w32 x3 = 0 then some (v5_6, M_6) else some (v4_6, M_6))) else some ((-1), M))) else some ((-1), M))) else some ((-1), M)))
def x_Matching_needing_L25 (v1 : Int) (v2 : Int) (v3 : Int) (M : Mem) (rec : Int → Int → Option (Int × Int)) (v4 : Int) (v5 : Int) : Option (Int × Int) :=
  (if w32 (M 23 0) ≤ w32 v5 then some (v4, v5) else chk (0 ≤ v3 ∧ v3 < 12) (chk (0 ≤ v5 ∧ v5 < 7) ((if w32 (M (342 + v3.toNat) v5.toNat) ≤ 0 then lt (v5 + 1) (fun v5_52 => rec v4 v5_52) else lt (v4 + 1) (fun v4_49 => lt (v5 + 1) (fun v5_52 => rec v4_49 v5_52))))))
def x_Matching_needing_L8 (v1 : Int) (M : Mem) (rec : Int → Int → Option (Int × Int)) (v2 : Int) (v3 : Int) : Option (Int × Int) :=
  (if w32 (M 23 2) ≤ w32 v3 then some (v2, v3) else bnd (itr2 (x_Matching_needing_L25 v1 v2 v3 M) FUEL 0 0) (fun q2 => match q2 with | (v4_2, v5_2) => (if ¬ w32 v4_2 = w32 1 then lt (v3 + 1) (fun v3_78 => rec v2 v3_78) else chk (0 ≤ v3 ∧ v3 < 12) (chk (0 ≤ v1 ∧ v1 < 7) ((if w32 (M (342 + v3.toNat) v1.toNat) ≤ 0 then lt (v3 + 1) (fun v3_78 => rec v2 v3_78) else lt (v2 + 1) (fun v2_75 => lt (v3 + 1) (fun v3_78 => rec v2_75 v3_78))))))))
def x_Matching_needing (x1 : Int) (M : Mem) : Option (Int × Mem) :=
  bnd (x_Matching_fillSums M) (fun M1 => bnd (itr2 (x_Matching_needing_L8 x1 M1) FUEL 0 0) (fun q3 => match q3 with | (v2_3, v3_3) => some (v2_3, M1)))
def x_X_needed (x1 : Int) (M : Mem) : Option (Int × Mem) :=
  bnd (x_X_isVoice x1 M) (fun r1 => (if r1 = true then bnd2 (x_Matching_needing x1 M) (fun r2 M2 => some (r2, M2)) else some ((-1), M)))
def x_X_odds_B15 (v1 : Int) (M : Mem) : Option (Int) :=
  (if w32 (M 23 0) = 0 then some (-1) else bnd (x_X_comes 1 1 1 M) (fun r1 => (if r1 = true then lt ((100 * (M 23 0))) (fun v2_47 => (if ¬ w32 v1 = w32 (-1) then chk (0 ≤ v1 ∧ v1 < 12) ((if ¬ w32 (M 42 v1.toNat) = w32 5 then chk (0 ≤ v1 ∧ v1 < 12) ((if ¬ w32 (M 42 v1.toNat) = w32 2 then some 0 else some (M 23 3))) else some v2_47)) else some v2_47)) else some (-1))))
def x_X_odds (x1 : Int) (M : Mem) : Option (Int) :=
  (if w32 x1 = w32 (-1) then x_X_odds_B15 x1 M else bnd (x_X_isSaying x1 M) (fun r2 => (if r2 = true then x_X_odds_B15 x1 M else some (-1))))
def x_Heard_isRow_B45 (a1 : Nat) (La1 : Nat) (v2 : Int) (s0 : Int) (M : Mem) : Option (Bool) :=
  chk (0 ≤ v2 ∧ v2 < La1) ((if w32 31 ≤ w32 (M a1 v2.toNat) then some false else chk (0 ≤ (v2 + 1) ∧ (v2 + 1) < La1) ((if w32 (M 23 2) ≤ w32 (M a1 (v2 + 1).toNat) then some false else (if w32 s0 = 0 then some false else some true)))))
def x_Heard_isRow_B40 (a1 : Nat) (La1 : Nat) (v2 : Int) (M : Mem) : Option (Bool) :=
  x_Heard_isRow_B45 a1 La1 v2 1 M
def x_Heard_isRow (a1 : Nat) (La1 : Nat) (x2 : Int) (M : Mem) : Option (Bool) :=
  (if w32 x2 < 0 then some false else (if w32 (x2 + 2) < w32 (La1 : Int) then chk (0 ≤ (x2 + 2) ∧ (x2 + 2) < La1) ((if w32 (M a1 (x2 + 2).toNat) < w32 (M 23 0) then x_Heard_isRow_B40 a1 La1 x2 M else chk (0 ≤ (x2 + 2) ∧ (x2 + 2) < La1) ((if ¬ w32 (M a1 (x2 + 2).toNat) = w32 255 then x_Heard_isRow_B45 a1 La1 x2 0 M else x_Heard_isRow_B40 a1 La1 x2 M)))) else some false))
def x_Heard_take_L32 (v2 : Int) (M : Mem) (rec : Int → Option ((Int × Mem) ⊕ (Int))) (v3 : Int) : Option ((Int × Mem) ⊕ (Int)) :=
  (if w32 v2 ≤ w32 v3 then some (.inr v3) else bnd (x_Heard_isRow 2 1600 (3 * v3) M) (fun r1 => (if r1 = true then lt (v3 + 1) (fun v3_53 => rec v3_53) else some (.inl ((-1), M)))))
def x_Heard_take_L61 (v2 : Int) (rec : Int → Mem → Option (Int × Mem)) (v3 : Int) (M : Mem) : Option (Int × Mem) :=
  (if w32 v2 ≤ w32 v3 then some (v3, M) else chk (0 ≤ (3 * v3) ∧ (3 * v3) < 1600) (chk (0 ≤ v3 ∧ v3 < 16) (lt (upM M 355 v3.toNat (M 2 (3 * v3).toNat)) (fun M_79 => chk (0 ≤ ((3 * v3) + 1) ∧ ((3 * v3) + 1) < 1600) (chk (0 ≤ v3 ∧ v3 < 16) (lt (upM M_79 356 v3.toNat (M_79 2 ((3 * v3) + 1).toNat)) (fun M_95 => chk (0 ≤ ((3 * v3) + 2) ∧ ((3 * v3) + 2) < 1600) (lt ((M_95 2 ((3 * v3) + 2).toNat)) (fun v4_106 => (if ¬ w32 v4_106 = w32 255 then chk (0 ≤ v3 ∧ v3 < 16) (lt (upM M_95 357 v3.toNat v4_106) (fun M_128 => lt (v3 + 1) (fun v3_129 => rec v3_129 M_128))) else chk (0 ≤ v3 ∧ v3 < 16) (lt (upM M_95 357 v3.toNat 7) (fun M_128 => lt (v3 + 1) (fun v3_129 => rec v3_129 M_128)))))))))))))
def x_Heard_take (M : Mem) : Option (Int × Mem) :=
  chk (w32 3 ≠ 0) (lt (((w32 (M 1 1)).tdiv (w32 3))) (fun v2_6 => (if ¬ w32 (v2_6 * 3) = w32 (M 1 1) then some ((-1), M) else (if w32 v2_6 < w32 1 then some ((-1), M) else (if w32 v2_6 ≤ w32 16 then bnd (itr1 (x_Heard_take_L32 v2_6 M) FUEL 0) (fun q2 => match q2 with | .inl r => some r | .inr v3_2 => bnd (itr2 (x_Heard_take_L61 v2_6) FUEL 0 M) (fun q3 => match q3 with | (v3_3, M_3) => lt (upM M_3 354 0 v2_6) (fun M_137 => some (v2_6, M_137)))) else some ((-1), M))))))
def x_X_hear (M : Mem) : Option (Int × Mem) :=
  bnd2 (x_Heard_take M) (fun r1 M1 => lt (upM M1 1 1 0) (fun M_17 => (if ¬ w32 r1 = w32 (-1) then some (r1, M_17) else bnd2 (x_X_none 5 M_17) (fun r2 M2 => some (r2, M2)))))
def x_Heard_fits_L2 (v1 : Int) (v2 : Int) (M : Mem) (rec : Int → Option ((Bool) ⊕ (Int))) (v3 : Int) : Option ((Bool) ⊕ (Int)) :=
  (if w32 (M 354 0) ≤ w32 v3 then some (.inr v3) else (if w32 16 ≤ w32 v3 then some (.inr v3) else chk (0 ≤ v3 ∧ v3 < 16) ((if w32 (M 355 v3.toNat) < w32 v2 then chk (0 ≤ v1 ∧ v1 < 10) (chk (0 ≤ v3 ∧ v3 < 16) (chk (0 ≤ v3 ∧ v3 < 16) (chk (0 ≤ (((M 355 v3.toNat) * 12) + (M 356 v3.toNat)) ∧ (((M 355 v3.toNat) * 12) + (M 356 v3.toNat)) < 372) (chk (0 ≤ v3 ∧ v3 < 16) ((if w32 (M (359 + v1.toNat) (((M 355 v3.toNat) * 12) + (M 356 v3.toNat)).toNat) = w32 (M 357 v3.toNat) then lt (v3 + 1) (fun v3_62 => rec v3_62) else some (.inl false))))))) else some (.inl false)))))
def x_Heard_fits (x1 : Int) (x2 : Int) (M : Mem) : Option (Bool) :=
  bnd (itr1 (x_Heard_fits_L2 x1 x2 M) FUEL 0) (fun q1 => match q1 with | .inl r => some r | .inr v3_1 => some true)
def x_Heard_minutesComing (M : Mem) : Option (Int) :=
  bnd (j_Math_min_7cf53 31 (999 - (M 38 13))) (fun r1 => some r1)
def x_Heard_watch_L61_B92 (rec : Int → Mem → Option (Int × Mem)) (v1 : Int) (v2 : Int) (v3 : Int) (v4 : Int) (v5 : Int) (v6 : Int) (s0 : Int) (M : Mem) : Option (Int × Mem) :=
  chk (0 ≤ v4 ∧ v4 < 10) ((if w32 s0 = 0 then chk (0 ≤ ((v5 * 12) + v6) ∧ ((v5 * 12) + v6) < 372) (lt (upM M (359 + v4.toNat) ((v5 * 12) + v6).toNat 7) (fun M_129 => lt (v6 + 1) (fun v6_130 => rec v6_130 M_129))) else chk (0 ≤ v6 ∧ v6 < 12) (chk (0 ≤ ((v5 * 12) + v6) ∧ ((v5 * 12) + v6) < 372) (lt (upM M (359 + v4.toNat) ((v5 * 12) + v6).toNat (M 58 v6.toNat)) (fun M_129 => lt (v6 + 1) (fun v6_130 => rec v6_130 M_129))))))
def x_Heard_watch_L61 (v1 : Int) (v2 : Int) (v3 : Int) (v4 : Int) (v5 : Int) (rec : Int → Mem → Option (Int × Mem)) (v6 : Int) (M : Mem) : Option (Int × Mem) :=
  (if w32 (M 23 2) ≤ w32 v6 then some (v6, M) else chk (0 ≤ v6 ∧ v6 < 12) ((if ¬ w32 (M 55 v6.toNat) = w32 2 then x_Heard_watch_L61_B92 rec v1 v2 v3 v4 v5 v6 0 M else x_Heard_watch_L61_B92 rec v1 v2 v3 v4 v5 v6 1 M)))
def x_Heard_watch_L42 (v1 : Int) (v2 : Int) (v3 : Int) (v4 : Int) (rec : Int → Mem → Option (Int × Mem)) (v5 : Int) (M : Mem) : Option (Int × Mem) :=
  (if w32 v2 ≤ w32 v5 then some (v5, M) else bnd2 (x_State_begin 51 127 M) (fun r3 M3 => bnd (itr2 (x_Heard_watch_L61 v1 v2 v3 v4 v5) FUEL 0 M3) (fun q4 => match q4 with | (v6_4, M_4) => bnd2 (x_State_finish 51 M_4) (fun r5 M5 => lt (v5 + 1) (fun v5_144 => rec v5_144 M5)))))
def x_Heard_watch_L10 (v1 : Int) (v2 : Int) (rec : Int → Int → Mem → Option (Int × Int × Mem)) (v3 : Int) (v4 : Int) (M : Mem) : Option (Int × Int × Mem) :=
  (if w32 10 ≤ w32 v4 then some (v3, v4, M) else bnd (x_State_copyFrom 51 38 M) (fun M2 => chk (0 ≤ v1 ∧ v1 < 7) (lt (upM M2 52 v1.toNat v4) (fun M_38 => bnd (itr2 (x_Heard_watch_L42 v1 v2 v3 v4) FUEL 0 M_38) (fun q6 => match q6 with | (v5_6, M_6) => bnd (x_Heard_fits v4 v2 M_6) (fun r7 => (if r7 = true then lt ((or32 v3 (shl32 1 v4))) (fun v3_166 => lt (v4 + 1) (fun v4_167 => rec v3_166 v4_167 M_6)) else lt (v4 + 1) (fun v4_167 => rec v3 v4_167 M_6))))))))
def x_Heard_watch (x1 : Int) (M : Mem) : Option (Int × Mem) :=
  bnd (x_Heard_minutesComing M) (fun r1 => bnd (itr3 (x_Heard_watch_L10 x1 r1) FUEL 0 0 M) (fun q8 => match q8 with | (v3_8, v4_8, M_8) => some (v3_8, M_8)))
def x_X_pitches (x1 : Int) (M : Mem) : Option (Int × Mem) :=
  bnd (x_X_isVoice x1 M) (fun r1 => (if r1 = true then bnd2 (x_Heard_watch x1 M) (fun r2 M2 => some (r2, M2)) else some ((-1), M)))
def x_Heard_mostAlike_L13 (v1 : Int) (v2 : Int) (rec : Int → Int → Mem → Option (Int × Int × Mem)) (v3 : Int) (v4 : Int) (M : Mem) : Option (Int × Int × Mem) :=
  (if w32 10 ≤ w32 v4 then some (v3, v4, M) else chk (0 ≤ v4 ∧ v4 < 10) (chk (0 ≤ v2 ∧ v2 < 372) (lt ((M (359 + v4.toNat) v2.toNat)) (fun v5_29 => (if w32 (and32 (shr32 v1 v4) 1) = 0 then lt (v4 + 1) (fun v4_78 => rec v3 v4_78 M) else (if w32 v5_29 < 0 then lt (v4 + 1) (fun v4_78 => rec v3 v4_78 M) else (if w32 8 ≤ w32 v5_29 then lt (v4 + 1) (fun v4_78 => rec v3 v4_78 M) else chk (0 ≤ v5_29 ∧ v5_29 < 8) (chk (0 ≤ v5_29 ∧ v5_29 < 8) (lt (upM M 369 v5_29.toNat ((M 369 v5_29.toNat) + 1)) (fun M_65 => chk (0 ≤ v5_29 ∧ v5_29 < 8) (bnd (j_Math_max_7cf53 v3 (M_65 369 v5_29.toNat)) (fun r2 => lt (v4 + 1) (fun v4_78 => rec r2 v4_78 M_65)))))))))))))
def x_Heard_mostAlike (x1 : Int) (x2 : Int) (M : Mem) : Option (Int × Mem) :=
  bnd (j_Arrays_fill_53178 369 8 0 M) (fun M1 => bnd (itr3 (x_Heard_mostAlike_L13 x1 x2) FUEL 0 0 M1) (fun q3 => match q3 with | (v3_3, v4_3, M_3) => some (v3_3, M_3)))
def x_Heard_telling_L32_B72 (rec : Int → Int → Int → Int → Mem → Option (Int × Int × Int × Int × Mem)) (v1 : Int) (v2 : Int) (v3 : Int) (v7 : Int) (v8 : Int) (v9 : Int) (M : Mem) : Option (Int × Int × Int × Int × Mem) :=
  lt (v8 + 1) (fun v8_84 => rec v7 v8 v9 v8_84 M)
def x_Heard_telling_L32 (v1 : Int) (v2 : Int) (v3 : Int) (v7 : Int) (rec : Int → Int → Int → Int → Mem → Option (Int × Int × Int × Int × Mem)) (v4 : Int) (v5 : Int) (v6 : Int) (v8 : Int) (M : Mem) : Option (Int × Int × Int × Int × Mem) :=
  (if w32 (M 23 2) ≤ w32 v8 then some (v4, v5, v6, v8, M) else bnd2 (x_Heard_mostAlike v1 ((v7 * 12) + v8) M) (fun r2 M2 => (if w32 v6 = w32 (-1) then x_Heard_telling_L32_B72 rec v1 v2 v3 v7 v8 r2 M2 else (if w32 v6 ≤ w32 r2 then lt (v8 + 1) (fun v8_84 => rec v4 v5 v6 v8_84 M2) else x_Heard_telling_L32_B72 rec v1 v2 v3 v7 v8 r2 M2))))
def x_Heard_telling_L23 (v1 : Int) (v2 : Int) (v3 : Int) (rec : Int → Int → Int → Int → Mem → Option (Int × Int × Int × Int × Mem)) (v4 : Int) (v5 : Int) (v6 : Int) (v7 : Int) (M : Mem) : Option (Int × Int × Int × Int × Mem) :=
  (if w32 v3 ≤ w32 v7 then some (v4, v5, v6, v7, M) else bnd (itr5 (x_Heard_telling_L32 v1 v2 v3 v7) FUEL v4 v5 v6 0 M) (fun q3 => match q3 with | (v4_3, v5_3, v6_3, v8_3, M_3) => lt (v7 + 1) (fun v7_90 => rec v4_3 v5_3 v6_3 v7_90 M_3)))
def x_Heard_telling (x1 : Int) (x2 : Int) (M : Mem) : Option (Int × Mem) :=
  (if ¬ w32 x1 = 0 then bnd (x_Heard_minutesComing M) (fun r1 => bnd (itr5 (x_Heard_telling_L23 x1 x2 r1) FUEL (-1) (-1) (-1) 0 M) (fun q4 => match q4 with | (v4_4, v5_4, v6_4, v7_4, M_4) => (if ¬ w32 x2 = 0 then (if ¬ w32 x2 = w32 1 then some (v6_4, M_4) else some (v5_4, M_4)) else some (v4_4, M_4)))) else some ((-1), M))
def x_X_tells (x1 : Int) (x2 : Int) (M : Mem) : Option (Int × Mem) :=
  bnd (x_X_isVoice x1 M) (fun r1 => (if r1 = true then (if w32 x2 < 0 then some ((-1), M) else (if w32 x2 ≤ w32 2 then bnd2 (x_Heard_watch x1 M) (fun r2 M2 => bnd2 (x_Heard_telling r2 x2 M2) (fun r3 M3 => some (r3, M3))) else some ((-1), M))) else some ((-1), M)))
def x_Past_keep_B64 (o1 : Nat) (s1 : Int) (M : Mem) : Option (Mem) :=
  lt (upM M 64 2 s1) (fun M_64 => bnd (j_Math_min_7cf53 20 ((M_64 64 0) + 1)) (fun r2 => lt (upM M_64 64 0 r2) (fun M_79 => some M_79)))
def x_Past_keep (o1 : Nat) (M : Mem) : Option (Mem) :=
  (if w32 (M 64 2) < 0 then some M else (if w32 20 ≤ w32 (M 64 2) then some M else chk (0 ≤ (M 64 2) ∧ (M 64 2) < 20) (chk (0 ≤ (M 64 2) ∧ (M 64 2) < 20) (bnd (x_State_copyFrom (66 + 13 * (M 64 2).toNat) o1 M) (fun M1 => (if w32 20 ≤ w32 ((M1 64 2) + 1) then x_Past_keep_B64 o1 0 M1 else x_Past_keep_B64 o1 ((M1 64 2) + 1) M1))))))
def x_X_minutes (x1 : Int) (M : Mem) : Option (Int × Mem) :=
  bnd (x_X_comes x1 1 60 M) (fun r1 => (if r1 = true then bnd (x_Past_keep 38 M) (fun M2 => bnd2 (x_State_pass 38 x1 M2) (fun r3 M3 => some (r3, M3))) else bnd2 (x_X_none 2 M) (fun r4 M4 => some (r4, M4))))
def x_X_draw (x1 : Int) (M : Mem) : Option (Int × Mem) :=
  lt (upM M 0 10 (and64 ((1103515245 * (w32 (M 0 10))) + 12345) 2147483647)) (fun M_19 => (if w32 x1 ≤ 0 then some (0, M_19) else chk (w32 x1 ≠ 0) (some (((w32 (shr32 (M_19 0 10) 6)).tmod (w32 x1)), M_19))))
def x_X_strokeByDraw (M : Mem) : Option (Int × Mem) :=
  bnd2 (x_X_draw 100 M) (fun r1 M1 => (if w32 (M1 23 3) ≤ w32 r1 then some (0, M1) else (if ¬ w32 (M1 23 0) = 0 then bnd2 (x_X_draw (M1 23 0) M1) (fun r2 M2 => bnd (x_X_isVoice r2 M2) (fun r3 => (if r3 = true then chk (0 ≤ r2 ∧ r2 < 7) ((if w32 (M2 40 r2.toNat) = 0 then bnd (x_State_breakVoice 38 r2 M2) (fun M4 => some (1, M4)) else some (0, M2))) else some (0, M2)))) else some (0, M1))))
def x_X_chance_L32 (v1 : Int) (rec : Int → Int → Mem → Option (Int × Int × Mem)) (v2 : Int) (v3 : Int) (M : Mem) : Option (Int × Int × Mem) :=
  (if w32 v1 ≤ w32 v3 then some (v2, v3, M) else bnd2 (x_X_strokeByDraw M) (fun r3 M3 => lt ((v2 + r3)) (fun v2_43 => bnd2 (x_State_pass 38 1 M3) (fun r4 M4 => lt (v3 + 1) (fun v3_53 => rec v2_43 v3_53 M4)))))
def x_X_chance (x1 : Int) (M : Mem) : Option (Int × Mem) :=
  bnd (x_X_comes x1 1 60 M) (fun r1 => (if r1 = true then bnd (x_Past_keep 38 M) (fun M2 => bnd (itr3 (x_X_chance_L32 x1) FUEL 0 0 M2) (fun q5 => match q5 with | (v2_5, v3_5, M_5) => some (v2_5, M_5))) else bnd2 (x_X_none 2 M) (fun r6 M6 => some (r6, M6))))
def x_X_strike (x1 : Int) (M : Mem) : Option (Bool × Mem) :=
  bnd (x_X_isVoice x1 M) (fun r1 => (if r1 = true then chk (0 ≤ x1 ∧ x1 < 7) ((if w32 (M 40 x1.toNat) = 0 then bnd (x_Past_keep 38 M) (fun M3 => bnd (x_State_breakVoice 38 x1 M3) (fun M4 => some (true, M4))) else bnd2 (x_X_no 3 M) (fun r5 M5 => some (r5, M5)))) else bnd2 (x_X_no 3 M) (fun r2 M2 => some (r2, M2))))
def x_X_heal (x1 : Int) (M : Mem) : Option (Bool × Mem) :=
  bnd (x_X_isVoice x1 M) (fun r1 => (if r1 = true then chk (0 ≤ x1 ∧ x1 < 7) ((if ¬ w32 (M 40 x1.toNat) = 0 then bnd (x_Past_keep 38 M) (fun M3 => chk (0 ≤ x1 ∧ x1 < 7) (lt (upM M3 40 x1.toNat 0) (fun M_46 => some (true, M_46)))) else bnd2 (x_X_no 3 M) (fun r4 M4 => some (r4, M4)))) else bnd2 (x_X_no 3 M) (fun r2 M2 => some (r2, M2))))
def x_X_train (x1 : Int) (x2 : Int) (M : Mem) : Option (Bool × Mem) :=
  bnd (x_X_isVoice x1 M) (fun r1 => (if r1 = true then (if w32 x2 < 0 then bnd2 (x_X_no 3 M) (fun r3 M3 => some (r3, M3)) else (if w32 x2 < w32 10 then chk (0 ≤ x1 ∧ x1 < 7) ((if ¬ w32 (M 39 x1.toNat) = w32 x2 then bnd (x_Past_keep 38 M) (fun M4 => chk (0 ≤ x1 ∧ x1 < 7) (lt (upM M4 39 x1.toNat x2) (fun M_63 => some (true, M_63)))) else bnd2 (x_X_no 3 M) (fun r5 M5 => some (r5, M5)))) else bnd2 (x_X_no 3 M) (fun r6 M6 => some (r6, M6)))) else bnd2 (x_X_no 3 M) (fun r2 M2 => some (r2, M2))))
def x_X_delay (x1 : Int) (x2 : Int) (M : Mem) : Option (Bool × Mem) :=
  bnd (x_X_isSaying x1 M) (fun r1 => (if r1 = true then chk (0 ≤ x1 ∧ x1 < 12) ((if w32 (M 42 x1.toNat) = 0 then (if w32 x2 < w32 (M 38 13) then bnd2 (x_X_no 3 M) (fun r3 M3 => some (r3, M3)) else (if w32 x2 ≤ w32 999 then chk (0 ≤ x1 ∧ x1 < 12) ((if ¬ w32 (M 43 x1.toNat) = w32 x2 then bnd (x_Past_keep 38 M) (fun M4 => chk (0 ≤ x1 ∧ x1 < 12) (lt (upM M4 43 x1.toNat x2) (fun M_89 => some (true, M_89)))) else bnd2 (x_X_no 3 M) (fun r5 M5 => some (r5, M5)))) else bnd2 (x_X_no 3 M) (fun r6 M6 => some (r6, M6)))) else bnd2 (x_X_no 3 M) (fun r7 M7 => some (r7, M7)))) else bnd2 (x_X_no 3 M) (fun r2 M2 => some (r2, M2))))
def x_Past_giveBack_B28 (o1 : Nat) (s1 : Int) (M : Mem) : Option (Bool × Mem) :=
  lt (upM M 64 2 s1) (fun M_28 => (if w32 (M_28 64 2) < 0 then some (false, M_28) else (if w32 20 ≤ w32 (M_28 64 2) then some (false, M_28) else chk (0 ≤ (M_28 64 2) ∧ (M_28 64 2) < 20) (chk (0 ≤ (M_28 64 2) ∧ (M_28 64 2) < 20) (bnd (x_State_copyFrom o1 (66 + 13 * (M_28 64 2).toNat) M_28) (fun M1 => lt (upM M1 64 0 ((M1 64 0) - 1)) (fun M_81 => some (true, M_81))))))))
def x_Past_giveBack (o1 : Nat) (M : Mem) : Option (Bool × Mem) :=
  (if ¬ w32 (M 64 0) = 0 then (if w32 (M 64 2) ≤ 0 then x_Past_giveBack_B28 o1 19 M else x_Past_giveBack_B28 o1 ((M 64 2) - 1) M) else some (false, M))
def x_X_undo (M : Mem) : Option (Bool × Mem) :=
  bnd2 (x_Past_giveBack 38 M) (fun r1 M1 => (if r1 = true then some (true, M1) else bnd2 (x_X_no 4 M1) (fun r2 M2 => (if r2 = true then some (true, M2) else some (false, M2)))))
def x_X_seed (x1 : Int) (M : Mem) : Option (Bool × Mem) :=
  (if 0 ≤ w32 x1 then lt (upM M 0 10 x1) (fun M_12 => some (true, M_12)) else bnd2 (x_X_no 5 M) (fun r1 M1 => some (r1, M1)))
def x_X_kept (x1 : Int) (x2 : Int) (M : Mem) : Option (Int) :=
  (if w32 x1 < 0 then some (-1) else (if w32 x1 < w32 (M 38 12) then (if w32 x2 = 0 then chk (0 ≤ x1 ∧ x1 < 12) (some (M 48 x1.toNat)) else (if w32 x2 = 1 then chk (0 ≤ x1 ∧ x1 < 12) (some (M 49 x1.toNat)) else (if w32 x2 = 2 then chk (0 ≤ x1 ∧ x1 < 12) (some (M 50 x1.toNat)) else some (-1)))) else some (-1)))
def x_Picture_put (x1 : Int) (M : Mem) : Option (Mem) :=
  (if w32 108 ≤ w32 (M 370 1) then some M else chk (0 ≤ (M 370 1) ∧ (M 370 1) < 108) (lt (upM M 371 (M 370 1).toNat x1) (fun M_21 => lt (upM M_21 370 1 ((M_21 370 1) + 1)) (fun M_29 => some M_29))))
def x_Picture_putPair (x1 : Int) (M : Mem) : Option (Mem) :=
  bnd (x_Picture_put (shr32 x1 8) M) (fun M1 => bnd (x_Picture_put (and32 x1 255) M1) (fun M2 => some M2))
def x_Picture_sealOf_L6 (a0 : Nat) (La0 : Nat) (v1 : Int) (M : Mem) (rec : Int → Int → Option (Int × Int)) (v2 : Int) (v3 : Int) : Option (Int × Int) :=
  (if w32 v1 ≤ w32 v3 then some (v2, v3) else (if w32 (La0 : Int) ≤ w32 v3 then some (v2, v3) else chk (0 ≤ v3 ∧ v3 < La0) (chk (w32 251 ≠ 0) (lt (((w32 ((5 * v2) + (M a0 v3.toNat))).tmod (w32 251))) (fun v2_28 => lt (v3 + 1) (fun v3_29 => rec v2_28 v3_29))))))
def x_Picture_sealOf (a0 : Nat) (La0 : Nat) (x1 : Int) (M : Mem) : Option (Int) :=
  bnd (itr2 (x_Picture_sealOf_L6 a0 La0 x1 M) FUEL 199 0) (fun q1 => match q1 with | (v2_1, v3_1) => some v2_1)
def x_Picture_write_L18 (rec : Int → Mem → Option (Int × Mem)) (v1 : Int) (M : Mem) : Option (Int × Mem) :=
  (if w32 (M 23 0) ≤ w32 v1 then some (v1, M) else chk (0 ≤ v1 ∧ v1 < 7) (bnd (x_Picture_put (M 39 v1.toNat) M) (fun M2 => chk (0 ≤ v1 ∧ v1 < 7) (bnd (x_Picture_put (M2 40 v1.toNat) M2) (fun M3 => chk (0 ≤ v1 ∧ v1 < 7) (bnd (x_Picture_put (M3 41 v1.toNat) M3) (fun M4 => lt (v1 + 1) (fun v1_68 => rec v1_68 M4))))))))
def x_Picture_write_L76_B155 (rec : Int → Mem → Option (Int × Mem)) (v1 : Int) (s1 : Int) (M : Mem) : Option (Int × Mem) :=
  bnd (x_Picture_put s1 M) (fun M9 => chk (0 ≤ v1 ∧ v1 < 12) (bnd (x_Picture_put (M9 46 v1.toNat) M9) (fun M10 => chk (0 ≤ v1 ∧ v1 < 12) (bnd (x_Picture_put (M10 47 v1.toNat) M10) (fun M11 => lt (v1 + 1) (fun v1_184 => rec v1_184 M11))))))
def x_Picture_write_L76 (rec : Int → Mem → Option (Int × Mem)) (v1 : Int) (M : Mem) : Option (Int × Mem) :=
  (if w32 (M 23 2) ≤ w32 v1 then some (v1, M) else chk (0 ≤ v1 ∧ v1 < 12) (bnd (x_Picture_put (M 42 v1.toNat) M) (fun M6 => chk (0 ≤ v1 ∧ v1 < 12) (bnd (x_Picture_putPair (M6 43 v1.toNat) M6) (fun M7 => chk (0 ≤ v1 ∧ v1 < 12) (bnd (x_Picture_put (M7 44 v1.toNat) M7) (fun M8 => chk (0 ≤ v1 ∧ v1 < 12) ((if ¬ w32 (M8 45 v1.toNat) = w32 (-1) then chk (0 ≤ v1 ∧ v1 < 12) (x_Picture_write_L76_B155 rec v1 (M8 45 v1.toNat) M8) else x_Picture_write_L76_B155 rec v1 255 M8)))))))))
def x_Picture_write (M : Mem) : Option (Int × Mem) :=
  lt (upM M 370 1 0) (fun M_2 => bnd (x_Picture_putPair (M_2 38 13) M_2) (fun M1 => bnd (itr2 (x_Picture_write_L18) FUEL 0 M1) (fun q5 => match q5 with | (v1_5, M_5) => bnd (itr2 (x_Picture_write_L76) FUEL 0 M_5) (fun q12 => match q12 with | (v1_12, M_12) => bnd (x_Picture_sealOf 371 108 (M_12 370 1) M_12) (fun r13 => bnd (x_Picture_put r13 M_12) (fun M14 => some ((M14 370 1), M14)))))))
def x_X_image (M : Mem) : Option (Int × Mem) :=
  bnd2 (x_Picture_write M) (fun r1 M1 => some (r1, M1))
def x_X_octet (x1 : Int) (M : Mem) : Option (Int) :=
  (if w32 x1 < 0 then some (-1) else (if w32 (M 370 1) ≤ w32 x1 then some (-1) else chk (0 ≤ x1 ∧ x1 < 108) (some (M 371 x1.toNat))))
def x_Picture_take (M : Mem) : Option (Int × Mem) :=
  (if (M 370 5).toNat = 0 then some (0, M) else chk ((M 370 5) = 1 + 1) ((if w32 (M 1 1) ≤ w32 (M 370 6) then some (0, M) else chk ((M 370 5) = 1 + 1) ((if w32 (M 370 6) < w32 1600 then lt (upM M 370 6 ((M 370 6) + 1)) (fun M_45 => chk ((M_45 370 5) = 1 + 1) (chk (0 ≤ ((M_45 370 6) - 1) ∧ ((M_45 370 6) - 1) < 1600) (some ((M_45 2 ((M_45 370 6) - 1).toNat), M_45)))) else some (0, M))))))
def x_Picture_takePair (M : Mem) : Option (Int × Mem) :=
  bnd2 (x_Picture_take M) (fun r1 M1 => bnd2 (x_Picture_take M1) (fun r2 M2 => some ((or32 (shl32 r1 8) r2), M2)))
def x_Picture_takeSaying_B225 (v1 : Int) (v6 : Int) (v7 : Int) (s1 : Int) (s2 : Int) (M : Mem) : Option (Bool × Mem) :=
  chk (0 ≤ s1 ∧ s1 < 12) (lt (upM M 58 s1.toNat s2) (fun M_225 => chk (0 ≤ v1 ∧ v1 < 12) (lt (upM M_225 59 v1.toNat v6) (fun M_236 => chk (0 ≤ v1 ∧ v1 < 12) (lt (upM M_236 60 v1.toNat v7) (fun M_247 => some (true, M_247)))))))
def x_Picture_takeSaying_B175 (v1 : Int) (v2 : Int) (v3 : Int) (v4 : Int) (v5 : Int) (v6 : Int) (v7 : Int) (v8 : Int) (M : Mem) : Option (Bool × Mem) :=
  chk (0 ≤ v1 ∧ v1 < 12) (lt (upM M 55 v1.toNat v2) (fun M_184 => chk (0 ≤ v1 ∧ v1 < 12) (lt (upM M_184 56 v1.toNat v3) (fun M_194 => chk (0 ≤ v1 ∧ v1 < 12) (lt (upM M_194 57 v1.toNat v4) (fun M_205 => (if w32 v8 = 0 then x_Picture_takeSaying_B225 v1 v6 v7 v1 (-1) M_205 else x_Picture_takeSaying_B225 v1 v6 v7 v1 v5 M_205)))))))
def x_Picture_takeSaying_B129 (v1 : Int) (v2 : Int) (v3 : Int) (v4 : Int) (v5 : Int) (v6 : Int) (v7 : Int) (v8 : Int) (M : Mem) : Option (Bool × Mem) :=
  (if ¬ w32 v2 = w32 2 then (if w32 v6 = 0 then x_Picture_takeSaying_B175 v1 v2 v3 v4 v5 v6 v7 v8 M else some (false, M)) else bnd (x_State_isFree 51 v5 M) (fun r7 => (if r7 = true then (if w32 v6 < w32 1 then some (false, M) else chk (0 ≤ v1 ∧ v1 < 12) ((if w32 v6 ≤ w32 (M 31 v1.toNat) then x_Picture_takeSaying_B175 v1 v2 v3 v4 v5 v6 v7 v8 M else some (false, M)))) else some (false, M))))
def x_Picture_takeSaying_B92 (v1 : Int) (v2 : Int) (v3 : Int) (v4 : Int) (v5 : Int) (v6 : Int) (v7 : Int) (s0 : Int) (M : Mem) : Option (Bool × Mem) :=
  (if w32 s0 = 0 then (if ¬ w32 v5 = w32 255 then some (false, M) else (if w32 v7 = 0 then x_Picture_takeSaying_B129 v1 v2 v3 v4 v5 v6 v7 s0 M else some (false, M))) else (if w32 v5 < w32 (M 23 0) then x_Picture_takeSaying_B129 v1 v2 v3 v4 v5 v6 v7 s0 M else some (false, M)))
def x_Picture_takeSaying_B87 (v1 : Int) (v2 : Int) (v3 : Int) (v4 : Int) (v5 : Int) (v6 : Int) (v7 : Int) (M : Mem) : Option (Bool × Mem) :=
  x_Picture_takeSaying_B92 v1 v2 v3 v4 v5 v6 v7 1 M
def x_Picture_takeSaying_B72 (v1 : Int) (v2 : Int) (v3 : Int) (v4 : Int) (v5 : Int) (v6 : Int) (v7 : Int) (M : Mem) : Option (Bool × Mem) :=
  (if w32 v2 = w32 2 then x_Picture_takeSaying_B87 v1 v2 v3 v4 v5 v6 v7 M else (if w32 v2 = w32 3 then x_Picture_takeSaying_B87 v1 v2 v3 v4 v5 v6 v7 M else (if ¬ w32 v2 = w32 5 then x_Picture_takeSaying_B92 v1 v2 v3 v4 v5 v6 v7 0 M else x_Picture_takeSaying_B87 v1 v2 v3 v4 v5 v6 v7 M)))
def x_Picture_takeSaying (x1 : Int) (M : Mem) : Option (Bool × Mem) :=
  bnd2 (x_Picture_take M) (fun r1 M1 => bnd2 (x_Picture_takePair M1) (fun r2 M2 => bnd2 (x_Picture_take M2) (fun r3 M3 => bnd2 (x_Picture_take M3) (fun r4 M4 => bnd2 (x_Picture_take M4) (fun r5 M5 => bnd2 (x_Picture_take M5) (fun r6 M6 => (if w32 5 < w32 r1 then some (false, M6) else (if w32 999 < w32 r2 then some (false, M6) else (if w32 99 < w32 r3 then some (false, M6) else (if w32 r6 ≤ w32 1 then (if ¬ w32 r1 = 0 then x_Picture_takeSaying_B72 x1 r1 r2 r3 r4 r5 r6 M6 else (if w32 r3 = 0 then x_Picture_takeSaying_B72 x1 r1 r2 r3 r4 r5 r6 M6 else some (false, M6))) else some (false, M6)))))))))))
def x_Picture_takeVoice (x1 : Int) (M : Mem) : Option (Bool × Mem) :=
  bnd2 (x_Picture_take M) (fun r1 M1 => chk (0 ≤ x1 ∧ x1 < 7) (lt (upM M1 52 x1.toNat r1) (fun M_12 => bnd2 (x_Picture_take M_12) (fun r2 M2 => chk (0 ≤ x1 ∧ x1 < 7) (lt (upM M2 53 x1.toNat r2) (fun M_25 => bnd2 (x_Picture_take M_25) (fun r3 M3 => chk (0 ≤ x1 ∧ x1 < 7) (lt (upM M3 54 x1.toNat r3) (fun M_38 => chk (0 ≤ x1 ∧ x1 < 7) ((if w32 10 ≤ w32 (M_38 52 x1.toNat) then some (false, M_38) else chk (0 ≤ x1 ∧ x1 < 7) ((if w32 1 < w32 (M_38 53 x1.toNat) then some (false, M_38) else chk (0 ≤ x1 ∧ x1 < 7) ((if w32 99 < w32 (M_38 54 x1.toNat) then some (false, M_38) else some (true, M_38))))))))))))))))
def x_Picture_read_L117 (rec : Int → Int → Mem → Option (Int × Int × Mem)) (v3 : Int) (v4 : Int) (M : Mem) : Option (Int × Int × Mem) :=
  (if w32 (M 23 0) ≤ w32 v4 then some (v3, v4, M) else bnd2 (x_Picture_takeVoice v4 M) (fun r4 M4 => (if r4 = true then (if w32 v3 = 0 then lt (v4 + 1) (fun v4_148 => rec 0 v4_148 M4) else lt (v4 + 1) (fun v4_148 => rec 1 v4_148 M4)) else lt (v4 + 1) (fun v4_148 => rec 0 v4_148 M4))))
def x_Picture_read_L157 (rec : Int → Int → Mem → Option (Int × Int × Mem)) (v3 : Int) (v4 : Int) (M : Mem) : Option (Int × Int × Mem) :=
  (if w32 (M 23 2) ≤ w32 v4 then some (v3, v4, M) else bnd2 (x_Picture_takeSaying v4 M) (fun r6 M6 => (if r6 = true then (if w32 v3 = 0 then lt (v4 + 1) (fun v4_188 => rec 0 v4_188 M6) else lt (v4 + 1) (fun v4_188 => rec 1 v4_188 M6)) else lt (v4 + 1) (fun v4_188 => rec 0 v4_188 M6))))
def x_Picture_read_B113 (s0 : Int) (M : Mem) : Option (Bool × Mem) :=
  bnd (itr3 (x_Picture_read_L117) FUEL s0 0 M) (fun q5 => match q5 with | (v3_5, v4_5, M_5) => bnd (itr3 (x_Picture_read_L157) FUEL v3_5 0 M_5) (fun q7 => match q7 with | (v3_7, v4_7, M_7) => chk (v3_7 = (0 : Int) ∨ v3_7 = 1) (some ((decide (v3_7 = 1)), M_7))))
def x_Picture_read (M : Mem) : Option (Bool × Mem) :=
  lt ((((2 + (3 * (M 23 0))) + (7 * (M 23 2))) + 1)) (fun v2_24 => (if ¬ w32 (M 1 1) = w32 v2_24 then some (false, M) else (if w32 v2_24 ≤ w32 1600 then bnd (x_Picture_sealOf 2 1600 (v2_24 - 1) M) (fun r1 => chk (0 ≤ (v2_24 - 1) ∧ (v2_24 - 1) < 1600) ((if w32 r1 = w32 (M 2 (v2_24 - 1).toNat) then bnd (x_State_reset 51 M) (fun M2 => lt (upM M2 370 5 (1 + 1)) (fun M_76 => lt (upM M_76 370 6 0) (fun M_81 => bnd2 (x_Picture_takePair M_81) (fun r3 M3 => lt (upM M3 51 13 r3) (fun M_92 => (if w32 999 < w32 (M_92 51 13) then x_Picture_read_B113 0 M_92 else x_Picture_read_B113 1 M_92)))))) else some (false, M)))) else some (false, M))))
def x_X_on (M : Mem) : Option (Bool × Mem) :=
  bnd2 (x_Picture_read M) (fun r1 M1 => lt ((b2i r1)) (fun v1_11 => lt (upM M1 1 1 0) (fun M_17 => (if ¬ w32 v1_11 = 0 then bnd (x_State_copyFrom 38 51 M_17) (fun M2 => bnd (x_Past_clear M2) (fun M3 => some (true, M3))) else bnd2 (x_X_no 5 M_17) (fun r4 M4 => some (r4, M4))))))
def x_X_status (x1 : Int) (M : Mem) : Option (Int) :=
  (if w32 x1 < 0 then some (-1) else (if w32 6 ≤ w32 x1 then some (-1) else chk (0 ≤ x1 ∧ x1 < 6) (some (M 372 x1.toNat))))
def x_Reader_fact_B151 (rc : Nat → Mem → Option Mem) (v1 : Int) (M : Mem) : Option (Mem) :=
  (if w32 (M 3 1) = 0 then lt (upM M 3 4 ((M 3 4) + 1)) (fun M_166 => bnd (rc 2 M_166) (fun M6 => bnd (x_Rules_addSign 13 v1 M6) (fun M7 => some M7))) else some M)
def x_Reader_fact (rc : Nat → Mem → Option Mem) (M : Mem) : Option (Mem) :=
  bnd (x_Reader_at 19 M) (fun r1 => (if r1 = true then bnd2 (x_Reader_enter M) (fun r13 M13 => (if r13 = true then bnd (rc 0 M13) (fun M14 => lt (upM M14 3 5 ((M14 3 5) - 1)) (fun M_28 => bnd (x_Rules_addSign 13 19 M_28) (fun M15 => some M15))) else some M13)) else bnd (x_Reader_at 91 M) (fun r2 => (if r2 = true then bnd2 (x_Reader_enter M) (fun r10 M10 => (if r10 = true then bnd (rc 3 M10) (fun M11 => bnd (x_Reader_require 93 M11) (fun M12 => lt (upM M12 3 5 ((M12 3 5) - 1)) (fun M_80 => some M_80))) else some M10)) else bnd (x_Reader_at 20 M) (fun r3 => (if r3 = true then lt (upM M 3 4 ((M 3 4) + 1)) (fun M_102 => bnd (x_Rules_addNumber 13 1 M_102) (fun M9 => some M9)) else bnd (rc 2 M) (fun M4 => bnd (x_Reader_kind M4) (fun r5 => (if w32 r5 = w32 60 then x_Reader_fact_B151 rc r5 M4 else (if w32 r5 = w32 62 then x_Reader_fact_B151 rc r5 M4 else (if w32 r5 = w32 61 then x_Reader_fact_B151 rc r5 M4 else bnd (x_Reader_refuse 1 M4) (fun M8 => x_Reader_fact_B151 rc r5 M8))))))))))))
def x_Reader_test_L8_B66 (rc : Nat → Mem → Option Mem) (rec : Int → Int → Mem → Option (Int × Int × Mem)) (v1 : Int) (v2 : Int) (v3 : Int) (M : Mem) : Option (Int × Int × Mem) :=
  lt (upM M 3 4 ((M 3 4) + 1)) (fun M_73 => bnd (rc 0 M_73) (fun M4 => (if w32 v3 = 0 then lt (v2 + 1) (fun v2_96 => rec v1 v2_96 M4) else bnd (x_Rules_addSign 13 18 M4) (fun M5 => lt (v2 + 1) (fun v2_96 => rec v1 v2_96 M5)))))
def x_Reader_test_L8_B60 (rc : Nat → Mem → Option Mem) (rec : Int → Int → Mem → Option (Int × Int × Mem)) (v1 : Int) (v2 : Int) (v3 : Int) (M : Mem) : Option (Int × Int × Mem) :=
  (if ¬ w32 v3 = 0 then x_Reader_test_L8_B66 rc rec v1 v2 v3 M else x_Reader_test_L8_B66 rc rec 1 v2 v3 M)
def x_Reader_test_L8_B33 (rc : Nat → Mem → Option Mem) (rec : Int → Int → Mem → Option (Int × Int × Mem)) (v1 : Int) (v2 : Int) (M : Mem) : Option (Int × Int × Mem) :=
  bnd (x_Reader_at 18 M) (fun r3 => lt ((b2i r3)) (fun v3_39 => (if ¬ w32 v3_39 = 0 then x_Reader_test_L8_B60 rc rec v1 v2 v3_39 M else (if w32 v1 = 0 then x_Reader_test_L8_B60 rc rec v1 v2 v3_39 M else bnd (x_Rules_addSign 13 17 M) (fun M6 => x_Reader_test_L8_B60 rc rec v1 v2 v3_39 M6)))))
def x_Reader_test_L8 (rc : Nat → Mem → Option Mem) (rec : Int → Int → Mem → Option (Int × Int × Mem)) (v1 : Int) (v2 : Int) (M : Mem) : Option (Int × Int × Mem) :=
  (if w32 1600 ≤ w32 v2 then some (v1, v2, M) else bnd (x_Reader_at 17 M) (fun r2 => (if r2 = true then x_Reader_test_L8_B33 rc rec v1 v2 M else bnd (x_Reader_at 18 M) (fun r7 => (if r7 = true then x_Reader_test_L8_B33 rc rec v1 v2 M else some (v1, v2, M))))))
def x_Reader_test (rc : Nat → Mem → Option Mem) (M : Mem) : Option (Mem) :=
  bnd (rc 0 M) (fun M1 => bnd (itr3 (x_Reader_test_L8 rc) FUEL 0 0 M1) (fun q8 => match q8 with | (v1_8, v2_8, M_8) => (if w32 v1_8 = 0 then some M_8 else bnd (x_Rules_addSign 13 17 M_8) (fun M9 => some M9))))
def x_Reader_part_B152 (rc : Nat → Mem → Option Mem) (v1 : Int) (M : Mem) : Option (Mem) :=
  bnd (x_Reader_require 44 M) (fun M7 => bnd (rc 2 M7) (fun M8 => bnd (x_Reader_require 41 M8) (fun M9 => lt (upM M9 3 5 ((M9 3 5) - 1)) (fun M_175 => bnd (x_Rules_addSign 13 v1 M_175) (fun M10 => some M10)))))
def x_Reader_part_B117 (rc : Nat → Mem → Option Mem) (v1 : Int) (M : Mem) : Option (Mem) :=
  bnd2 (x_Reader_enter M) (fun r5 M5 => (if r5 = true then (if ¬ w32 v1 = w32 16 then bnd (rc 2 M5) (fun M6 => x_Reader_part_B152 rc v1 M6) else bnd (rc 3 M5) (fun M11 => bnd (x_Reader_require 44 M11) (fun M12 => bnd (rc 2 M12) (fun M13 => x_Reader_part_B152 rc v1 M13)))) else some M5))
def x_Reader_part_B93 (rc : Nat → Mem → Option Mem) (v1 : Int) (M : Mem) : Option (Mem) :=
  lt (upM M 3 4 ((M 3 4) + 1)) (fun M_100 => bnd (x_Reader_at 40 M_100) (fun r4 => (if r4 = true then x_Reader_part_B117 rc v1 M_100 else bnd (x_Reader_refuse 1 M_100) (fun M14 => x_Reader_part_B117 rc v1 M14))))
def x_Reader_part (rc : Nat → Mem → Option Mem) (M : Mem) : Option (Mem) :=
  bnd (x_Reader_kind M) (fun r1 => bnd (x_Reader_at 24 M) (fun r2 => (if r2 = true then bnd2 (x_Reader_number 0 9999 M) (fun r21 M21 => bnd (x_Rules_addNumber 13 r21 M21) (fun M22 => some M22)) else bnd (x_Reader_at 40 M) (fun r3 => (if r3 = true then bnd2 (x_Reader_enter M) (fun r18 M18 => (if r18 = true then bnd (rc 2 M18) (fun M19 => bnd (x_Reader_require 41 M19) (fun M20 => lt (upM M20 3 5 ((M20 3 5) - 1)) (fun M_69 => some M_69))) else some M18)) else (if w32 r1 = w32 21 then x_Reader_part_B93 rc r1 M else (if w32 r1 = w32 22 then x_Reader_part_B93 rc r1 M else (if ¬ w32 r1 = w32 16 then bnd (x_Reader_isAsked r1 M) (fun r15 => (if r15 = true then lt (upM M 3 4 ((M 3 4) + 1)) (fun M_207 => bnd (x_Rules_addFact 13 r1 M_207) (fun M17 => some M17)) else bnd (x_Reader_refuse 1 M) (fun M16 => some M16))) else x_Reader_part_B93 rc r1 M))))))))
def x_Reader_sum_L8_B99 (rc : Nat → Mem → Option Mem) (rec : Int → Int → Mem → Option (Int × Int × Mem)) (v1 : Int) (v2 : Int) (v3 : Int) (v4 : Int) (M : Mem) : Option (Int × Int × Mem) :=
  lt (upM M 3 4 ((M 3 4) + 1)) (fun M_106 => bnd (rc 1 M_106) (fun M3 => (if ¬ w32 v4 = 0 then lt (v2 + 1) (fun v2_129 => rec v1 v2_129 M3) else bnd (x_Rules_addSign 13 v3 M3) (fun M4 => lt (v2 + 1) (fun v2_129 => rec v1 v2_129 M4)))))
def x_Reader_sum_L8_B92 (rc : Nat → Mem → Option Mem) (rec : Int → Int → Mem → Option (Int × Int × Mem)) (v1 : Int) (v2 : Int) (v3 : Int) (v4 : Int) (M : Mem) : Option (Int × Int × Mem) :=
  (if w32 v4 = 0 then x_Reader_sum_L8_B99 rc rec v1 v2 v3 v4 M else x_Reader_sum_L8_B99 rc rec v3 v2 v3 v4 M)
def x_Reader_sum_L8_B72 (rc : Nat → Mem → Option Mem) (rec : Int → Int → Mem → Option (Int × Int × Mem)) (v1 : Int) (v2 : Int) (v3 : Int) (v4 : Int) (M : Mem) : Option (Int × Int × Mem) :=
  (if w32 v4 = 0 then x_Reader_sum_L8_B92 rc rec v1 v2 v3 v4 M else (if w32 v1 = 0 then x_Reader_sum_L8_B92 rc rec v1 v2 v3 v4 M else bnd (x_Rules_addSign 13 v1 M) (fun M5 => x_Reader_sum_L8_B92 rc rec v1 v2 v3 v4 M5)))
def x_Reader_sum_L8_B44 (rc : Nat → Mem → Option Mem) (rec : Int → Int → Mem → Option (Int × Int × Mem)) (v1 : Int) (v2 : Int) (v3 : Int) (s0 : Int) (M : Mem) : Option (Int × Int × Mem) :=
  (if ¬ w32 s0 = 0 then x_Reader_sum_L8_B72 rc rec v1 v2 v3 s0 M else (if w32 v3 = w32 42 then x_Reader_sum_L8_B72 rc rec v1 v2 v3 s0 M else (if w32 v3 = w32 47 then x_Reader_sum_L8_B72 rc rec v1 v2 v3 s0 M else (if w32 v3 = w32 37 then x_Reader_sum_L8_B72 rc rec v1 v2 v3 s0 M else some (v1, v2, M)))))
def x_Reader_sum_L8_B39 (rc : Nat → Mem → Option Mem) (rec : Int → Int → Mem → Option (Int × Int × Mem)) (v1 : Int) (v2 : Int) (v3 : Int) (M : Mem) : Option (Int × Int × Mem) :=
  x_Reader_sum_L8_B44 rc rec v1 v2 v3 1 M
def x_Reader_sum_L8 (rc : Nat → Mem → Option Mem) (rec : Int → Int → Mem → Option (Int × Int × Mem)) (v1 : Int) (v2 : Int) (M : Mem) : Option (Int × Int × Mem) :=
  (if w32 1600 ≤ w32 v2 then some (v1, v2, M) else (if ¬ w32 (M 3 1) = 0 then some (v1, v2, M) else bnd (x_Reader_kind M) (fun r2 => (if w32 r2 = w32 43 then x_Reader_sum_L8_B39 rc rec v1 v2 r2 M else (if ¬ w32 r2 = w32 45 then x_Reader_sum_L8_B44 rc rec v1 v2 r2 0 M else x_Reader_sum_L8_B39 rc rec v1 v2 r2 M)))))
def x_Reader_sum (rc : Nat → Mem → Option Mem) (M : Mem) : Option (Mem) :=
  bnd (rc 1 M) (fun M1 => bnd (itr3 (x_Reader_sum_L8 rc) FUEL 0 0 M1) (fun q6 => match q6 with | (v1_6, v2_6, M_6) => (if w32 v1_6 = 0 then some M_6 else bnd (x_Rules_addSign 13 v1_6 M_6) (fun M7 => some M7))))
def x_rec : Nat → Nat → Mem → Option Mem
  | 0 => fun _ _ => none
  | n + 1 => fun sel M => match sel with
    | 0 => x_Reader_fact (x_rec n) M
    | 1 => x_Reader_part (x_rec n) M
    | 2 => x_Reader_sum (x_rec n) M
    | 3 => x_Reader_test (x_rec n) M
    | _ => none
def x_Reader_readRule_B69 (v1 : Int) (M : Mem) : Option (Mem) :=
  bnd (x_Rules_stop 13 v1 M) (fun M4 => some M4)
def x_Reader_readRule_B20 (v1 : Int) (M : Mem) : Option (Mem) :=
  (if w32 (M 3 1) = 0 then lt (upM M 3 4 ((M 3 4) + 1)) (fun M_35 => lt (upM M_35 3 6 v1) (fun M_40 => bnd (x_Rules_start 13 v1 M_40) (fun M2 => (if ¬ w32 v1 = 0 then bnd (x_rec 64 3 M2) (fun M3 => x_Reader_readRule_B69 v1 M3) else bnd (x_rec 64 2 M2) (fun M5 => x_Reader_readRule_B69 v1 M5))))) else some M)
def x_Reader_readRule (x1 : Int) (M : Mem) : Option (Mem) :=
  bnd (x_Rules_isTold 13 x1 M) (fun r1 => (if r1 = true then bnd (x_Reader_refuse 6 M) (fun M6 => x_Reader_readRule_B20 x1 M6) else x_Reader_readRule_B20 x1 M))
def x_Reader_readStatement (x1 : Int) (M : Mem) : Option (Mem) :=
  (if w32 x1 = 0 then bnd (x_Reader_readVoice M) (fun M1 => some M1) else (if w32 x1 = 1 then bnd (x_Reader_readPerson M) (fun M2 => some M2) else (if w32 x1 = 2 then bnd (x_Reader_readWants M) (fun M3 => some M3) else (if w32 x1 = 3 then bnd (x_Reader_readRule 0 M) (fun M4 => some M4) else (if w32 x1 = 4 then bnd (x_Reader_readRule 1 M) (fun M5 => some M5) else (if w32 x1 = 5 then bnd (x_Reader_readRule 2 M) (fun M6 => some M6) else (if w32 x1 = 6 then bnd (x_Reader_require 6 M) (fun M7 => bnd2 (x_Reader_number 0 100 M7) (fun r8 M8 => lt (upM M8 4 3 r8) (fun M_106 => some M_106))) else bnd (x_Reader_refuse 1 M) (fun M9 => some M9))))))))
def x_Reader_read_L39_B72 (rec : Int → Int → Mem → Option (Int × Int × Mem)) (v2 : Int) (v3 : Int) (M : Mem) : Option (Int × Int × Mem) :=
  bnd (x_Reader_kind M) (fun r4 => bnd (x_Reader_readStatement r4 M) (fun M5 => bnd (x_Reader_require 59 M5) (fun M6 => lt (v2 + 1) (fun v2_86 => lt (v3 + 1) (fun v3_89 => rec v2_86 v3_89 M6)))))
def x_Reader_read_L39 (rec : Int → Int → Mem → Option (Int × Int × Mem)) (v2 : Int) (v3 : Int) (M : Mem) : Option (Int × Int × Mem) :=
  (if w32 1600 ≤ w32 v3 then some (v2, v3, M) else (if ¬ w32 (M 3 1) = 0 then some (v2, v3, M) else bnd (x_Reader_at 25 M) (fun r3 => (if r3 = true then some (v2, v3, M) else (if ¬ w32 v2 = w32 80 then x_Reader_read_L39_B72 rec v2 v3 M else bnd (x_Reader_refuseOneMore M) (fun M7 => x_Reader_read_L39_B72 rec v2 v3 M7))))))
def x_Reader_read (M : Mem) : Option (Int × Mem) :=
  bnd (x_Tokens_split M) (fun M1 => bnd (x_Town_clear 4 M1) (fun M2 => lt (upM M2 3 1 0) (fun M_17 => lt (upM M_17 3 2 (-1)) (fun M_22 => lt (upM M_22 3 4 0) (fun M_27 => lt (upM M_27 3 5 0) (fun M_32 => bnd (itr3 (x_Reader_read_L39) FUEL 0 0 M_32) (fun q8 => match q8 with | (v2_8, v3_8, M_8) => (if ¬ w32 (M_8 3 1) = 0 then some ((-1), M_8) else some (v2_8, M_8)))))))))
def x_X_town (M : Mem) : Option (Int × Mem) :=
  bnd2 (x_Reader_read M) (fun r1 M1 => lt (upM M1 1 1 0) (fun M_17 => (if ¬ w32 r1 = w32 (-1) then bnd (x_Town_copyFrom 23 4 M_17) (fun M2 => bnd (x_State_reset 38 M2) (fun M3 => bnd (x_Past_clear M3) (fun M4 => bnd (x_Heard_clear M4) (fun M5 => some (r1, M5))))) else bnd2 (x_X_none 1 M_17) (fun r6 M6 => some (r6, M6)))))
