/-! NUMBERS: what the machine's words do to Ints -/
def and32 (x y : Int) : Int := (Int32.ofInt x &&& Int32.ofInt y).toInt
def or32 (x y : Int) : Int := (Int32.ofInt x ||| Int32.ofInt y).toInt
def xor32 (x y : Int) : Int := (Int32.ofInt x ^^^ Int32.ofInt y).toInt
def and64 (x y : Int) : Int := (Int64.ofInt x &&& Int64.ofInt y).toInt
def or64 (x y : Int) : Int := (Int64.ofInt x ||| Int64.ofInt y).toInt
def shl32 (x y : Int) : Int := (Int32.ofInt x <<< (Int32.ofInt y &&& 31)).toInt
def shr32 (x y : Int) : Int := (Int32.ofInt x >>> (Int32.ofInt y &&& 31)).toInt
def ushr32 (x y : Int) : Int := (((Int32.ofInt x).toUInt32 >>> ((Int32.ofInt y).toUInt32 &&& Int32.toUInt32 31)).toInt32).toInt
def shl64 (x y : Int) : Int := (Int64.ofInt x <<< ((Int32.ofInt y).toInt64 &&& 63)).toInt
def shr64 (x y : Int) : Int := (Int64.ofInt x >>> ((Int32.ofInt y).toInt64 &&& 63)).toInt
def lcmp (x y : Int) : Int := if w64 y < w64 x then 1 else if w64 x = w64 y then 0 else -1
theorem and32_of (x y : Int) : Int32.ofInt (and32 x y) = Int32.ofInt x &&& Int32.ofInt y := Int32.ofInt_toInt _
theorem or32_of (x y : Int) : Int32.ofInt (or32 x y) = Int32.ofInt x ||| Int32.ofInt y := Int32.ofInt_toInt _
theorem xor32_of (x y : Int) : Int32.ofInt (xor32 x y) = Int32.ofInt x ^^^ Int32.ofInt y := Int32.ofInt_toInt _
theorem and64_of (x y : Int) : Int64.ofInt (and64 x y) = Int64.ofInt x &&& Int64.ofInt y := Int64.ofInt_toInt _
theorem or64_of (x y : Int) : Int64.ofInt (or64 x y) = Int64.ofInt x ||| Int64.ofInt y := Int64.ofInt_toInt _
theorem shl32_of (x y : Int) : Int32.ofInt (shl32 x y) = Int32.ofInt x <<< (Int32.ofInt y &&& 31) := Int32.ofInt_toInt _
theorem shr32_of (x y : Int) : Int32.ofInt (shr32 x y) = Int32.ofInt x >>> (Int32.ofInt y &&& 31) := Int32.ofInt_toInt _
theorem ushr32_of (x y : Int) : Int32.ofInt (ushr32 x y) = ((Int32.ofInt x).toUInt32 >>> ((Int32.ofInt y).toUInt32 &&& Int32.toUInt32 31)).toInt32 := Int32.ofInt_toInt _
theorem shl64_of (x y : Int) : Int64.ofInt (shl64 x y) = Int64.ofInt x <<< ((Int32.ofInt y).toInt64 &&& 63) := Int64.ofInt_toInt _
theorem shr64_of (x y : Int) : Int64.ofInt (shr64 x y) = Int64.ofInt x >>> ((Int32.ofInt y).toInt64 &&& 63) := Int64.ofInt_toInt _
theorem w32_0 : w32 0 = 0 := by decide +kernel
theorem w64_0 : w64 0 = 0 := by decide +kernel
theorem I_eq0 {x : Int} : Int32.ofInt x = 0 ↔ w32 x = 0 := by
  have h := I_eq (x := x) (y := 0)
  rw [w32_0] at h
  exact h
theorem I_lt0 {x : Int} : Int32.ofInt x < 0 ↔ w32 x < 0 := by
  have h := I_lt (x := x) (y := 0)
  rw [w32_0] at h
  exact h
theorem I_ge0 {x : Int} : 0 ≤ Int32.ofInt x ↔ 0 ≤ w32 x := by
  have h := I_le (x := 0) (y := x)
  rw [w32_0] at h
  exact h
theorem I_gt0 {x : Int} : 0 < Int32.ofInt x ↔ 0 < w32 x := by
  have h := I_lt (x := 0) (y := x)
  rw [w32_0] at h
  exact h
theorem I_le0 {x : Int} : Int32.ofInt x ≤ 0 ↔ w32 x ≤ 0 := by
  have h := I_le (x := x) (y := 0)
  rw [w32_0] at h
  exact h
theorem i_ne0 {y : Int} (h : w32 y ≠ 0) : ¬ Int32.ofInt y = 0 := fun z => h (I_eq0.mp z)
theorem l_ne0 {y : Int} (h : w64 y ≠ 0) : ¬ Int64.ofInt y = 0 := fun z => h (by
  have q := L_eq (x := y) (y := 0)
  rw [w64_0] at q
  exact q.mp z)
theorem i2l_of (x : Int) : (Int32.ofInt x).toInt64 = Int64.ofInt (w32 x) := by
  apply Int64.toInt_inj.mp
  have h := w32_rng x
  rw [Int32.toInt_toInt64]
  show w32 x = w64 (w32 x)
  rw [w64_eq (by omega) (by omega)]
theorem l2i_of (x : Int) : (Int64.ofInt x).toInt32 = Int32.ofInt x := by
  simp
theorem idiv_of {x y : Int} : Int32.ofInt x / Int32.ofInt y = Int32.ofInt ((w32 x).tdiv (w32 y)) := by
  apply Int32.toInt_inj.mp
  rw [Int32.toInt_div]
  exact Int32.toInt_ofInt.symm
theorem ldiv_of {x y : Int} : Int64.ofInt x / Int64.ofInt y = Int64.ofInt ((w64 x).tdiv (w64 y)) := by
  apply Int64.toInt_inj.mp
  rw [Int64.toInt_div]
  exact Int64.toInt_ofInt.symm
theorem irem_of {x y : Int} : Int32.ofInt x - Int32.ofInt x / Int32.ofInt y * Int32.ofInt y = Int32.ofInt ((w32 x).tmod (w32 y)) := by
  rw [idiv_of, Int.tmod_def, Int32.ofInt_sub, Int32.ofInt_mul, ofI_w32, ofI_w32, Int32.mul_comm]
theorem lrem_of {x y : Int} : Int64.ofInt x - Int64.ofInt x / Int64.ofInt y * Int64.ofInt y = Int64.ofInt ((w64 x).tmod (w64 y)) := by
  rw [ldiv_of, Int.tmod_def, Int64.ofInt_sub, Int64.ofInt_mul, ofL_w64, ofL_w64, Int64.mul_comm]
theorem lcmp_of {x y : Int} : lg_cmp (Int64.ofInt x) (Int64.ofInt y) = Int32.ofInt (lcmp x y) := by
  unfold lg_cmp lcmp
  by_cases h1 : w64 y < w64 x
  · rw [if_pos (L_lt.mpr h1), if_pos h1]; rfl
  · rw [if_neg (fun q => h1 (L_lt.mp q)), if_neg h1]
    by_cases h2 : w64 x = w64 y
    · rw [if_pos (L_eq.mpr h2), if_pos h2]; rfl
    · rw [if_neg (fun q => h2 (L_eq.mp q)), if_neg h2]; rfl
