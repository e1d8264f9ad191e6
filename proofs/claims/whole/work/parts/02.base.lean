/-! THE BASE: a world of objects numbered from 0 at the address b on, its shape known, its numbers a function; numbers are Ints, wrapped where the machine looks at them -/
abbrev Mem : Type := Nat → Nat → Int
abbrev Shp : Type := Nat → Nat × List Nat
def upM (M : Mem) (k i : Nat) (v : Int) : Mem := fun a j => if a = k ∧ j = i then v else M a j
theorem upM_row {M : Mem} {k i : Nat} {v : Int} {a : Nat} (h : a ≠ k) : upM M k i v a = M a := by
  funext j
  simp [upM, h]
theorem upM_self {M : Mem} {k i : Nat} {v : Int} (j : Nat) : upM M k i v k j = if j = i then v else M k j := by simp [upM]
abbrev vI (x : Int) : Value := .int (Int32.ofInt x)
abbrev vL (x : Int) : Value := .long (Int64.ofInt x)
abbrev vR (b k : Nat) : Value := .ref (b + k)
def b2i (r : Bool) : Int := if r then 1 else 0
abbrev vB (r : Bool) : Value := vI (b2i r)
def w32 (x : Int) : Int := (Int32.ofInt x).toInt
def w64 (x : Int) : Int := (Int64.ofInt x).toInt
theorem w32_eq {x : Int} (h1 : -2147483648 ≤ x) (h2 : x < 2147483648) : w32 x = x := by
  unfold w32
  rw [Int32.toInt_ofInt, Int.bmod_eq_of_le] <;> (simp [Int32.size]; omega)
theorem w64_eq {x : Int} (h1 : -9223372036854775808 ≤ x) (h2 : x < 9223372036854775808) : w64 x = x := by
  unfold w64
  rw [Int64.toInt_ofInt, Int.bmod_eq_of_le] <;> (simp [Int64.size]; omega)
theorem w32_rng (x : Int) : -2147483648 ≤ w32 x ∧ w32 x < 2147483648 := by
  unfold w32
  have h1 := Int32.le_toInt (Int32.ofInt x)
  have h2 := Int32.toInt_lt (Int32.ofInt x)
  omega
theorem ofI_w32 (x : Int) : Int32.ofInt (w32 x) = Int32.ofInt x := by
  unfold w32; exact Int32.ofInt_toInt _
theorem ofL_w64 (x : Int) : Int64.ofInt (w64 x) = Int64.ofInt x := by
  unfold w64; exact Int64.ofInt_toInt _
theorem I_lt {x y : Int} : Int32.ofInt x < Int32.ofInt y ↔ w32 x < w32 y := Int32.lt_iff_toInt_lt
theorem I_le {x y : Int} : Int32.ofInt x ≤ Int32.ofInt y ↔ w32 x ≤ w32 y := Int32.le_iff_toInt_le
theorem I_eq {x y : Int} : Int32.ofInt x = Int32.ofInt y ↔ w32 x = w32 y := Int32.toInt_inj.symm
theorem L_eq {x y : Int} : Int64.ofInt x = Int64.ofInt y ↔ w64 x = w64 y := Int64.toInt_inj.symm
theorem L_lt {x y : Int} : Int64.ofInt x < Int64.ofInt y ↔ w64 x < w64 y := Int64.lt_iff_toInt_lt
/-- an index that is within, as the machine reads it -/
theorem I_clamp {i : Int} {n : Nat} (h : 0 ≤ i ∧ i < (n : Int)) (hn : n ≤ 2147483647) : (Int32.ofInt i).toNatClampNeg = i.toNat ∧ vp_in (Int32.ofInt i) n := by
  have e : (Int32.ofInt i).toInt = i := w32_eq (by omega) (by omega)
  have e2 : (Int32.ofInt i).toNatClampNeg = i.toNat := by
    unfold Int32.toNatClampNeg
    rw [e]
  refine ⟨e2, ?_⟩
  rw [vp_in_iff, e]
  exact h
-- ===== cells =====
def rO (b : Nat) : Nat → Option Nat
  | 0 => none
  | r + 1 => some (b + r)
def slotV (b : Nat) (rf : Nat → Nat) (m : Nat → Int) (j : Nat) (kd : Nat) : Value := match kd with
  | 1 => vL (m j)
  | 2 => va_rf (rO b (rf j))
  | 4 => va_rf (rO b (m j).toNat)
  | _ => vI (m j)
def cellE (E : Nat → ClassId) (b : Nat) (shk : Nat × List Nat) (rf : Nat → Nat) (m : Nat → Int) : va_E := match shk with
  | (0, n :: _) => .inl (E 0, n, .inl (fun i => Int32.ofInt (m i)))
  | (1, n :: _) => .inl (E 1, n, .inr (.inl (fun i => Int64.ofInt (m i))))
  | (2, n :: _) => .inl (E 2, n, .inl (fun i => Int32.ofInt (m i)))
  | (3, n :: t :: _) => .inl (E t, n, .inr (.inr (.inr (.inr (fun i => rO b (rf i))))))
  | (c + 4, kds) => .inr (c, kds.mapIdx (fun j kd => slotV b rf m j kd))
  | _ => .inr (0, [])
def Wd (E : Nat → ClassId) (sh : Shp) (b n : Nat) (Rf : Nat → Nat → Nat) (M : Mem) : va_W := (List.range n).map (fun k => (b + k, cellE E b (sh k) (Rf k) (M k)))
theorem Wd_at {E : Nat → ClassId} {sh : Shp} {b n : Nat} {Rf : Nat → Nat → Nat} {M : Mem} {k : Nat} (hk : k < n) : (Wd E sh b n Rf M)[k]? = some (b + k, cellE E b (sh k) (Rf k) (M k)) := by simp [Wd, hk]
theorem Wd_set {E : Nat → ClassId} {sh : Shp} {b n : Nat} {Rf : Nat → Nat → Nat} {M : Mem} {k i : Nat} {v : Int} {x : va_E} (hx : cellE E b (sh k) (Rf k) (upM M k i v k) = x) :
    (Wd E sh b n Rf M).set k (b + k, x) = Wd E sh b n Rf (upM M k i v) := by
  apply List.ext_getElem?
  intro j
  rw [List.getElem?_set]
  by_cases hj : k = j
  · subst hj
    by_cases hk : k < n
    · rw [Wd_at (M := upM M k i v) hk, hx]; simp [Wd, hk]
    · simp [Wd, hk]
  · rw [if_neg hj]
    by_cases hk : j < n
    · rw [Wd_at hk, Wd_at hk, upM_row (fun e => hj e.symm)]
    · simp [Wd, hk]
def AW (b n : Nat) : Nat → Prop := fun q => b ≤ q ∧ q < b + n
theorem Wd_D {E : Nat → ClassId} {sh : Shp} {b n : Nat} {Rf : Nat → Nat → Nat} {M : Mem} : va_D (AW b n) (Wd E sh b n Rf M) := by
  have key : ∀ (i : Nat) (q : Nat × va_E), (Wd E sh b n Rf M)[i]? = some q → i < n ∧ q.1 = b + i := by
    intro i q h
    by_cases hi : i < n
    · rw [Wd_at hi] at h; cases h; exact ⟨hi, rfl⟩
    · simp [Wd, hi] at h
  refine ⟨fun i j p q h1 h2 h3 => ?_, fun k q h => ?_⟩
  · have a := (key i p h1).2; have c := (key j q h2).2; omega
  · obtain ⟨a, c⟩ := key k q h; unfold AW; omega
theorem mapIdx_set {kds : List Nat} {b : Nat} {rf : Nat → Nat} {m m' : Nat → Int} {j kd : Nat} {v : Value} (hk : kds[j]? = some kd) (hv : slotV b rf m' j kd = v) (ho : ∀ i, i ≠ j → m' i = m i) :
    (kds.mapIdx (fun j kd => slotV b rf m j kd)).set j v = kds.mapIdx (fun j kd => slotV b rf m' j kd) := by
  apply List.ext_getElem?
  intro i
  rw [List.getElem?_set]
  by_cases hi : j = i
  · subst hi
    have hl : j < kds.length := (List.getElem?_eq_some_iff.mp hk).1
    simp [hl]
    rw [← hv]
    have : kds[j] = kd := by rw [List.getElem?_eq_getElem hl] at hk; exact Option.some.inj hk
    rw [this]
  · rw [if_neg hi]
    simp only [List.getElem?_mapIdx]
    cases kds[i]? with
    | none => rfl
    | some kd' =>
      simp only [Option.map_some]
      congr 1
      unfold slotV
      rw [ho i (fun e => hi e.symm)]
-- ===== the judgement =====
abbrev gws : List Cond := lw_tbl.filter goodWord
def tysOf (E : Nat → ClassId) : List (ClassId × FieldType) := [(E 0, .int), (E 1, .long), (E 2, .boolean), (E 3, .array .int), (E 4, .object "ThrownVoices$State")]
def CX (p : Program) (s : State) (m : MethodId) (args : Array Value) (meth : Method) (c : Code) (cc : ByteArray) (nL : Nat) (own : String) (D : va_G) (E : Nat → ClassId) (cl : List vw_C) (Ext : State → Prop) (A : Nat → Prop) : Prop :=
  p.tables.exec = Jvm.exec ∧ c.code = cc ∧ c.maxLocals = nL ∧ s.vm.findClass own = some m.cls ∧ (∀ w ∈ gws, w.before args s = true) ∧ va_K D cl (tysOf E) s ∧ meth.locks = false ∧
  (∀ U : State, s.WarmedH U.vm → s.heap.size ≤ U.heap.size → (∀ q, q < s.heap.size → ¬ A q → U.heap[q]? = s.heap[q]?) → Ext U)
def WX (p : Program) (l : Launch) (e : Env) (R : Room) (s : State) (m : MethodId) (args : Array Value) (below : List Frame) (meth : Method) (c : Code) (nL : Nat) (D : va_G) (E : Nat → ClassId) (cl : List vw_C) (sh : Shp) (b n : Nat) (Rf : Nat → Nat → Nat) (Q : State → Prop)
    (M : Mem) (pc : Nat) (lv : List (Nat × Value)) (st : List Value) : Prop :=
  ∀ (H : Heap) (locs : List Loc) (ls : Array Slot), va_P D cl (Wd E sh b n Rf M) H → va_S (AW b n) s.heap H locs → lv_has ls nL lv → W p l e R s m args below meth c H locs 0 0 Q (F0 m pc ls st)
