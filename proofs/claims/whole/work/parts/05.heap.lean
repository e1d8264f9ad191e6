/-! HEAP, CALLS, RETURNS over WX -/
theorem cellE_obj {E : Nat → ClassId} {b ci : Nat} {kds : List Nat} {rf : Nat → Nat} {m : Nat → Int} : cellE E b (ci + 4, kds) rf m = .inr (ci, kds.mapIdx (fun j kd => slotV b rf m j kd)) := rfl
theorem cellE_int {E : Nat → ClassId} {b L : Nat} {ls : List Nat} {rf : Nat → Nat} {m : Nat → Int} : cellE E b (0, L :: ls) rf m = .inl (E 0, L, .inl (fun i => Int32.ofInt (m i))) := rfl
theorem cellE_long {E : Nat → ClassId} {b L : Nat} {ls : List Nat} {rf : Nat → Nat} {m : Nat → Int} : cellE E b (1, L :: ls) rf m = .inl (E 1, L, .inr (.inl (fun i => Int64.ofInt (m i)))) := rfl
theorem cellE_bool {E : Nat → ClassId} {b L : Nat} {ls : List Nat} {rf : Nat → Nat} {m : Nat → Int} : cellE E b (2, L :: ls) rf m = .inl (E 2, L, .inl (fun i => Int32.ofInt (m i))) := rfl
theorem mapIdx_at {kds : List Nat} {b : Nat} {rf : Nat → Nat} {m : Nat → Int} {j kd : Nat} (h : kds[j]? = some kd) : (kds.mapIdx (fun j kd => slotV b rf m j kd))[j]? = some (slotV b rf m j kd) := by
  simp [h]
/-- what a getfield or putfield links -/
def FL (cl : List vw_C) (own : String) (idx ci j : Nat) : Prop :=
  ∃ (C : String) (T : u_T) (N : Nat), cl[ci]? = some (C, T, N) ∧ j < N ∧ (∀ w ∈ u_ws C T N, w ∈ gws) ∧ Cond.fieldLink own idx (T j).1 (T j).2.1 (T j).2.2.1 ∈ gws
/-- what is known of a class's fields: types, names apart -/
def FT (cl : List vw_C) (ci : Nat) : Prop :=
  ∃ (C : String) (T : u_T) (N : Nat) (ty : Nat → FieldType), cl[ci]? = some (C, T, N) ∧ (∀ k, k < N → parseFieldDescriptor (T k).2.2.1 = some (ty k)) ∧ (∀ a, a < N → ∀ b, b < N → a ≠ b → (T a).2.1 ≠ (T b).2.1)
/-- a field that may be written, and its type -/
def FW (cl : List vw_C) (ci j : Nat) (ty : FieldType) : Prop :=
  ∃ (C : String) (T : u_T) (N : Nat), cl[ci]? = some (C, T, N) ∧ (T j).2.2.2 = false ∧ parseFieldDescriptor (T j).2.2.1 = some ty
theorem bool01 {x : Int} (h : x = 0 ∨ x = 1) : narrow .boolean (vI x) = vI x ∧ fits .boolean (vI x) = true ∧ vp_nar .boolean (Int32.ofInt x) = Int32.ofInt x := by
  rcases h with rfl | rfl <;> exact ⟨by decide +kernel, by decide +kernel, by decide +kernel⟩
section HEAP
variable {p : Program} {l : Launch} {e : Env} {R : Room} {s : State} {m : MethodId} {args : Array Value} {below : List Frame} {meth : Method} {c : Code} {cc : ByteArray} {nL : Nat} {own : String} {D : va_G} {E : Nat → ClassId} {cl : List vw_C} {sh : Shp} {b n : Nat} {Rf : Nat → Nat → Nat} {Q : State → Prop} {Ext : State → Prop} {M M1 : Mem} {pc : Nat} {lv : List (Nat × Value)} {rest : List Value}
theorem r_getV (C : CX p s m args meth c cc nL own D E cl Ext (AW b n)) {idx ci j k kd : Nat} {kds : List Nat} (hf : FL cl own idx ci j) (hs : sh k = (ci + 4, kds)) (hk : k < n) (hj : kds[j]? = some kd) {v : Value} (hv : slotV b (Rf k) (M k) j kd = v) (d : decode cc pc = .ok (.getfield idx, 3))
    (kk : WX p l e R s m args below meth c nL D E cl sh b n Rf Q M (pc + 3) lv (v :: rest)) : WX p l e R s m args below meth c nL D E cl sh b n Rf Q M pc lv (vR b k :: rest) := by
  intro H locs ls hP hS hl
  obtain ⟨C1, T, N, h1, h2, h3, h4⟩ := hf
  have he : (Wd E sh b n Rf M)[k]? = some (b + k, .inr (ci, kds.mapIdx (fun j kd => slotV b (Rf k) (M k) j kd))) := by rw [Wd_at hk, hs, cellE_obj]
  exact va_get C.1 C.2.1 C.2.2.2.2.1 h3 C.2.2.2.1 C.2.2.2.2.2.1 hP k he h1 j h2 (C.2.2.2.2.1 _ h4) (fun _ h => h) (by rw [mapIdx_at hj, hv]) d (kk H locs ls hP hS hl)
theorem r_getI (C : CX p s m args meth c cc nL own D E cl Ext (AW b n)) {idx ci j k : Nat} {kds : List Nat} (hf : FL cl own idx ci j) (hs : sh k = (ci + 4, kds)) (hk : k < n) (hj : kds[j]? = some 0) (d : decode cc pc = .ok (.getfield idx, 3))
    (kk : WX p l e R s m args below meth c nL D E cl sh b n Rf Q M (pc + 3) lv (vI (M k j) :: rest)) : WX p l e R s m args below meth c nL D E cl sh b n Rf Q M pc lv (vR b k :: rest) := r_getV C hf hs hk hj rfl d kk
theorem r_getZ (C : CX p s m args meth c cc nL own D E cl Ext (AW b n)) {idx ci j k : Nat} {kds : List Nat} (hf : FL cl own idx ci j) (hs : sh k = (ci + 4, kds)) (hk : k < n) (hj : kds[j]? = some 3) (d : decode cc pc = .ok (.getfield idx, 3))
    (kk : WX p l e R s m args below meth c nL D E cl sh b n Rf Q M (pc + 3) lv (vI (M k j) :: rest)) : WX p l e R s m args below meth c nL D E cl sh b n Rf Q M pc lv (vR b k :: rest) := r_getV C hf hs hk hj rfl d kk
theorem r_getL (C : CX p s m args meth c cc nL own D E cl Ext (AW b n)) {idx ci j k : Nat} {kds : List Nat} (hf : FL cl own idx ci j) (hs : sh k = (ci + 4, kds)) (hk : k < n) (hj : kds[j]? = some 1) (d : decode cc pc = .ok (.getfield idx, 3))
    (kk : WX p l e R s m args below meth c nL D E cl sh b n Rf Q M (pc + 3) lv (vL (M k j) :: rest)) : WX p l e R s m args below meth c nL D E cl sh b n Rf Q M pc lv (vR b k :: rest) := r_getV C hf hs hk hj rfl d kk
theorem r_getR (C : CX p s m args meth c cc nL own D E cl Ext (AW b n)) {idx ci j k r : Nat} {kds : List Nat} (hf : FL cl own idx ci j) (hs : sh k = (ci + 4, kds)) (hk : k < n) (hj : kds[j]? = some 2) (hr : Rf k j = r + 1) (d : decode cc pc = .ok (.getfield idx, 3))
    (kk : WX p l e R s m args below meth c nL D E cl sh b n Rf Q M (pc + 3) lv (vR b r :: rest)) : WX p l e R s m args below meth c nL D E cl sh b n Rf Q M pc lv (vR b k :: rest) := r_getV C hf hs hk hj (by show va_rf (rO b (Rf k j)) = _; rw [hr]; rfl) d kk
theorem r_putV (C : CX p s m args meth c cc nL own D E cl Ext (AW b n)) {idx ci j k kd : Nat} {kds : List Nat} (hf : FL cl own idx ci j) (ht : FT cl ci) {ty : FieldType} (hw : FW cl ci j ty) (hs : sh k = (ci + 4, kds)) (hk : k < n) (hj : kds[j]? = some kd) {v : Value} {x : Int} (hv : ∀ mm : Nat → Int, slotV b (Rf k) mm j kd = v ↔ slotV b (Rf k) mm j kd = v) (hx : ∀ mm : Nat → Int, mm j = x → slotV b (Rf k) mm j kd = v) (hn : narrow ty v = v) (hfit : fits ty v = true) (hM : M1 = upM M k j x) (d : decode cc pc = .ok (.putfield idx, 3))
    (kk : WX p l e R s m args below meth c nL D E cl sh b n Rf Q M1 (pc + 3) lv rest) : WX p l e R s m args below meth c nL D E cl sh b n Rf Q M pc lv (v :: vR b k :: rest) := by
  intro H locs ls hP hS hl
  obtain ⟨C1, T, N, h1, h2, h3, h4⟩ := hf
  obtain ⟨C2, T2, N2, ty0, g1, g2, g3⟩ := ht
  cases h1.symm.trans g1
  obtain ⟨C3, T3, N3, w1, w2, w3⟩ := hw
  cases h1.symm.trans w1
  have he : (Wd E sh b n Rf M)[k]? = some (b + k, .inr (ci, kds.mapIdx (fun j kd => slotV b (Rf k) (M k) j kd))) := by rw [Wd_at hk, hs, cellE_obj]
  refine va_put C.1 C.2.1 C.2.2.2.2.1 h3 ty0 g2 g3 C.2.2.2.1 C.2.2.2.2.2.1 hP Wd_D hS k he h1 j h2 (C.2.2.2.2.1 _ h4) (fun _ h => h) w2 w3 hn hfit (by rw [List.length_mapIdx]; exact (List.getElem?_eq_some_iff.mp hj).1) d ?_
  intro H1 locs1 hP1 _ hS1
  rw [mapIdx_set (m' := upM M k j x k) hj (hx _ (by rw [upM_self, if_pos rfl])) (fun i hi => by rw [upM_self, if_neg hi]), Wd_set (by rw [hs, cellE_obj])] at hP1
  rw [← hM] at hP1
  exact kk H1 locs1 ls hP1 hS1 hl
theorem r_putI (C : CX p s m args meth c cc nL own D E cl Ext (AW b n)) {idx ci j k : Nat} {kds : List Nat} (hf : FL cl own idx ci j) (ht : FT cl ci) (hw : FW cl ci j .int) (hs : sh k = (ci + 4, kds)) (hk : k < n) (hj : kds[j]? = some 0) {x : Int} (hM : M1 = upM M k j x) (d : decode cc pc = .ok (.putfield idx, 3))
    (kk : WX p l e R s m args below meth c nL D E cl sh b n Rf Q M1 (pc + 3) lv rest) : WX p l e R s m args below meth c nL D E cl sh b n Rf Q M pc lv (vI x :: vR b k :: rest) :=
  r_putV C hf ht hw hs hk hj (fun _ => Iff.rfl) (fun mm h => by show vI (mm j) = _; rw [h]) rfl rfl hM d kk
theorem r_putZ (C : CX p s m args meth c cc nL own D E cl Ext (AW b n)) {idx ci j k : Nat} {kds : List Nat} (hf : FL cl own idx ci j) (ht : FT cl ci) (hw : FW cl ci j .boolean) (hs : sh k = (ci + 4, kds)) (hk : k < n) (hj : kds[j]? = some 3) {x : Int} (hx : x = 0 ∨ x = 1) (hM : M1 = upM M k j x) (d : decode cc pc = .ok (.putfield idx, 3))
    (kk : WX p l e R s m args below meth c nL D E cl sh b n Rf Q M1 (pc + 3) lv rest) : WX p l e R s m args below meth c nL D E cl sh b n Rf Q M pc lv (vI x :: vR b k :: rest) :=
  r_putV C hf ht hw hs hk hj (fun _ => Iff.rfl) (fun mm h => by show vI (mm j) = _; rw [h]) (bool01 hx).1 (bool01 hx).2.1 hM d kk
theorem r_putL (C : CX p s m args meth c cc nL own D E cl Ext (AW b n)) {idx ci j k : Nat} {kds : List Nat} (hf : FL cl own idx ci j) (ht : FT cl ci) (hw : FW cl ci j .long) (hs : sh k = (ci + 4, kds)) (hk : k < n) (hj : kds[j]? = some 1) {x : Int} (hM : M1 = upM M k j x) (d : decode cc pc = .ok (.putfield idx, 3))
    (kk : WX p l e R s m args below meth c nL D E cl sh b n Rf Q M1 (pc + 3) lv rest) : WX p l e R s m args below meth c nL D E cl sh b n Rf Q M pc lv (vL x :: vR b k :: rest) :=
  r_putV C hf ht hw hs hk hj (fun _ => Iff.rfl) (fun mm h => by show vL (mm j) = _; rw [h]) rfl rfl hM d kk
theorem r_iald (C : CX p s m args meth c cc nL own D E cl Ext (AW b n)) {k L : Nat} {tl : List Nat} (hs : sh k = (0, L :: tl)) (hk : k < n) (hL : L ≤ 2147483647) {i : Int} (hi : 0 ≤ i ∧ i < (L : Int)) {iN : Nat} (hN : i.toNat = iN) (d : decode cc pc = .ok (.iaload, 1))
    (kk : WX p l e R s m args below meth c nL D E cl sh b n Rf Q M (pc + 1) lv (vI (M k iN) :: rest)) : WX p l e R s m args below meth c nL D E cl sh b n Rf Q M pc lv (vI i :: vR b k :: rest) := by
  subst hN
  intro H locs ls hP hS hl
  have he : (Wd E sh b n Rf M)[k]? = some (b + k, .inl (E 0, L, .inl (fun i => Int32.ofInt (M k i)))) := by rw [Wd_at hk, hs, cellE_int]
  obtain ⟨q1, q2⟩ := I_clamp hi hL
  refine va_iald C.1 C.2.1 C.2.2.2.2.2.1 hP k 0 he rfl q2 d ?_
  rw [q1]
  exact kk H locs ls hP hS hl
theorem r_iast (C : CX p s m args meth c cc nL own D E cl Ext (AW b n)) {k L : Nat} {tl : List Nat} (hs : sh k = (0, L :: tl)) (hk : k < n) (hL : L ≤ 2147483647) {i x : Int} (hi : 0 ≤ i ∧ i < (L : Int)) {iN : Nat} (hN : i.toNat = iN) (hM : M1 = upM M k iN x) (d : decode cc pc = .ok (.iastore, 1))
    (kk : WX p l e R s m args below meth c nL D E cl sh b n Rf Q M1 (pc + 1) lv rest) : WX p l e R s m args below meth c nL D E cl sh b n Rf Q M pc lv (vI x :: vI i :: vR b k :: rest) := by
  subst hN
  intro H locs ls hP hS hl
  have he : (Wd E sh b n Rf M)[k]? = some (b + k, .inl (E 0, L, .inl (fun i => Int32.ofInt (M k i)))) := by rw [Wd_at hk, hs, cellE_int]
  obtain ⟨q1, q2⟩ := I_clamp hi hL
  refine va_iast C.1 C.2.1 C.2.2.2.2.2.1 hP Wd_D hS k 0 he rfl q2 d ?_
  intro H1 locs1 hP1 _ hS1
  rw [q1, show (upd (fun i => Int32.ofInt (M k i)) i.toNat (Int32.ofInt x)) = (fun j => Int32.ofInt (upM M k i.toNat x k j)) from by
    funext j
    rw [upM_self]
    unfold upd
    by_cases h : j = i.toNat <;> simp [h], Wd_set (by rw [hs, cellE_int])] at hP1
  rw [← hM] at hP1
  exact kk H1 locs1 ls hP1 hS1 hl
theorem r_zald (C : CX p s m args meth c cc nL own D E cl Ext (AW b n)) {k L : Nat} {tl : List Nat} (hs : sh k = (2, L :: tl)) (hk : k < n) (hL : L ≤ 2147483647) {i : Int} (hi : 0 ≤ i ∧ i < (L : Int)) {iN : Nat} (hN : i.toNat = iN) (d : decode cc pc = .ok (.baload, 1))
    (kk : WX p l e R s m args below meth c nL D E cl sh b n Rf Q M (pc + 1) lv (vI (M k iN) :: rest)) : WX p l e R s m args below meth c nL D E cl sh b n Rf Q M pc lv (vI i :: vR b k :: rest) := by
  subst hN
  intro H locs ls hP hS hl
  have he : (Wd E sh b n Rf M)[k]? = some (b + k, .inl (E 2, L, .inl (fun i => Int32.ofInt (M k i)))) := by rw [Wd_at hk, hs, cellE_bool]
  obtain ⟨q1, q2⟩ := I_clamp hi hL
  refine va_zald C.1 C.2.1 C.2.2.2.2.2.1 hP k 2 he rfl q2 d ?_
  rw [q1]
  exact kk H locs ls hP hS hl
theorem r_zast (C : CX p s m args meth c cc nL own D E cl Ext (AW b n)) {k L : Nat} {tl : List Nat} (hs : sh k = (2, L :: tl)) (hk : k < n) (hL : L ≤ 2147483647) {i x : Int} (hi : 0 ≤ i ∧ i < (L : Int)) {iN : Nat} (hN : i.toNat = iN) (hx : x = 0 ∨ x = 1) (hM : M1 = upM M k iN x) (d : decode cc pc = .ok (.bastore, 1))
    (kk : WX p l e R s m args below meth c nL D E cl sh b n Rf Q M1 (pc + 1) lv rest) : WX p l e R s m args below meth c nL D E cl sh b n Rf Q M pc lv (vI x :: vI i :: vR b k :: rest) := by
  subst hN
  intro H locs ls hP hS hl
  have he : (Wd E sh b n Rf M)[k]? = some (b + k, .inl (E 2, L, .inl (fun i => Int32.ofInt (M k i)))) := by rw [Wd_at hk, hs, cellE_bool]
  obtain ⟨q1, q2⟩ := I_clamp hi hL
  refine va_zast C.1 C.2.1 C.2.2.2.2.2.1 hP Wd_D hS k 2 he rfl q2 d ?_
  intro H1 locs1 hP1 _ hS1
  rw [q1, (bool01 hx).2.2, show (upd (fun i => Int32.ofInt (M k i)) i.toNat (Int32.ofInt x)) = (fun j => Int32.ofInt (upM M k i.toNat x k j)) from by
    funext j
    rw [upM_self]
    unfold upd
    by_cases h : j = i.toNat <;> simp [h], Wd_set (by rw [hs, cellE_bool])] at hP1
  rw [← hM] at hP1
  exact kk H1 locs1 ls hP1 hS1 hl
theorem r_lald (C : CX p s m args meth c cc nL own D E cl Ext (AW b n)) {k L : Nat} {tl : List Nat} (hs : sh k = (1, L :: tl)) (hk : k < n) (hL : L ≤ 2147483647) {i : Int} (hi : 0 ≤ i ∧ i < (L : Int)) {iN : Nat} (hN : i.toNat = iN) (d : decode cc pc = .ok (.laload, 1))
    (kk : WX p l e R s m args below meth c nL D E cl sh b n Rf Q M (pc + 1) lv (vL (M k iN) :: rest)) : WX p l e R s m args below meth c nL D E cl sh b n Rf Q M pc lv (vI i :: vR b k :: rest) := by
  subst hN
  intro H locs ls hP hS hl
  have he : (Wd E sh b n Rf M)[k]? = some (b + k, .inl (E 1, L, .inr (.inl (fun i => Int64.ofInt (M k i))))) := by rw [Wd_at hk, hs, cellE_long]
  obtain ⟨q1, q2⟩ := I_clamp hi hL
  refine va_lald C.1 C.2.1 C.2.2.2.2.2.1 hP k 1 he rfl q2 d ?_
  rw [q1]
  exact kk H locs ls hP hS hl
theorem r_last (C : CX p s m args meth c cc nL own D E cl Ext (AW b n)) {k L : Nat} {tl : List Nat} (hs : sh k = (1, L :: tl)) (hk : k < n) (hL : L ≤ 2147483647) {i x : Int} (hi : 0 ≤ i ∧ i < (L : Int)) {iN : Nat} (hN : i.toNat = iN) (hM : M1 = upM M k iN x) (d : decode cc pc = .ok (.lastore, 1))
    (kk : WX p l e R s m args below meth c nL D E cl sh b n Rf Q M1 (pc + 1) lv rest) : WX p l e R s m args below meth c nL D E cl sh b n Rf Q M pc lv (vL x :: vI i :: vR b k :: rest) := by
  subst hN
  intro H locs ls hP hS hl
  have he : (Wd E sh b n Rf M)[k]? = some (b + k, .inl (E 1, L, .inr (.inl (fun i => Int64.ofInt (M k i))))) := by rw [Wd_at hk, hs, cellE_long]
  obtain ⟨q1, q2⟩ := I_clamp hi hL
  refine va_last C.1 C.2.1 C.2.2.2.2.2.1 hP Wd_D hS k 1 he rfl q2 d ?_
  intro H1 locs1 hP1 _ hS1
  rw [q1, show (vp_updL (fun i => Int64.ofInt (M k i)) i.toNat (Int64.ofInt x)) = (fun j => Int64.ofInt (upM M k i.toNat x k j)) from by
    funext j
    rw [upM_self]
    unfold vp_updL
    by_cases h : j = i.toNat <;> simp [h], Wd_set (by rw [hs, cellE_long])] at hP1
  rw [← hM] at hP1
  exact kk H1 locs1 ls hP1 hS1 hl
theorem r_alen (C : CX p s m args meth c cc nL own D E cl Ext (AW b n)) {k L : Nat} {tl : List Nat} (hs : sh k = (0, L :: tl)) (hk : k < n) (d : decode cc pc = .ok (.arraylength, 1))
    (kk : WX p l e R s m args below meth c nL D E cl sh b n Rf Q M (pc + 1) lv (vI (L : Int) :: rest)) : WX p l e R s m args below meth c nL D E cl sh b n Rf Q M pc lv (vR b k :: rest) := by
  intro H locs ls hP hS hl
  have he : (Wd E sh b n Rf M)[k]? = some (b + k, .inl (E 0, L, .inl (fun i => Int32.ofInt (M k i)))) := by rw [Wd_at hk, hs, cellE_int]
  exact va_alen C.1 C.2.1 C.2.2.2.2.2.1 hP k 0 he (ty := .int) rfl (v := Int32.ofInt (L : Int)) rfl d (kk H locs ls hP hS hl)
end HEAP
-- ===== contracts =====
def mkR (f lo : Nat) : Room := { frames := f, cells := 0, slots := 0, locals := lo }
def ExtOK (Ext : State → Prop) (A : Nat → Prop) : Prop := ∀ u U : State, Ext u → u.WarmedH U.vm → u.heap.size ≤ U.heap.size → (∀ q, q < u.heap.size → ¬ A q → U.heap[q]? = u.heap[q]?) → Ext U
def QQ (D : va_G) (cl : List vw_C) (E : Nat → ClassId) (sh : Shp) (b n : Nat) (Rf : Nat → Nat → Nat) (rv : Option Value) (M1 : Mem) : Array Value → State → Outcome → State → Prop :=
  fun _ st oc t => oc = .returned rv ∧ va_P D cl (Wd E sh b n Rf M1) t.heap ∧ va_F (AW b n) st t
def PP (avs : List Value) (D : va_G) (cl : List vw_C) (E : Nat → ClassId) (sh : Shp) (b n : Nat) (Rf : Nat → Nat → Nat) (Ext : State → Prop) (M : Mem) : Array Value → State → Prop :=
  va_Pc avs (fun U => va_P D cl (Wd E sh b n Rf M) U.heap ∧ va_K D cl (tysOf E) U ∧ Ext U)
def Ct (l : Launch) (y : MethodName) (cc : ByteArray) (nL : Nat) (ret : Option FieldType) (rf rl : Nat) (cl : List vw_C) (sh : Shp) (n : Nat) (Rf : Nat → Nat → Nat) (Ext : Nat → State → Prop) (avs : Nat → List Value) (M : Mem) (rv : Nat → Option Value) (M1 : Mem) : Prop :=
  ∀ (D : va_G) (E : Nat → ClassId) (b : Nat), Met l y (.code y cc nL ret :: gws) (mkR rf rl) (PP (avs b) D cl E sh b n Rf (Ext b) M) (QQ D cl E sh b n Rf (rv b) M1) 0 0 (AW b n)
/-- what a call links -/
def CLV (own : String) (idx : Nat) (y : MethodName) (yc : ByteArray) (yL : Nat) (yret : Option FieldType) (na : Nat) : Prop :=
  Cond.methodLink own idx y ∈ gws ∧ Cond.instanceMethod y ∈ gws ∧ Cond.selects y.cls y y ∈ gws ∧ Cond.initialized y.cls ∈ gws ∧ Cond.code y yc yL yret ∈ gws ∧ (y.cls ≠ "java/lang/invoke/MethodHandle" ∧ y.cls ≠ "java/lang/invoke/VarHandle") ∧ (parseMethodDescriptor y.desc).map (fun d => d.parameters.length) = some na
def CLS (own : String) (idx : Nat) (y : MethodName) (yc : ByteArray) (yL : Nat) (yret : Option FieldType) (na : Nat) : Prop :=
  Cond.methodLink own idx y ∈ gws ∧ Cond.static y ∈ gws ∧ Cond.initialized y.cls ∈ gws ∧ Cond.code y yc yL yret ∈ gws ∧ (y.cls ≠ "java/lang/invoke/MethodHandle" ∧ y.cls ≠ "java/lang/invoke/VarHandle") ∧ (parseMethodDescriptor y.desc).map (fun d => d.parameters.length) = some na
theorem gws_good {w : Cond} (h : w ∈ gws) : (w.onTables && w.keeps) = true ∨ ∃ ty, w = .arrayClass ty := good_of_word (List.mem_filter.mp h).2
theorem goodIn_gws {y : MethodName} {yc : ByteArray} {yL : Nat} {yret : Option FieldType} (h : Cond.code y yc yL yret ∈ gws) : GoodIn gws (.code y yc yL yret :: gws) := by
  intro w hw
  rcases List.mem_cons.mp hw with rfl | hw
  · exact ⟨h, gws_good h⟩
  · exact ⟨hw, gws_good hw⟩
theorem PP_blind {avs : List Value} {D : va_G} {cl : List vw_C} {E : Nat → ClassId} {sh : Shp} {b n : Nat} {Rf : Nat → Nat → Nat} {Ext : State → Prop} {M : Mem} (hE : ExtOK Ext (AW b n)) : FrameBlind (PP avs D cl E sh b n Rf Ext M) := by
  intro a U g mk h
  obtain ⟨h1, h2, h3, h4⟩ := h
  exact ⟨h1, h2, va_K.moved (u := U) (U := U.calling g mk a) (Vm.Alike.refl U.vm) h3, hE U (U.calling g mk a) h4 (State.WarmedH.refl U) (Nat.le_refl _) (fun _ _ _ => rfl)⟩
section CALL
variable {p : Program} {l : Launch} {e : Env} {R : Room} {s : State} {m : MethodId} {args : Array Value} {below : List Frame} {meth : Method} {c : Code} {cc : ByteArray} {nL : Nat} {own : String} {D : va_G} {E : Nat → ClassId} {cl : List vw_C} {sh : Shp} {b n : Nat} {Rf : Nat → Nat → Nat} {Q : State → Prop} {Ext : Nat → State → Prop} {M M1 : Mem} {pc : Nat} {lv : List (Nat × Value)} {rest st st1 : List Value}
theorem r_run {H : Heap} {locs : List Loc} {ls : Array Slot} {aa : Array Value} {rv : Option Value}
    (hr : va_Run p l e R s m args below meth c H locs 0 0 0 0 (F0 m pc ls st) rest (QQ D cl E sh b n Rf rv M1 aa) (AW b n)) (hS : va_S (AW b n) s.heap H locs) (hl : lv_has ls nL lv) (hst : rv.toList ++ rest = st1)
    (kk : WX p l e R s m args below meth c nL D E cl sh b n Rf Q M1 (pc + 3) lv st1) : W p l e R s m args below meth c H locs 0 0 Q (F0 m pc ls st) := by
  intro T hT X
  obtain ⟨v, st₀, t, T', L, h0, X', hL, e1, e2, ⟨hv, hb, hz, hk⟩, sq⟩ := hr T hT X
  have hv' : v = rv := by cases hv; rfl
  subst hv'
  rw [h0] at hz hk
  obtain ⟨t2, a1, b1⟩ := kk T'.heap (locs ++ L) ls (by rw [e1]; exact hb)
    ⟨Nat.le_trans hS.1 (by rw [e1]; exact hz), fun q h1 h2 => by rw [e1, hk q (Nat.lt_of_lt_of_le h1 hS.1) h2]; exact hS.2.1 q h1 h2, fun q hq => by
      rcases List.mem_append.mp hq with h | h
      · exact hS.2.2 q h
      · exact hL q h⟩ hl T' rfl X'
  rw [← hst] at a1
  exact ⟨t2, sq t2 a1, b1⟩
theorem pp_at (C : CX p s m args meth c cc nL own D E cl (Ext b) (AW b n)) {avs : List Value} {H : Heap} {locs : List Loc} (hP : va_P D cl (Wd E sh b n Rf M) H) (hS : va_S (AW b n) s.heap H locs) (U : State) (hU : U.heap = H) (hW : s.WarmedH U.vm) : PP avs D cl E sh b n Rf (Ext b) M avs.toArray U :=
  ⟨rfl, by rw [hU]; exact hP, va_K.moved hW.alike C.2.2.2.2.2.1, C.2.2.2.2.2.2.2 U hW (by rw [hU]; exact hS.1) (fun q h1 h2 => by rw [hU]; exact hS.2.1 q h1 h2)⟩
theorem r_callV (C : CX p s m args meth c cc nL own D E cl (Ext b) (AW b n)) (hE : ExtOK (Ext b) (AW b n)) {idx yL rf rl k ci na : Nat} {y : MethodName} {yc : ByteArray} {yret : Option FieldType} {avs : Nat → List Value} {rv : Nat → Option Value} {kds : List Nat} {q : vw_C} (As : List Value)
    (hM : Ct l y yc yL yret rf rl cl sh n Rf Ext avs M rv M1) (hc : CLV own idx y yc yL yret na) (hs : sh k = (ci + 4, kds)) (hk : k < n) (hcl : cl[ci]? = some q) (hq : q.1 = y.cls) (hav : avs b = vR b k :: As) (hna : As.length = na) (hR : rf + 1 ≤ R.frames ∧ 8 + (yL + 11) + rl ≤ R.locals) (hrest : (rest.map fun v => v.category).sum ≤ 8)
    (hst : st = As.reverse ++ vR b k :: rest) (hst1 : (rv b).toList ++ rest = st1) (d : decode cc pc = .ok (.invokevirtual idx, 3))
    (kk : WX p l e R s m args below meth c nL D E cl sh b n Rf Q M1 (pc + 3) lv st1) : WX p l e R s m args below meth c nL D E cl sh b n Rf Q M pc lv st := by
  intro H locs ls hP hS hl
  subst hst
  obtain ⟨c1, c2, c3, c4, c5, c6, c7⟩ := hc
  have ok : ∀ w ∈ gws, w.before args s = true := C.2.2.2.2.1
  have he : (Wd E sh b n Rf M)[k]? = some (b + k, .inr (ci, kds.mapIdx (fun j kd => slotV b (Rf k) (M k) j kd))) := by rw [Wd_at hk, hs, cellE_obj]
  have hM' := hM D E b
  rw [hav] at hM'
  refine r_run (va_runV (As := As) (rest := rest) (C := y.cls) (n := na) ⟨C.1, C.2.1, C.2.2.1, C.2.2.2.1, ok⟩ hM' ⟨⟨rfl, rfl, hR.1, hR.2, pay_in ok (goodIn_gws c5), List.mem_cons_self, ok _ c5, ok _ c4, c6, fun sig h => ?_, ok _ c1⟩, ok _ c2, ok _ c3⟩ ⟨PP_blind hE, ?_, fun U hU hW => pp_at C hP hS U hU hW⟩ rfl hna hl.1 rfl (lv_room hrest) d ⟨Nat.zero_le _, Nat.zero_le _⟩) hS hl hst1 kk
  · rw [h] at c7
    exact (Option.some.inj c7).symm
  · have h := va_recv C.2.2.2.2.2.1 hP hcl he
    rw [hq] at h
    exact h
theorem r_callS (C : CX p s m args meth c cc nL own D E cl (Ext b) (AW b n)) (hE : ExtOK (Ext b) (AW b n)) {idx yL rf rl na : Nat} {y : MethodName} {yc : ByteArray} {yret : Option FieldType} {avs : Nat → List Value} {rv : Nat → Option Value} (As : List Value)
    (hM : Ct l y yc yL yret rf rl cl sh n Rf Ext avs M rv M1) (hc : CLS own idx y yc yL yret na) (hav : avs b = As) (hna : As.length = na) (hR : rf + 1 ≤ R.frames ∧ 8 + (yL + 11) + rl ≤ R.locals) (hrest : (rest.map fun v => v.category).sum ≤ 8)
    (hst : st = As.reverse ++ rest) (hst1 : (rv b).toList ++ rest = st1) (d : decode cc pc = .ok (.invokestatic idx, 3))
    (kk : WX p l e R s m args below meth c nL D E cl sh b n Rf Q M1 (pc + 3) lv st1) : WX p l e R s m args below meth c nL D E cl sh b n Rf Q M pc lv st := by
  intro H locs ls hP hS hl
  subst hst
  obtain ⟨c1, c2, c4, c5, c6, c7⟩ := hc
  have ok : ∀ w ∈ gws, w.before args s = true := C.2.2.2.2.1
  have hM' := hM D E b
  rw [hav] at hM'
  refine r_run (va_runS (As := As) (rest := rest) (n := na) ⟨C.1, C.2.1, C.2.2.1, C.2.2.2.1, ok⟩ hM' ⟨⟨rfl, rfl, hR.1, hR.2, pay_in ok (goodIn_gws c5), List.mem_cons_self, ok _ c5, ok _ c4, c6, fun sig h => ?_, ok _ c1⟩, ok _ c2⟩ ⟨PP_blind hE, fun U hU hW => pp_at C hP hS U hU hW⟩ rfl hna hl.1 rfl (lv_room hrest) d ⟨Nat.zero_le _, Nat.zero_le _⟩) hS hl hst1 kk
  rw [h] at c7
  exact (Option.some.inj c7).symm
-- returns
theorem r_iret (C : CX p s m args meth c cc nL own D E cl (Ext b) (AW b n)) {x : Int} {rv : Option Value} (hr : meth.sig.returnType = some .int) (hrv : rv = some (vI x)) (hM : M1 = M) (d : decode cc pc = .ok (.ireturn, 1)) :
    WX p l e R s m args below meth c nL D E cl sh b n Rf (MQ below (QQ D cl E sh b n Rf rv M1) args s 0 0 (AW b n)) M pc lv [vI x] := by
  intro H locs ls hP hS hl
  subst hrv; subst hM
  exact W.iret C.1 C.2.1 hr (fun t ht _ => ⟨rfl, by rw [ht]; exact hP, hS.F ht⟩) hS.2.2 d C.2.2.2.2.2.2.1
theorem r_zret (C : CX p s m args meth c cc nL own D E cl (Ext b) (AW b n)) {x : Int} {rv : Option Value} (hr : meth.sig.returnType = some .boolean) (hx : x = 0 ∨ x = 1) (hrv : rv = some (vI x)) (hM : M1 = M) (d : decode cc pc = .ok (.ireturn, 1)) :
    WX p l e R s m args below meth c nL D E cl sh b n Rf (MQ below (QQ D cl E sh b n Rf rv M1) args s 0 0 (AW b n)) M pc lv [vI x] := by
  intro H locs ls hP hS hl
  subst hrv; subst hM
  exact W.zret C.1 C.2.1 hr (bool01 hx).1 (fun t ht _ => ⟨rfl, by rw [ht]; exact hP, hS.F ht⟩) hS.2.2 d C.2.2.2.2.2.2.1
theorem r_lret (C : CX p s m args meth c cc nL own D E cl (Ext b) (AW b n)) {x : Int} {rv : Option Value} (hr : meth.sig.returnType = some .long) (hrv : rv = some (vL x)) (hM : M1 = M) (d : decode cc pc = .ok (.lreturn, 1)) :
    WX p l e R s m args below meth c nL D E cl sh b n Rf (MQ below (QQ D cl E sh b n Rf rv M1) args s 0 0 (AW b n)) M pc lv [vL x] := by
  intro H locs ls hP hS hl
  subst hrv; subst hM
  exact W.lret C.1 C.2.1 hr (fun t ht _ => ⟨rfl, by rw [ht]; exact hP, hS.F ht⟩) hS.2.2 d C.2.2.2.2.2.2.1
theorem r_vret (C : CX p s m args meth c cc nL own D E cl (Ext b) (AW b n)) {rv : Option Value} (hr : meth.sig.returnType = none) (hrv : rv = none) (hM : M1 = M) (d : decode cc pc = .ok (.return_, 1)) :
    WX p l e R s m args below meth c nL D E cl sh b n Rf (MQ below (QQ D cl E sh b n Rf rv M1) args s 0 0 (AW b n)) M pc lv [] := by
  intro H locs ls hP hS hl
  subst hrv; subst hM
  exact W.vret C.1 C.2.1 hr (fun t ht _ => ⟨rfl, by rw [ht]; exact hP, hS.F ht⟩) hS.2.2 d C.2.2.2.2.2.2.1
end CALL
/-- a contract out of the walk of its body -/
theorem Ct_of {l : Launch} {y : MethodName} {cc : ByteArray} {nL : Nat} {ret : Option FieldType} {rf rl : Nat} {cl : List vw_C} {sh : Shp} {n : Nat} {Rf : Nat → Nat → Nat} {Ext : Nat → State → Prop} {avs : Nat → List Value} {M : Mem} {rv : Nat → Option Value} {M1 : Mem}
    (hE : ∀ b, ExtOK (Ext b) (AW b n)) (hy : plainName y.cls = true) (hlen : ∀ b, (lg_sl (avs b)).length ≤ nL)
    (body : ∀ (p : Program) (e : Env) (s : State) (m : MethodId) (args : Array Value) (below : List Frame) (meth : Method) (c : Code) (D : va_G) (E : Nat → ClassId) (b : Nat), CX p s m args meth c cc nL y.cls D E cl (Ext b) (AW b n) → meth.sig.returnType = ret →
      WX p l e (mkR rf rl) s m args below meth c nL D E cl sh b n Rf (MQ below (QQ D cl E sh b n Rf (rv b) M1) args s 0 0 (AW b n)) M 0 (lv_args 0 (avs b)) []) :
    Ct l y cc nL ret rf rl cl sh n Rf Ext avs M rv M1 := by
  intro D E b
  refine Met.ofW (cc := cc) (maxL := nL) (ret := ret) hy rfl ?_
  intro p e s m args below meth c s₁ B hml hv
  obtain ⟨ha, hP, hK, hX⟩ := hv
  subst ha
  rw [lg_entry_eq]
  have hts : ∀ w ∈ gws, w.before (avs b).toArray s = true := fun w hw => atoms_spec (ws := .code y cc nL ret :: gws) B.pre w (List.mem_cons_of_mem _ hw)
  exact body p e s m (avs b).toArray below meth c D E b ⟨B.exec, B.bytes, hml, findClass_of_methodNamed B.named, hts, hK, B.notSynchronized, fun U h1 h2 h3 => hE b s U hX h1 h2 h3⟩ B.returns s.heap [] _ hP va_S.rf (lv_entry (avs b) (hlen b))
