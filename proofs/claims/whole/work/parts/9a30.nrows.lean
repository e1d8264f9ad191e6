/-! WORLDS THAT GROW: what a constructor has made so far; the places of references that still hold null -/
def Rfh (Rf : Nat → Nat → Nat) (hol : List (Nat × Nat)) : Nat → Nat → Nat := fun k j => if (k, j) ∈ hol then 0 else Rf k j
def WN (p : Program) (l : Launch) (e : Env) (R : Room) (s : State) (m : MethodId) (args : Array Value) (below : List Frame) (meth : Method) (c : Code) (nL : Nat) (D : va_G) (E : Nat → ClassId) (cl : List vw_C) (sh : Shp) (b : Nat) (Q : State → Prop)
    (n : Nat) (Rf : Nat → Nat → Nat) (M : Mem) (ce sl : Nat) (pc : Nat) (lv : List (Nat × Value)) (st : List Value) : Prop :=
  ∀ (H : Heap) (locs : List Loc) (ls : Array Slot), va_P D cl (Wd E sh b n Rf M) H → va_S (fun q => b ≤ q) s.heap H locs → lv_has ls nL lv → W p l e R s m args below meth c H locs ce sl Q (F0 m pc ls st)
section NROWS
variable {ce sl : Nat} {p : Program} {l : Launch} {e : Env} {R : Room} {s : State} {m : MethodId} {args : Array Value} {below : List Frame} {meth : Method} {c : Code} {cc : ByteArray} {nL : Nat} {own : String} {D : va_G} {E : Nat → ClassId} {cl : List vw_C} {sh : Shp} {b n : Nat} {Rf : Nat → Nat → Nat} {Q : State → Prop} {Ext : State → Prop} {M : Mem} {pc : Nat} {lv : List (Nat × Value)} {rest : List Value}
theorem n_iconst (C : CX p s m args meth c cc nL own D E cl Ext (fun q => b ≤ q)) {i : Int} (d : decode cc pc = .ok (.iconst i, 1)) (k : WN p l e R s m args below meth c nL D E cl sh b Q n Rf M ce sl (pc + 1) lv (vI i :: rest)) : WN p l e R s m args below meth c nL D E cl sh b Q n Rf M ce sl pc lv (rest) := by
  intro H locs ls hP hS hl
  refine lv_iconst C.1 C.2.1 d rfl ?_
  exact k H locs ls hP hS hl
theorem n_bipush (C : CX p s m args meth c cc nL own D E cl Ext (fun q => b ≤ q)) {i j : Int} (hi : (Int8.ofInt i).toInt32 = Int32.ofInt j) (d : decode cc pc = .ok (.bipush i, 2)) (k : WN p l e R s m args below meth c nL D E cl sh b Q n Rf M ce sl (pc + 2) lv (vI j :: rest)) : WN p l e R s m args below meth c nL D E cl sh b Q n Rf M ce sl pc lv (rest) := by
  intro H locs ls hP hS hl
  refine lv_bipush C.1 C.2.1 d hi ?_
  exact k H locs ls hP hS hl
theorem n_sipush (C : CX p s m args meth c cc nL own D E cl Ext (fun q => b ≤ q)) {i j : Int} (hi : (Int16.ofInt i).toInt32 = Int32.ofInt j) (d : decode cc pc = .ok (.sipush i, 3)) (k : WN p l e R s m args below meth c nL D E cl sh b Q n Rf M ce sl (pc + 3) lv (vI j :: rest)) : WN p l e R s m args below meth c nL D E cl sh b Q n Rf M ce sl pc lv (rest) := by
  intro H locs ls hP hS hl
  refine lv_sipush C.1 C.2.1 d hi ?_
  exact k H locs ls hP hS hl
theorem n_lconst (C : CX p s m args meth c cc nL own D E cl Ext (fun q => b ≤ q)) {i : Fin 2} {j : Int} (hi : Int64.ofNat (i : Nat) = Int64.ofInt j) (d : decode cc pc = .ok (.lconst i, 1)) (k : WN p l e R s m args below meth c nL D E cl sh b Q n Rf M ce sl (pc + 1) lv (vL j :: rest)) : WN p l e R s m args below meth c nL D E cl sh b Q n Rf M ce sl pc lv (rest) := by
  intro H locs ls hP hS hl
  refine lv_lconst C.1 C.2.1 d hi ?_
  exact k H locs ls hP hS hl
theorem n_ldc (C : CX p s m args meth c cc nL own D E cl Ext (fun q => b ≤ q)) {i : Nat} {v : Int32} {j : Int} (hi : v = Int32.ofInt j) (hc : Cond.constant own i v ∈ gws) (d : decode cc pc = .ok (.ldc i, 2)) (k : WN p l e R s m args below meth c nL D E cl sh b Q n Rf M ce sl (pc + 2) lv (vI j :: rest)) : WN p l e R s m args below meth c nL D E cl sh b Q n Rf M ce sl pc lv (rest) := by
  intro H locs ls hP hS hl
  subst hi
  refine lv_ldc C.1 C.2.1 C.2.2.2.1 (C.2.2.2.2.1 _ hc) d ?_
  exact k H locs ls hP hS hl
theorem n_ldcw (C : CX p s m args meth c cc nL own D E cl Ext (fun q => b ≤ q)) {i : Nat} {v : Int32} {j : Int} (hi : v = Int32.ofInt j) (hc : Cond.constant own i v ∈ gws) (d : decode cc pc = .ok (.ldc_w i, 3)) (k : WN p l e R s m args below meth c nL D E cl sh b Q n Rf M ce sl (pc + 3) lv (vI j :: rest)) : WN p l e R s m args below meth c nL D E cl sh b Q n Rf M ce sl pc lv (rest) := by
  intro H locs ls hP hS hl
  subst hi
  refine lv_ldcw C.1 C.2.1 C.2.2.2.1 (C.2.2.2.2.1 _ hc) d ?_
  exact k H locs ls hP hS hl
theorem n_ldc2 (C : CX p s m args meth c cc nL own D E cl Ext (fun q => b ≤ q)) {i : Nat} {v : Int64} {j : Int} (hi : v = Int64.ofInt j) (hc : Cond.constantLong own i v ∈ gws) (d : decode cc pc = .ok (.ldc2_w i, 3)) (k : WN p l e R s m args below meth c nL D E cl sh b Q n Rf M ce sl (pc + 3) lv (vL j :: rest)) : WN p l e R s m args below meth c nL D E cl sh b Q n Rf M ce sl pc lv (rest) := by
  intro H locs ls hP hS hl
  subst hi
  refine lv_ldc2 C.1 C.2.1 C.2.2.2.1 (C.2.2.2.2.1 _ hc) d ?_
  exact k H locs ls hP hS hl
theorem n_iload_n (C : CX p s m args meth c cc nL own D E cl Ext (fun q => b ≤ q)) {q : Fin 4} {i : Nat} {x : Int} (t : Nat) (hk : lv[t]? = some (i, vI x)) (hi : (q : Nat) = i) (d : decode cc pc = .ok (.iload_n q, 1)) (k : WN p l e R s m args below meth c nL D E cl sh b Q n Rf M ce sl (pc + 1) lv (vI x :: rest)) : WN p l e R s m args below meth c nL D E cl sh b Q n Rf M ce sl pc lv (rest) := by
  intro H locs ls hP hS hl
  refine lv_iload_n C.1 C.2.1 d hi (lv_at hl t hk) ?_
  exact k H locs ls hP hS hl
theorem n_iload (C : CX p s m args meth c cc nL own D E cl Ext (fun q => b ≤ q)) {i : Nat} {x : Int} (t : Nat) (hk : lv[t]? = some (i, vI x)) (d : decode cc pc = .ok (.iload i, 2)) (k : WN p l e R s m args below meth c nL D E cl sh b Q n Rf M ce sl (pc + 2) lv (vI x :: rest)) : WN p l e R s m args below meth c nL D E cl sh b Q n Rf M ce sl pc lv (rest) := by
  intro H locs ls hP hS hl
  refine lv_iload C.1 C.2.1 d (lv_at hl t hk) ?_
  exact k H locs ls hP hS hl
theorem n_lload_n (C : CX p s m args meth c cc nL own D E cl Ext (fun q => b ≤ q)) {q : Fin 4} {i : Nat} {x : Int} (t : Nat) (hk : lv[t]? = some (i, vL x)) (hi : (q : Nat) = i) (d : decode cc pc = .ok (.lload_n q, 1)) (k : WN p l e R s m args below meth c nL D E cl sh b Q n Rf M ce sl (pc + 1) lv (vL x :: rest)) : WN p l e R s m args below meth c nL D E cl sh b Q n Rf M ce sl pc lv (rest) := by
  intro H locs ls hP hS hl
  refine lv_lload_n C.1 C.2.1 d hi (lv_at hl t hk) ?_
  exact k H locs ls hP hS hl
theorem n_lload (C : CX p s m args meth c cc nL own D E cl Ext (fun q => b ≤ q)) {i : Nat} {x : Int} (t : Nat) (hk : lv[t]? = some (i, vL x)) (d : decode cc pc = .ok (.lload i, 2)) (k : WN p l e R s m args below meth c nL D E cl sh b Q n Rf M ce sl (pc + 2) lv (vL x :: rest)) : WN p l e R s m args below meth c nL D E cl sh b Q n Rf M ce sl pc lv (rest) := by
  intro H locs ls hP hS hl
  refine lv_lload C.1 C.2.1 d (lv_at hl t hk) ?_
  exact k H locs ls hP hS hl
theorem n_aload_n (C : CX p s m args meth c cc nL own D E cl Ext (fun q => b ≤ q)) {q : Fin 4} {i x : Nat} (t : Nat) (hk : lv[t]? = some (i, vR b x)) (hi : (q : Nat) = i) (d : decode cc pc = .ok (.aload_n q, 1)) (k : WN p l e R s m args below meth c nL D E cl sh b Q n Rf M ce sl (pc + 1) lv (vR b x :: rest)) : WN p l e R s m args below meth c nL D E cl sh b Q n Rf M ce sl pc lv (rest) := by
  intro H locs ls hP hS hl
  refine lv_aload_n C.1 C.2.1 d hi (lv_at hl t hk) ?_
  exact k H locs ls hP hS hl
theorem n_aload (C : CX p s m args meth c cc nL own D E cl Ext (fun q => b ≤ q)) {i x : Nat} (t : Nat) (hk : lv[t]? = some (i, vR b x)) (d : decode cc pc = .ok (.aload i, 2)) (k : WN p l e R s m args below meth c nL D E cl sh b Q n Rf M ce sl (pc + 2) lv (vR b x :: rest)) : WN p l e R s m args below meth c nL D E cl sh b Q n Rf M ce sl pc lv (rest) := by
  intro H locs ls hP hS hl
  refine lv_aload C.1 C.2.1 d (lv_at hl t hk) ?_
  exact k H locs ls hP hS hl
theorem n_istore_n (C : CX p s m args meth c cc nL own D E cl Ext (fun q => b ≤ q)) {q : Fin 4} {i : Nat} {x : Int} (hi : (q : Nat) = i) {lv' : List (Nat × Value)} (d : decode cc pc = .ok (.istore_n q, 1)) (hn : i < nL) (hv : (i, vI x) :: lv.filter (fun q => !(q.1 == i) && !(q.1 + 1 == i && q.2.category == 2)) = lv') (k : WN p l e R s m args below meth c nL D E cl sh b Q n Rf M ce sl (pc + 1) lv' (rest)) : WN p l e R s m args below meth c nL D E cl sh b Q n Rf M ce sl pc lv (vI x :: rest) := by
  intro H locs ls hP hS hl
  refine lv_istore_n (lv' := lv') C.1 C.2.1 d hi hl hn hv ?_
  exact fun ls' hl' => k H locs ls' hP hS hl'
theorem n_istore (C : CX p s m args meth c cc nL own D E cl Ext (fun q => b ≤ q)) {i : Nat} {x : Int} {lv' : List (Nat × Value)} (d : decode cc pc = .ok (.istore i, 2)) (hn : i < nL) (hv : (i, vI x) :: lv.filter (fun q => !(q.1 == i) && !(q.1 + 1 == i && q.2.category == 2)) = lv') (k : WN p l e R s m args below meth c nL D E cl sh b Q n Rf M ce sl (pc + 2) lv' (rest)) : WN p l e R s m args below meth c nL D E cl sh b Q n Rf M ce sl pc lv (vI x :: rest) := by
  intro H locs ls hP hS hl
  refine lv_istore (lv' := lv') C.1 C.2.1 d hl hn hv ?_
  exact fun ls' hl' => k H locs ls' hP hS hl'
theorem n_lstore_n (C : CX p s m args meth c cc nL own D E cl Ext (fun q => b ≤ q)) {q : Fin 4} {i : Nat} {x : Int} (hi : (q : Nat) = i) {lv' : List (Nat × Value)} (d : decode cc pc = .ok (.lstore_n q, 1)) (hn : i + 1 < nL) (hv : (i, vL x) :: lv.filter (fun q => !(q.1 == i) && (!(q.1 == i + 1) && !(q.1 + 1 == i && q.2.category == 2))) = lv') (k : WN p l e R s m args below meth c nL D E cl sh b Q n Rf M ce sl (pc + 1) lv' (rest)) : WN p l e R s m args below meth c nL D E cl sh b Q n Rf M ce sl pc lv (vL x :: rest) := by
  intro H locs ls hP hS hl
  refine lv_lstore_n (lv' := lv') C.1 C.2.1 d hi hl hn hv ?_
  exact fun ls' hl' => k H locs ls' hP hS hl'
theorem n_lstore (C : CX p s m args meth c cc nL own D E cl Ext (fun q => b ≤ q)) {i : Nat} {x : Int} {lv' : List (Nat × Value)} (d : decode cc pc = .ok (.lstore i, 2)) (hn : i + 1 < nL) (hv : (i, vL x) :: lv.filter (fun q => !(q.1 == i) && (!(q.1 == i + 1) && !(q.1 + 1 == i && q.2.category == 2))) = lv') (k : WN p l e R s m args below meth c nL D E cl sh b Q n Rf M ce sl (pc + 2) lv' (rest)) : WN p l e R s m args below meth c nL D E cl sh b Q n Rf M ce sl pc lv (vL x :: rest) := by
  intro H locs ls hP hS hl
  refine lv_lstore (lv' := lv') C.1 C.2.1 d hl hn hv ?_
  exact fun ls' hl' => k H locs ls' hP hS hl'
theorem n_astore_n (C : CX p s m args meth c cc nL own D E cl Ext (fun q => b ≤ q)) {q : Fin 4} {i : Nat} {x : Nat} (hi : (q : Nat) = i) {lv' : List (Nat × Value)} (d : decode cc pc = .ok (.astore_n q, 1)) (hn : i < nL) (hv : (i, vR b x) :: lv.filter (fun q => !(q.1 == i) && !(q.1 + 1 == i && q.2.category == 2)) = lv') (k : WN p l e R s m args below meth c nL D E cl sh b Q n Rf M ce sl (pc + 1) lv' (rest)) : WN p l e R s m args below meth c nL D E cl sh b Q n Rf M ce sl pc lv (vR b x :: rest) := by
  intro H locs ls hP hS hl
  refine lv_astore_n (lv' := lv') C.1 C.2.1 d hi hl hn hv ?_
  exact fun ls' hl' => k H locs ls' hP hS hl'
theorem n_astore (C : CX p s m args meth c cc nL own D E cl Ext (fun q => b ≤ q)) {i : Nat} {x : Nat} {lv' : List (Nat × Value)} (d : decode cc pc = .ok (.astore i, 2)) (hn : i < nL) (hv : (i, vR b x) :: lv.filter (fun q => !(q.1 == i) && !(q.1 + 1 == i && q.2.category == 2)) = lv') (k : WN p l e R s m args below meth c nL D E cl sh b Q n Rf M ce sl (pc + 2) lv' (rest)) : WN p l e R s m args below meth c nL D E cl sh b Q n Rf M ce sl pc lv (vR b x :: rest) := by
  intro H locs ls hP hS hl
  refine lv_astore (lv' := lv') C.1 C.2.1 d hl hn hv ?_
  exact fun ls' hl' => k H locs ls' hP hS hl'
theorem n_iinc (C : CX p s m args meth c cc nL own D E cl Ext (fun q => b ≤ q)) {i : Nat} {q x : Int} (t : Nat) (hk : lv[t]? = some (i, vI x)) {lv' : List (Nat × Value)} (d : decode cc pc = .ok (.iinc i q, 3)) (hn : i < nL) (hv : (i, vI (x + q)) :: lv.filter (fun q => !(q.1 == i) && !(q.1 + 1 == i && q.2.category == 2)) = lv') (k : WN p l e R s m args below meth c nL D E cl sh b Q n Rf M ce sl (pc + 3) lv' (rest)) : WN p l e R s m args below meth c nL D E cl sh b Q n Rf M ce sl pc lv (rest) := by
  intro H locs ls hP hS hl
  refine lv_iinc (lv' := lv') C.1 C.2.1 d hl hk (by rw [← Int32.ofInt_add]) hn hv ?_
  exact fun ls' hl' => k H locs ls' hP hS hl'
theorem n_iadd (C : CX p s m args meth c cc nL own D E cl Ext (fun q => b ≤ q)) {x y : Int} (d : decode cc pc = .ok (.iadd, 1)) (k : WN p l e R s m args below meth c nL D E cl sh b Q n Rf M ce sl (pc + 1) lv (vI (x + y) :: rest)) : WN p l e R s m args below meth c nL D E cl sh b Q n Rf M ce sl pc lv (vI y :: vI x :: rest) := by
  intro H locs ls hP hS hl
  refine lv_iadd C.1 C.2.1 d ?_
  rw [← Int32.ofInt_add]
  exact k H locs ls hP hS hl
theorem n_isub (C : CX p s m args meth c cc nL own D E cl Ext (fun q => b ≤ q)) {x y : Int} (d : decode cc pc = .ok (.isub, 1)) (k : WN p l e R s m args below meth c nL D E cl sh b Q n Rf M ce sl (pc + 1) lv (vI (x - y) :: rest)) : WN p l e R s m args below meth c nL D E cl sh b Q n Rf M ce sl pc lv (vI y :: vI x :: rest) := by
  intro H locs ls hP hS hl
  refine lv_isub C.1 C.2.1 d ?_
  rw [← Int32.ofInt_sub]
  exact k H locs ls hP hS hl
theorem n_imul (C : CX p s m args meth c cc nL own D E cl Ext (fun q => b ≤ q)) {x y : Int} (d : decode cc pc = .ok (.imul, 1)) (k : WN p l e R s m args below meth c nL D E cl sh b Q n Rf M ce sl (pc + 1) lv (vI (x * y) :: rest)) : WN p l e R s m args below meth c nL D E cl sh b Q n Rf M ce sl pc lv (vI y :: vI x :: rest) := by
  intro H locs ls hP hS hl
  refine lv_imul C.1 C.2.1 d ?_
  rw [← Int32.ofInt_mul]
  exact k H locs ls hP hS hl
theorem n_ladd (C : CX p s m args meth c cc nL own D E cl Ext (fun q => b ≤ q)) {x y : Int} (d : decode cc pc = .ok (.ladd, 1)) (k : WN p l e R s m args below meth c nL D E cl sh b Q n Rf M ce sl (pc + 1) lv (vL (x + y) :: rest)) : WN p l e R s m args below meth c nL D E cl sh b Q n Rf M ce sl pc lv (vL y :: vL x :: rest) := by
  intro H locs ls hP hS hl
  refine lv_ladd C.1 C.2.1 d ?_
  rw [← Int64.ofInt_add]
  exact k H locs ls hP hS hl
theorem n_lsub (C : CX p s m args meth c cc nL own D E cl Ext (fun q => b ≤ q)) {x y : Int} (d : decode cc pc = .ok (.lsub, 1)) (k : WN p l e R s m args below meth c nL D E cl sh b Q n Rf M ce sl (pc + 1) lv (vL (x - y) :: rest)) : WN p l e R s m args below meth c nL D E cl sh b Q n Rf M ce sl pc lv (vL y :: vL x :: rest) := by
  intro H locs ls hP hS hl
  refine lv_lsub C.1 C.2.1 d ?_
  rw [← Int64.ofInt_sub]
  exact k H locs ls hP hS hl
theorem n_lmul (C : CX p s m args meth c cc nL own D E cl Ext (fun q => b ≤ q)) {x y : Int} (d : decode cc pc = .ok (.lmul, 1)) (k : WN p l e R s m args below meth c nL D E cl sh b Q n Rf M ce sl (pc + 1) lv (vL (x * y) :: rest)) : WN p l e R s m args below meth c nL D E cl sh b Q n Rf M ce sl pc lv (vL y :: vL x :: rest) := by
  intro H locs ls hP hS hl
  refine lv_lmul C.1 C.2.1 d ?_
  rw [← Int64.ofInt_mul]
  exact k H locs ls hP hS hl
theorem n_iand (C : CX p s m args meth c cc nL own D E cl Ext (fun q => b ≤ q)) {x y : Int} (d : decode cc pc = .ok (.iand, 1)) (k : WN p l e R s m args below meth c nL D E cl sh b Q n Rf M ce sl (pc + 1) lv (vI (and32 x y) :: rest)) : WN p l e R s m args below meth c nL D E cl sh b Q n Rf M ce sl pc lv (vI y :: vI x :: rest) := by
  intro H locs ls hP hS hl
  refine lv_iand C.1 C.2.1 d ?_
  rw [← and32_of]
  exact k H locs ls hP hS hl
theorem n_ior (C : CX p s m args meth c cc nL own D E cl Ext (fun q => b ≤ q)) {x y : Int} (d : decode cc pc = .ok (.ior, 1)) (k : WN p l e R s m args below meth c nL D E cl sh b Q n Rf M ce sl (pc + 1) lv (vI (or32 x y) :: rest)) : WN p l e R s m args below meth c nL D E cl sh b Q n Rf M ce sl pc lv (vI y :: vI x :: rest) := by
  intro H locs ls hP hS hl
  refine lv_ior C.1 C.2.1 d ?_
  rw [← or32_of]
  exact k H locs ls hP hS hl
theorem n_ixor (C : CX p s m args meth c cc nL own D E cl Ext (fun q => b ≤ q)) {x y : Int} (d : decode cc pc = .ok (.ixor, 1)) (k : WN p l e R s m args below meth c nL D E cl sh b Q n Rf M ce sl (pc + 1) lv (vI (xor32 x y) :: rest)) : WN p l e R s m args below meth c nL D E cl sh b Q n Rf M ce sl pc lv (vI y :: vI x :: rest) := by
  intro H locs ls hP hS hl
  refine lv_ixor C.1 C.2.1 d ?_
  rw [← xor32_of]
  exact k H locs ls hP hS hl
theorem n_land (C : CX p s m args meth c cc nL own D E cl Ext (fun q => b ≤ q)) {x y : Int} (d : decode cc pc = .ok (.land, 1)) (k : WN p l e R s m args below meth c nL D E cl sh b Q n Rf M ce sl (pc + 1) lv (vL (and64 x y) :: rest)) : WN p l e R s m args below meth c nL D E cl sh b Q n Rf M ce sl pc lv (vL y :: vL x :: rest) := by
  intro H locs ls hP hS hl
  refine lv_land C.1 C.2.1 d ?_
  rw [← and64_of]
  exact k H locs ls hP hS hl
theorem n_lor (C : CX p s m args meth c cc nL own D E cl Ext (fun q => b ≤ q)) {x y : Int} (d : decode cc pc = .ok (.lor, 1)) (k : WN p l e R s m args below meth c nL D E cl sh b Q n Rf M ce sl (pc + 1) lv (vL (or64 x y) :: rest)) : WN p l e R s m args below meth c nL D E cl sh b Q n Rf M ce sl pc lv (vL y :: vL x :: rest) := by
  intro H locs ls hP hS hl
  refine lv_lor C.1 C.2.1 d ?_
  rw [← or64_of]
  exact k H locs ls hP hS hl
theorem n_ishl (C : CX p s m args meth c cc nL own D E cl Ext (fun q => b ≤ q)) {x y : Int} (d : decode cc pc = .ok (.ishl, 1)) (k : WN p l e R s m args below meth c nL D E cl sh b Q n Rf M ce sl (pc + 1) lv (vI (shl32 x y) :: rest)) : WN p l e R s m args below meth c nL D E cl sh b Q n Rf M ce sl pc lv (vI y :: vI x :: rest) := by
  intro H locs ls hP hS hl
  refine lv_ishl C.1 C.2.1 d ?_
  rw [← shl32_of]
  exact k H locs ls hP hS hl
theorem n_ishr (C : CX p s m args meth c cc nL own D E cl Ext (fun q => b ≤ q)) {x y : Int} (d : decode cc pc = .ok (.ishr, 1)) (k : WN p l e R s m args below meth c nL D E cl sh b Q n Rf M ce sl (pc + 1) lv (vI (shr32 x y) :: rest)) : WN p l e R s m args below meth c nL D E cl sh b Q n Rf M ce sl pc lv (vI y :: vI x :: rest) := by
  intro H locs ls hP hS hl
  refine lv_ishr C.1 C.2.1 d ?_
  rw [← shr32_of]
  exact k H locs ls hP hS hl
theorem n_iushr (C : CX p s m args meth c cc nL own D E cl Ext (fun q => b ≤ q)) {x y : Int} (d : decode cc pc = .ok (.iushr, 1)) (k : WN p l e R s m args below meth c nL D E cl sh b Q n Rf M ce sl (pc + 1) lv (vI (ushr32 x y) :: rest)) : WN p l e R s m args below meth c nL D E cl sh b Q n Rf M ce sl pc lv (vI y :: vI x :: rest) := by
  intro H locs ls hP hS hl
  refine lv_iushr C.1 C.2.1 d (ushr32_of x y).symm ?_
  exact k H locs ls hP hS hl
theorem n_lshl (C : CX p s m args meth c cc nL own D E cl Ext (fun q => b ≤ q)) {x y : Int} (d : decode cc pc = .ok (.lshl, 1)) (k : WN p l e R s m args below meth c nL D E cl sh b Q n Rf M ce sl (pc + 1) lv (vL (shl64 x y) :: rest)) : WN p l e R s m args below meth c nL D E cl sh b Q n Rf M ce sl pc lv (vI y :: vL x :: rest) := by
  intro H locs ls hP hS hl
  refine lv_lshl C.1 C.2.1 d (shl64_of x y).symm ?_
  exact k H locs ls hP hS hl
theorem n_lshr (C : CX p s m args meth c cc nL own D E cl Ext (fun q => b ≤ q)) {x y : Int} (d : decode cc pc = .ok (.lshr, 1)) (k : WN p l e R s m args below meth c nL D E cl sh b Q n Rf M ce sl (pc + 1) lv (vL (shr64 x y) :: rest)) : WN p l e R s m args below meth c nL D E cl sh b Q n Rf M ce sl pc lv (vI y :: vL x :: rest) := by
  intro H locs ls hP hS hl
  refine lv_lshr C.1 C.2.1 d (shr64_of x y).symm ?_
  exact k H locs ls hP hS hl
theorem n_i2l (C : CX p s m args meth c cc nL own D E cl Ext (fun q => b ≤ q)) {x : Int} (d : decode cc pc = .ok (.i2l, 1)) (k : WN p l e R s m args below meth c nL D E cl sh b Q n Rf M ce sl (pc + 1) lv (vL (w32 x) :: rest)) : WN p l e R s m args below meth c nL D E cl sh b Q n Rf M ce sl pc lv (vI x :: rest) := by
  intro H locs ls hP hS hl
  refine lv_i2l C.1 C.2.1 d (i2l_of x) ?_
  exact k H locs ls hP hS hl
theorem n_l2i (C : CX p s m args meth c cc nL own D E cl Ext (fun q => b ≤ q)) {x : Int} (d : decode cc pc = .ok (.l2i, 1)) (k : WN p l e R s m args below meth c nL D E cl sh b Q n Rf M ce sl (pc + 1) lv (vI x :: rest)) : WN p l e R s m args below meth c nL D E cl sh b Q n Rf M ce sl pc lv (vL x :: rest) := by
  intro H locs ls hP hS hl
  refine lv_l2i C.1 C.2.1 d (l2i_of x) ?_
  exact k H locs ls hP hS hl
theorem n_idiv (C : CX p s m args meth c cc nL own D E cl Ext (fun q => b ≤ q)) {x y : Int} (hy : w32 y ≠ 0) (d : decode cc pc = .ok (.idiv, 1)) (k : WN p l e R s m args below meth c nL D E cl sh b Q n Rf M ce sl (pc + 1) lv (vI ((w32 x).tdiv (w32 y)) :: rest)) : WN p l e R s m args below meth c nL D E cl sh b Q n Rf M ce sl pc lv (vI y :: vI x :: rest) := by
  intro H locs ls hP hS hl
  refine lv_idiv C.1 C.2.1 d (i_ne0 hy) ?_
  rw [idiv_of]
  exact k H locs ls hP hS hl
theorem n_irem (C : CX p s m args meth c cc nL own D E cl Ext (fun q => b ≤ q)) {x y : Int} (hy : w32 y ≠ 0) (d : decode cc pc = .ok (.irem, 1)) (k : WN p l e R s m args below meth c nL D E cl sh b Q n Rf M ce sl (pc + 1) lv (vI ((w32 x).tmod (w32 y)) :: rest)) : WN p l e R s m args below meth c nL D E cl sh b Q n Rf M ce sl pc lv (vI y :: vI x :: rest) := by
  intro H locs ls hP hS hl
  refine lv_irem C.1 C.2.1 d (i_ne0 hy) ?_
  rw [irem_of]
  exact k H locs ls hP hS hl
theorem n_ldiv (C : CX p s m args meth c cc nL own D E cl Ext (fun q => b ≤ q)) {x y : Int} (hy : w64 y ≠ 0) (d : decode cc pc = .ok (.ldiv, 1)) (k : WN p l e R s m args below meth c nL D E cl sh b Q n Rf M ce sl (pc + 1) lv (vL ((w64 x).tdiv (w64 y)) :: rest)) : WN p l e R s m args below meth c nL D E cl sh b Q n Rf M ce sl pc lv (vL y :: vL x :: rest) := by
  intro H locs ls hP hS hl
  refine lv_ldiv C.1 C.2.1 d (l_ne0 hy) ?_
  rw [ldiv_of]
  exact k H locs ls hP hS hl
theorem n_lrem (C : CX p s m args meth c cc nL own D E cl Ext (fun q => b ≤ q)) {x y : Int} (hy : w64 y ≠ 0) (d : decode cc pc = .ok (.lrem, 1)) (k : WN p l e R s m args below meth c nL D E cl sh b Q n Rf M ce sl (pc + 1) lv (vL ((w64 x).tmod (w64 y)) :: rest)) : WN p l e R s m args below meth c nL D E cl sh b Q n Rf M ce sl pc lv (vL y :: vL x :: rest) := by
  intro H locs ls hP hS hl
  refine lv_lrem C.1 C.2.1 d (l_ne0 hy) ?_
  rw [lrem_of]
  exact k H locs ls hP hS hl
theorem n_lcmp (C : CX p s m args meth c cc nL own D E cl Ext (fun q => b ≤ q)) {x y : Int} (d : decode cc pc = .ok (.lcmp, 1)) (k : WN p l e R s m args below meth c nL D E cl sh b Q n Rf M ce sl (pc + 1) lv (vI (lcmp x y) :: rest)) : WN p l e R s m args below meth c nL D E cl sh b Q n Rf M ce sl pc lv (vL y :: vL x :: rest) := by
  intro H locs ls hP hS hl
  refine W.lcmp C.1 C.2.1 d ?_
  rw [lcmp_of]
  exact k H locs ls hP hS hl
theorem n_dup (C : CX p s m args meth c cc nL own D E cl Ext (fun q => b ≤ q)) {v : Value} (hv : v.category = 1) (d : decode cc pc = .ok (.dup, 1)) (k : WN p l e R s m args below meth c nL D E cl sh b Q n Rf M ce sl (pc + 1) lv (v :: v :: rest)) : WN p l e R s m args below meth c nL D E cl sh b Q n Rf M ce sl pc lv (v :: rest) := by
  intro H locs ls hP hS hl
  refine lv_dup C.1 C.2.1 d hv ?_
  exact k H locs ls hP hS hl
theorem n_pop (C : CX p s m args meth c cc nL own D E cl Ext (fun q => b ≤ q)) {v : Value} (hv : v.category = 1) (d : decode cc pc = .ok (.pop, 1)) (k : WN p l e R s m args below meth c nL D E cl sh b Q n Rf M ce sl (pc + 1) lv (rest)) : WN p l e R s m args below meth c nL D E cl sh b Q n Rf M ce sl pc lv (v :: rest) := by
  intro H locs ls hP hS hl
  refine lv_pop C.1 C.2.1 d hv ?_
  exact k H locs ls hP hS hl
theorem n_dup_x1 (C : CX p s m args meth c cc nL own D E cl Ext (fun q => b ≤ q)) {v w : Value} (hv : v.category = 1) (hw : w.category = 1) (d : decode cc pc = .ok (.dup_x1, 1)) (k : WN p l e R s m args below meth c nL D E cl sh b Q n Rf M ce sl (pc + 1) lv (v :: w :: v :: rest)) : WN p l e R s m args below meth c nL D E cl sh b Q n Rf M ce sl pc lv (v :: w :: rest) := by
  intro H locs ls hP hS hl
  refine lv_dup_x1 C.1 C.2.1 d hv hw ?_
  exact k H locs ls hP hS hl
theorem n_dup_x2 (C : CX p s m args meth c cc nL own D E cl Ext (fun q => b ≤ q)) {v w u : Value} (hv : v.category = 1) (hw : w.category = 1) (hu : u.category = 1) (d : decode cc pc = .ok (.dup_x2, 1)) (k : WN p l e R s m args below meth c nL D E cl sh b Q n Rf M ce sl (pc + 1) lv (v :: w :: u :: v :: rest)) : WN p l e R s m args below meth c nL D E cl sh b Q n Rf M ce sl pc lv (v :: w :: u :: rest) := by
  intro H locs ls hP hS hl
  refine lv_dup_x2 C.1 C.2.1 d hv hw hu ?_
  exact k H locs ls hP hS hl
theorem n_dup2 (C : CX p s m args meth c cc nL own D E cl Ext (fun q => b ≤ q)) {v w : Value} (hv : v.category = 1) (hw : w.category = 1) (d : decode cc pc = .ok (.dup2, 1)) (k : WN p l e R s m args below meth c nL D E cl sh b Q n Rf M ce sl (pc + 1) lv (v :: w :: v :: w :: rest)) : WN p l e R s m args below meth c nL D E cl sh b Q n Rf M ce sl pc lv (v :: w :: rest) := by
  intro H locs ls hP hS hl
  refine lv_dup2_11 C.1 C.2.1 d hv hw ?_
  exact k H locs ls hP hS hl
theorem n_if_eq (C : CX p s m args meth c cc nL own D E cl Ext (fun q => b ≤ q)) {x : Int} {off : Int} {tgt : Nat} {α : Type} {f g : Option α} {r : α} (h : (if w32 x = 0 then f else g) = some r) (d : decode cc pc = .ok (.ifCond .eq off, 3)) (ht : (pc : Int) + off = (tgt : Int)) (kt : w32 x = 0 → f = some r → WN p l e R s m args below meth c nL D E cl sh b Q n Rf M ce sl tgt lv (rest)) (kf : ¬ (w32 x = 0) → g = some r → WN p l e R s m args below meth c nL D E cl sh b Q n Rf M ce sl (pc + 3) lv (rest)) : WN p l e R s m args below meth c nL D E cl sh b Q n Rf M ce sl pc lv (vI x :: rest) := by
  intro H locs ls hP hS hl
  by_cases hq : w32 x = 0
  · rw [if_pos hq] at h
    exact lv_if_eq C.1 C.2.1 d ht (fun _ => kt hq h H locs ls hP hS hl) (fun z => absurd ((I_eq0).mpr hq) z)
  · rw [if_neg hq] at h
    exact lv_if_eq C.1 C.2.1 d ht (fun z => absurd ((I_eq0).mp z) hq) (fun _ => kf hq h H locs ls hP hS hl)
theorem n_icmp_eq (C : CX p s m args meth c cc nL own D E cl Ext (fun q => b ≤ q)) {x y : Int} {off : Int} {tgt : Nat} {α : Type} {f g : Option α} {r : α} (h : (if w32 x = w32 y then f else g) = some r) (d : decode cc pc = .ok (.if_icmp .eq off, 3)) (ht : (pc : Int) + off = (tgt : Int)) (kt : w32 x = w32 y → f = some r → WN p l e R s m args below meth c nL D E cl sh b Q n Rf M ce sl tgt lv (rest)) (kf : ¬ (w32 x = w32 y) → g = some r → WN p l e R s m args below meth c nL D E cl sh b Q n Rf M ce sl (pc + 3) lv (rest)) : WN p l e R s m args below meth c nL D E cl sh b Q n Rf M ce sl pc lv (vI y :: vI x :: rest) := by
  intro H locs ls hP hS hl
  by_cases hq : w32 x = w32 y
  · rw [if_pos hq] at h
    exact lv_icmp_eq C.1 C.2.1 d ht (fun _ => kt hq h H locs ls hP hS hl) (fun z => absurd ((I_eq).mpr hq) z)
  · rw [if_neg hq] at h
    exact lv_icmp_eq C.1 C.2.1 d ht (fun z => absurd ((I_eq).mp z) hq) (fun _ => kf hq h H locs ls hP hS hl)
theorem n_if_ne (C : CX p s m args meth c cc nL own D E cl Ext (fun q => b ≤ q)) {x : Int} {off : Int} {tgt : Nat} {α : Type} {f g : Option α} {r : α} (h : (if ¬ w32 x = 0 then f else g) = some r) (d : decode cc pc = .ok (.ifCond .ne off, 3)) (ht : (pc : Int) + off = (tgt : Int)) (kt : ¬ w32 x = 0 → f = some r → WN p l e R s m args below meth c nL D E cl sh b Q n Rf M ce sl tgt lv (rest)) (kf : ¬ (¬ w32 x = 0) → g = some r → WN p l e R s m args below meth c nL D E cl sh b Q n Rf M ce sl (pc + 3) lv (rest)) : WN p l e R s m args below meth c nL D E cl sh b Q n Rf M ce sl pc lv (vI x :: rest) := by
  intro H locs ls hP hS hl
  by_cases hq : ¬ w32 x = 0
  · rw [if_pos hq] at h
    exact lv_if_ne C.1 C.2.1 d ht (fun _ => kt hq h H locs ls hP hS hl) (fun z => absurd z ((not_congr I_eq0).mpr hq))
  · rw [if_neg hq] at h
    exact lv_if_ne C.1 C.2.1 d ht (fun z => absurd ((not_congr I_eq0).mp z) hq) (fun _ => kf hq h H locs ls hP hS hl)
theorem n_icmp_ne (C : CX p s m args meth c cc nL own D E cl Ext (fun q => b ≤ q)) {x y : Int} {off : Int} {tgt : Nat} {α : Type} {f g : Option α} {r : α} (h : (if ¬ w32 x = w32 y then f else g) = some r) (d : decode cc pc = .ok (.if_icmp .ne off, 3)) (ht : (pc : Int) + off = (tgt : Int)) (kt : ¬ w32 x = w32 y → f = some r → WN p l e R s m args below meth c nL D E cl sh b Q n Rf M ce sl tgt lv (rest)) (kf : ¬ (¬ w32 x = w32 y) → g = some r → WN p l e R s m args below meth c nL D E cl sh b Q n Rf M ce sl (pc + 3) lv (rest)) : WN p l e R s m args below meth c nL D E cl sh b Q n Rf M ce sl pc lv (vI y :: vI x :: rest) := by
  intro H locs ls hP hS hl
  by_cases hq : ¬ w32 x = w32 y
  · rw [if_pos hq] at h
    exact lv_icmp_ne C.1 C.2.1 d ht (fun _ => kt hq h H locs ls hP hS hl) (fun z => absurd z ((not_congr I_eq).mpr hq))
  · rw [if_neg hq] at h
    exact lv_icmp_ne C.1 C.2.1 d ht (fun z => absurd ((not_congr I_eq).mp z) hq) (fun _ => kf hq h H locs ls hP hS hl)
theorem n_if_lt (C : CX p s m args meth c cc nL own D E cl Ext (fun q => b ≤ q)) {x : Int} {off : Int} {tgt : Nat} {α : Type} {f g : Option α} {r : α} (h : (if w32 x < 0 then f else g) = some r) (d : decode cc pc = .ok (.ifCond .lt off, 3)) (ht : (pc : Int) + off = (tgt : Int)) (kt : w32 x < 0 → f = some r → WN p l e R s m args below meth c nL D E cl sh b Q n Rf M ce sl tgt lv (rest)) (kf : ¬ (w32 x < 0) → g = some r → WN p l e R s m args below meth c nL D E cl sh b Q n Rf M ce sl (pc + 3) lv (rest)) : WN p l e R s m args below meth c nL D E cl sh b Q n Rf M ce sl pc lv (vI x :: rest) := by
  intro H locs ls hP hS hl
  by_cases hq : w32 x < 0
  · rw [if_pos hq] at h
    exact lv_if_lt C.1 C.2.1 d ht (fun _ => kt hq h H locs ls hP hS hl) (fun z => absurd ((I_lt0).mpr hq) z)
  · rw [if_neg hq] at h
    exact lv_if_lt C.1 C.2.1 d ht (fun z => absurd ((I_lt0).mp z) hq) (fun _ => kf hq h H locs ls hP hS hl)
theorem n_icmp_lt (C : CX p s m args meth c cc nL own D E cl Ext (fun q => b ≤ q)) {x y : Int} {off : Int} {tgt : Nat} {α : Type} {f g : Option α} {r : α} (h : (if w32 x < w32 y then f else g) = some r) (d : decode cc pc = .ok (.if_icmp .lt off, 3)) (ht : (pc : Int) + off = (tgt : Int)) (kt : w32 x < w32 y → f = some r → WN p l e R s m args below meth c nL D E cl sh b Q n Rf M ce sl tgt lv (rest)) (kf : ¬ (w32 x < w32 y) → g = some r → WN p l e R s m args below meth c nL D E cl sh b Q n Rf M ce sl (pc + 3) lv (rest)) : WN p l e R s m args below meth c nL D E cl sh b Q n Rf M ce sl pc lv (vI y :: vI x :: rest) := by
  intro H locs ls hP hS hl
  by_cases hq : w32 x < w32 y
  · rw [if_pos hq] at h
    exact lv_icmp_lt C.1 C.2.1 d ht (fun _ => kt hq h H locs ls hP hS hl) (fun z => absurd ((I_lt).mpr hq) z)
  · rw [if_neg hq] at h
    exact lv_icmp_lt C.1 C.2.1 d ht (fun z => absurd ((I_lt).mp z) hq) (fun _ => kf hq h H locs ls hP hS hl)
theorem n_if_ge (C : CX p s m args meth c cc nL own D E cl Ext (fun q => b ≤ q)) {x : Int} {off : Int} {tgt : Nat} {α : Type} {f g : Option α} {r : α} (h : (if 0 ≤ w32 x then f else g) = some r) (d : decode cc pc = .ok (.ifCond .ge off, 3)) (ht : (pc : Int) + off = (tgt : Int)) (kt : 0 ≤ w32 x → f = some r → WN p l e R s m args below meth c nL D E cl sh b Q n Rf M ce sl tgt lv (rest)) (kf : ¬ (0 ≤ w32 x) → g = some r → WN p l e R s m args below meth c nL D E cl sh b Q n Rf M ce sl (pc + 3) lv (rest)) : WN p l e R s m args below meth c nL D E cl sh b Q n Rf M ce sl pc lv (vI x :: rest) := by
  intro H locs ls hP hS hl
  by_cases hq : 0 ≤ w32 x
  · rw [if_pos hq] at h
    exact lv_if_ge C.1 C.2.1 d ht (fun _ => kt hq h H locs ls hP hS hl) (fun z => absurd ((I_ge0).mpr hq) z)
  · rw [if_neg hq] at h
    exact lv_if_ge C.1 C.2.1 d ht (fun z => absurd ((I_ge0).mp z) hq) (fun _ => kf hq h H locs ls hP hS hl)
theorem n_icmp_ge (C : CX p s m args meth c cc nL own D E cl Ext (fun q => b ≤ q)) {x y : Int} {off : Int} {tgt : Nat} {α : Type} {f g : Option α} {r : α} (h : (if w32 y ≤ w32 x then f else g) = some r) (d : decode cc pc = .ok (.if_icmp .ge off, 3)) (ht : (pc : Int) + off = (tgt : Int)) (kt : w32 y ≤ w32 x → f = some r → WN p l e R s m args below meth c nL D E cl sh b Q n Rf M ce sl tgt lv (rest)) (kf : ¬ (w32 y ≤ w32 x) → g = some r → WN p l e R s m args below meth c nL D E cl sh b Q n Rf M ce sl (pc + 3) lv (rest)) : WN p l e R s m args below meth c nL D E cl sh b Q n Rf M ce sl pc lv (vI y :: vI x :: rest) := by
  intro H locs ls hP hS hl
  by_cases hq : w32 y ≤ w32 x
  · rw [if_pos hq] at h
    exact lv_icmp_ge C.1 C.2.1 d ht (fun _ => kt hq h H locs ls hP hS hl) (fun z => absurd ((I_le).mpr hq) z)
  · rw [if_neg hq] at h
    exact lv_icmp_ge C.1 C.2.1 d ht (fun z => absurd ((I_le).mp z) hq) (fun _ => kf hq h H locs ls hP hS hl)
theorem n_if_gt (C : CX p s m args meth c cc nL own D E cl Ext (fun q => b ≤ q)) {x : Int} {off : Int} {tgt : Nat} {α : Type} {f g : Option α} {r : α} (h : (if 0 < w32 x then f else g) = some r) (d : decode cc pc = .ok (.ifCond .gt off, 3)) (ht : (pc : Int) + off = (tgt : Int)) (kt : 0 < w32 x → f = some r → WN p l e R s m args below meth c nL D E cl sh b Q n Rf M ce sl tgt lv (rest)) (kf : ¬ (0 < w32 x) → g = some r → WN p l e R s m args below meth c nL D E cl sh b Q n Rf M ce sl (pc + 3) lv (rest)) : WN p l e R s m args below meth c nL D E cl sh b Q n Rf M ce sl pc lv (vI x :: rest) := by
  intro H locs ls hP hS hl
  by_cases hq : 0 < w32 x
  · rw [if_pos hq] at h
    exact lv_if_gt C.1 C.2.1 d ht (fun _ => kt hq h H locs ls hP hS hl) (fun z => absurd ((I_gt0).mpr hq) z)
  · rw [if_neg hq] at h
    exact lv_if_gt C.1 C.2.1 d ht (fun z => absurd ((I_gt0).mp z) hq) (fun _ => kf hq h H locs ls hP hS hl)
theorem n_icmp_gt (C : CX p s m args meth c cc nL own D E cl Ext (fun q => b ≤ q)) {x y : Int} {off : Int} {tgt : Nat} {α : Type} {f g : Option α} {r : α} (h : (if w32 y < w32 x then f else g) = some r) (d : decode cc pc = .ok (.if_icmp .gt off, 3)) (ht : (pc : Int) + off = (tgt : Int)) (kt : w32 y < w32 x → f = some r → WN p l e R s m args below meth c nL D E cl sh b Q n Rf M ce sl tgt lv (rest)) (kf : ¬ (w32 y < w32 x) → g = some r → WN p l e R s m args below meth c nL D E cl sh b Q n Rf M ce sl (pc + 3) lv (rest)) : WN p l e R s m args below meth c nL D E cl sh b Q n Rf M ce sl pc lv (vI y :: vI x :: rest) := by
  intro H locs ls hP hS hl
  by_cases hq : w32 y < w32 x
  · rw [if_pos hq] at h
    exact lv_icmp_gt C.1 C.2.1 d ht (fun _ => kt hq h H locs ls hP hS hl) (fun z => absurd ((I_lt).mpr hq) z)
  · rw [if_neg hq] at h
    exact lv_icmp_gt C.1 C.2.1 d ht (fun z => absurd ((I_lt).mp z) hq) (fun _ => kf hq h H locs ls hP hS hl)
theorem n_if_le (C : CX p s m args meth c cc nL own D E cl Ext (fun q => b ≤ q)) {x : Int} {off : Int} {tgt : Nat} {α : Type} {f g : Option α} {r : α} (h : (if w32 x ≤ 0 then f else g) = some r) (d : decode cc pc = .ok (.ifCond .le off, 3)) (ht : (pc : Int) + off = (tgt : Int)) (kt : w32 x ≤ 0 → f = some r → WN p l e R s m args below meth c nL D E cl sh b Q n Rf M ce sl tgt lv (rest)) (kf : ¬ (w32 x ≤ 0) → g = some r → WN p l e R s m args below meth c nL D E cl sh b Q n Rf M ce sl (pc + 3) lv (rest)) : WN p l e R s m args below meth c nL D E cl sh b Q n Rf M ce sl pc lv (vI x :: rest) := by
  intro H locs ls hP hS hl
  by_cases hq : w32 x ≤ 0
  · rw [if_pos hq] at h
    exact lv_if_le C.1 C.2.1 d ht (fun _ => kt hq h H locs ls hP hS hl) (fun z => absurd ((I_le0).mpr hq) z)
  · rw [if_neg hq] at h
    exact lv_if_le C.1 C.2.1 d ht (fun z => absurd ((I_le0).mp z) hq) (fun _ => kf hq h H locs ls hP hS hl)
theorem n_icmp_le (C : CX p s m args meth c cc nL own D E cl Ext (fun q => b ≤ q)) {x y : Int} {off : Int} {tgt : Nat} {α : Type} {f g : Option α} {r : α} (h : (if w32 x ≤ w32 y then f else g) = some r) (d : decode cc pc = .ok (.if_icmp .le off, 3)) (ht : (pc : Int) + off = (tgt : Int)) (kt : w32 x ≤ w32 y → f = some r → WN p l e R s m args below meth c nL D E cl sh b Q n Rf M ce sl tgt lv (rest)) (kf : ¬ (w32 x ≤ w32 y) → g = some r → WN p l e R s m args below meth c nL D E cl sh b Q n Rf M ce sl (pc + 3) lv (rest)) : WN p l e R s m args below meth c nL D E cl sh b Q n Rf M ce sl pc lv (vI y :: vI x :: rest) := by
  intro H locs ls hP hS hl
  by_cases hq : w32 x ≤ w32 y
  · rw [if_pos hq] at h
    exact lv_icmp_le C.1 C.2.1 d ht (fun _ => kt hq h H locs ls hP hS hl) (fun z => absurd ((I_le).mpr hq) z)
  · rw [if_neg hq] at h
    exact lv_icmp_le C.1 C.2.1 d ht (fun z => absurd ((I_le).mp z) hq) (fun _ => kf hq h H locs ls hP hS hl)
theorem n_if_eqB (C : CX p s m args meth c cc nL own D E cl Ext (fun q => b ≤ q)) {x : Bool} {off : Int} {tgt : Nat} {α : Type} {f g : Option α} {r : α} (h : (if x = true then f else g) = some r) (d : decode cc pc = .ok (.ifCond .eq off, 3)) (ht : (pc : Int) + off = (tgt : Int)) (kt : x = true → f = some r → WN p l e R s m args below meth c nL D E cl sh b Q n Rf M ce sl (pc + 3) lv (rest)) (kf : x = false → g = some r → WN p l e R s m args below meth c nL D E cl sh b Q n Rf M ce sl tgt lv (rest)) : WN p l e R s m args below meth c nL D E cl sh b Q n Rf M ce sl pc lv (vB x :: rest) := by
  intro H locs ls hP hS hl
  cases x
  · rw [if_neg (by decide)] at h
    exact lv_if_eq C.1 C.2.1 d ht (fun _ => kf rfl h H locs ls hP hS hl) (fun z => absurd (by decide) z)
  · rw [if_pos rfl] at h
    exact lv_if_eq C.1 C.2.1 d ht (fun z => absurd z (by decide)) (fun _ => kt rfl h H locs ls hP hS hl)
theorem n_if_neB (C : CX p s m args meth c cc nL own D E cl Ext (fun q => b ≤ q)) {x : Bool} {off : Int} {tgt : Nat} {α : Type} {f g : Option α} {r : α} (h : (if x = true then f else g) = some r) (d : decode cc pc = .ok (.ifCond .ne off, 3)) (ht : (pc : Int) + off = (tgt : Int)) (kt : x = true → f = some r → WN p l e R s m args below meth c nL D E cl sh b Q n Rf M ce sl tgt lv (rest)) (kf : x = false → g = some r → WN p l e R s m args below meth c nL D E cl sh b Q n Rf M ce sl (pc + 3) lv (rest)) : WN p l e R s m args below meth c nL D E cl sh b Q n Rf M ce sl pc lv (vB x :: rest) := by
  intro H locs ls hP hS hl
  cases x
  · rw [if_neg (by decide)] at h
    exact lv_if_ne C.1 C.2.1 d ht (fun z => absurd (by decide) z) (fun _ => kf rfl h H locs ls hP hS hl)
  · rw [if_pos rfl] at h
    exact lv_if_ne C.1 C.2.1 d ht (fun _ => kt rfl h H locs ls hP hS hl) (fun z => absurd z (by decide))
theorem n_goto (C : CX p s m args meth c cc nL own D E cl Ext (fun q => b ≤ q)) {off : Int} {tgt : Nat} (d : decode cc pc = .ok (.goto off, 3)) (ht : (pc : Int) + off = (tgt : Int)) (k : WN p l e R s m args below meth c nL D E cl sh b Q n Rf M ce sl tgt lv (rest)) : WN p l e R s m args below meth c nL D E cl sh b Q n Rf M ce sl pc lv (rest) := by
  intro H locs ls hP hS hl
  exact lv_goto C.1 C.2.1 d ht (k H locs ls hP hS hl)
theorem n_table (C : CX p s m args meth c cc nL own D E cl Ext (fun q => b ≤ q)) {x : Int} {dflt lo hi : Int} {offs : Array Int} {len : Nat} (tg : Int → Nat) (d : decode cc pc = .ok (.tableswitch dflt lo hi offs, len)) (hin : ∀ i : Int, lo ≤ i → i ≤ hi → ∃ off, offs[(i - lo).toNat]? = some off ∧ (pc : Int) + off = (tg i : Int)) {td : Nat} (ht : (pc : Int) + dflt = (td : Int))
    (ki : lo ≤ w32 x → w32 x ≤ hi → WN p l e R s m args below meth c nL D E cl sh b Q n Rf M ce sl (tg (w32 x)) lv (rest)) (ko : ¬ (lo ≤ w32 x ∧ w32 x ≤ hi) → WN p l e R s m args below meth c nL D E cl sh b Q n Rf M ce sl td lv (rest)) : WN p l e R s m args below meth c nL D E cl sh b Q n Rf M ce sl pc lv (vI x :: rest) := by
  intro H locs ls hP hS hl
  by_cases hq : lo ≤ w32 x ∧ w32 x ≤ hi
  · obtain ⟨off, h1, h2⟩ := hin _ hq.1 hq.2
    exact lv_tableIn C.1 C.2.1 d (by show ¬ w32 x < lo; omega) (by show ¬ hi < w32 x; omega) h1 h2 (ki hq.1 hq.2 H locs ls hP hS hl)
  · exact lv_tableOut C.1 C.2.1 d (by show w32 x < lo ∨ hi < w32 x; omega) ht (ko hq H locs ls hP hS hl)
/-- fewer locals, in another order -/
theorem n_sub {lv' : List (Nat × Value)} {st : List Value} (ks : List Nat) (hv : lv_pick lv ks = lv') (k : WN p l e R s m args below meth c nL D E cl sh b Q n Rf M ce sl pc lv' (st)) : WN p l e R s m args below meth c nL D E cl sh b Q n Rf M ce sl pc lv (st) := fun H locs ls hP hS hl => k H locs ls hP hS (lv_sub hl ks hv)
end NROWS

-- ===== making, and writing what was made =====
theorem Wd_succ {E : Nat → ClassId} {sh : Shp} {b n : Nat} {Rf : Nat → Nat → Nat} {M : Mem} : Wd E sh b (n + 1) Rf M = Wd E sh b n Rf M ++ [(b + n, cellE E b (sh n) (Rf n) (M n))] := by
  unfold Wd
  rw [List.range_succ, List.map_append]
  rfl
theorem Wd_cong {E : Nat → ClassId} {sh : Shp} {b n : Nat} {Rf Rf1 : Nat → Nat → Nat} {M M1 : Mem} (h : ∀ k, k < n → Rf1 k = Rf k ∧ M1 k = M k) : Wd E sh b n Rf M = Wd E sh b n Rf1 M1 := by
  unfold Wd
  apply List.map_congr_left
  intro k hk
  obtain ⟨h1, h2⟩ := h k (List.mem_range.mp hk)
  rw [h1, h2]
theorem Wd_set3 {E : Nat → ClassId} {sh : Shp} {b n : Nat} {Rf Rf1 : Nat → Nat → Nat} {M M1 : Mem} {k : Nat} {x : va_E} (hx : cellE E b (sh k) (Rf1 k) (M1 k) = x) (ho : ∀ q, q ≠ k → Rf1 q = Rf q ∧ M1 q = M q) :
    (Wd E sh b n Rf M).set k (b + k, x) = Wd E sh b n Rf1 M1 := by
  apply List.ext_getElem?
  intro j
  rw [List.getElem?_set]
  by_cases hj : k = j
  · subst hj
    by_cases hk : k < n
    · rw [Wd_at (Rf := Rf1) (M := M1) hk, hx]; simp [Wd, hk]
    · simp [Wd, hk]
  · rw [if_neg hj]
    by_cases hk : j < n
    · rw [Wd_at hk, Wd_at hk, (ho j (fun e => hj e.symm)).1, (ho j (fun e => hj e.symm)).2]
    · simp [Wd, hk]
theorem mapIdx_setR {kds : List Nat} {b : Nat} {rf rf' : Nat → Nat} {m : Nat → Int} {j kd : Nat} {v : Value} (hk : kds[j]? = some kd) (hv : slotV b rf' m j kd = v) (ho : ∀ i, i ≠ j → rf' i = rf i) :
    (kds.mapIdx (fun j kd => slotV b rf m j kd)).set j v = kds.mapIdx (fun j kd => slotV b rf' m j kd) := by
  apply List.ext_getElem?
  intro i
  rw [List.getElem?_set]
  by_cases hi : j = i
  · subst hi
    have hl : j < kds.length := (List.getElem?_eq_some_iff.mp hk).1
    simp [hl]
    rw [← hv]
    have : kds[j] = kd := by rw [List.getElem?_eq_getElem hl] at hk; exact Option.some.inj hk
    rw [this]
  · rw [if_neg hi]
    simp only [List.getElem?_mapIdx]
    cases kds[i]? with
    | none => rfl
    | some kd' =>
      simp only [Option.map_some]
      congr 1
      unfold slotV
      rw [ho i (fun e => hi e.symm)]
theorem Rfh_hd {Rf : Nat → Nat → Nat} {hol : List (Nat × Nat)} {k j : Nat} (h : (k, j) ∉ hol) : (∀ q, q ≠ k → Rfh Rf hol q = Rfh Rf ((k, j) :: hol) q) ∧ (∀ i, i ≠ j → Rfh Rf hol k i = Rfh Rf ((k, j) :: hol) k i) ∧ Rfh Rf hol k j = Rf k j := by
  refine ⟨fun q hq => ?_, fun i hi => ?_, ?_⟩
  · funext i
    unfold Rfh
    simp [hq]
  · unfold Rfh
    simp [hi]
  · unfold Rfh
    simp [h]
def kdDef (kd : Nat) : Value := match kd with
  | 1 => .long 0
  | 2 => .null
  | 4 => .null
  | _ => .int 0
theorem slotV_0 {b : Nat} {rf : Nat → Nat} {m : Nat → Int} (hr : ∀ j, rf j = 0) (hm : ∀ j, m j = 0) (j kd : Nat) : slotV b rf m j kd = kdDef kd := by
  unfold slotV kdDef
  split <;> simp [hr, hm, rO, va_rf]
/-- what 'new' links -/
def NL (cl : List vw_C) (own : String) (idx ci : Nat) (kds : List Nat) (N : Nat) : Prop :=
  ∃ (C : String) (T : u_T) (ty : Nat → FieldType), cl[ci]? = some (C, T, N) ∧ kds.length = N ∧ (∀ w ∈ u_ws C T N, w ∈ gws) ∧ (∀ k, k < N → parseFieldDescriptor (T k).2.2.1 = some (ty k)) ∧ (∀ k, k < N → defaultValue (ty k) = kdDef (kds.getD k 0)) ∧ Cond.classLink own idx C ∈ gws ∧ Cond.instantiable C N ∈ gws ∧ Cond.initialized C ∈ gws
theorem wn_size {p : Program} {l : Launch} {e : Env} {R : Room} {s : State} {m : MethodId} {args : Array Value} {below : List Frame} {meth : Method} {c : Code} {T : State} {locs : List Loc} {ce sl b n : Nat} {H : Heap} {D : va_G} {E : Nat → ClassId} {cl : List vw_C} {sh : Shp} {Rf : Nat → Nat → Nat} {M : Mem} {A : Nat → Prop}
    (X : Stand p l e R s m args below meth c T locs ce sl) (hT : T.heap = H) (hP : va_P D cl (Wd E sh b n Rf M) H) (hS : va_S A s.heap H locs) (h : s.heap.size + ce = b + n ∧ b ≤ s.heap.size) : H.size = b + n := by
  have h1 := X.heapSize
  rw [hT] at h1
  have h2 := hS.1
  cases n with
  | zero => omega
  | succ k =>
    have h3 := (hP k _ (Wd_at (Nat.lt_succ_self k))).lt
    have h4 : b + k < H.size := h3
    omega
theorem w_size {p : Program} {l : Launch} {e : Env} {R : Room} {s : State} {m : MethodId} {args : Array Value} {below : List Frame} {meth : Method} {c : Code} {locs : List Loc} {ce sl b n : Nat} {H : Heap} {D : va_G} {E : Nat → ClassId} {cl : List vw_C} {sh : Shp} {Rf : Nat → Nat → Nat} {M : Mem} {A : Nat → Prop} {Q : State → Prop} {g : JFrame}
    (hP : va_P D cl (Wd E sh b n Rf M) H) (hS : va_S A s.heap H locs) (h : s.heap.size + ce = b + n ∧ b ≤ s.heap.size) (k : H.size = b + n → W p l e R s m args below meth c H locs ce sl Q g) : W p l e R s m args below meth c H locs ce sl Q g :=
  fun T hT X => k (wn_size X hT hP hS h) T hT X
section NMAKE
variable {p : Program} {l : Launch} {e : Env} {R : Room} {s : State} {m : MethodId} {args : Array Value} {below : List Frame} {meth : Method} {c : Code} {cc : ByteArray} {nL : Nat} {own : String} {D : va_G} {E : Nat → ClassId} {cl : List vw_C} {sh : Shp} {b n ce sl : Nat} {Rf Rf1 : Nat → Nat → Nat} {Q : State → Prop} {Ext : State → Prop} {M M1 : Mem} {pc : Nat} {lv : List (Nat × Value)} {rest st st1 : List Value}
theorem n_cong (h : ∀ k, k < n → Rf1 k = Rf k ∧ M1 k = M k) (kk : WN p l e R s m args below meth c nL D E cl sh b Q n Rf1 M1 ce sl pc lv st) : WN p l e R s m args below meth c nL D E cl sh b Q n Rf M ce sl pc lv st := by
  intro H locs ls hP hS hl
  rw [Wd_cong h] at hP
  exact kk H locs ls hP hS hl
theorem n_new (C : CX p s m args meth c cc nL own D E cl Ext (fun q => b ≤ q)) {idx ci N : Nat} {kds : List Nat} (hn : NL cl own idx ci kds N) (hs : sh n = (ci + 4, kds)) (h0 : ∀ j, Rf n j = 0) (hm : ∀ j, M n j = 0) (hsz : s.heap.size + ce = b + n ∧ b ≤ s.heap.size) (hce : ce + 1 ≤ R.cells) (hsl : sl + N ≤ R.slots) (d : decode cc pc = .ok (.new idx, 3))
    (kk : WN p l e R s m args below meth c nL D E cl sh b Q (n + 1) Rf M (ce + 1) (sl + N) (pc + 3) lv (vR b n :: rest)) : WN p l e R s m args below meth c nL D E cl sh b Q n Rf M ce sl pc lv rest := by
  intro H locs ls hP hS hl
  obtain ⟨CN, T, ty, h1, hlen, h2, h3, h4, h5, h6, h7⟩ := hn
  have ok : ∀ w ∈ gws, w.before args s = true := C.2.2.2.2.1
  have hKn := C.2.2.2.2.2.1.1 ci _ h1
  refine w_size hP hS hsz (fun hz => ?_)
  refine W.newcK C.1 C.2.1 C.2.2.2.1 (ok _ h5) (ok _ h6) (ok _ h7) rfl d hce hsl hKn.2.1 hz fun H1 kC hkC e1 z1 o1 => ?_
  have hk : ∀ (k : Nat) (x : Nat × va_E), (Wd E sh b n Rf M)[k]? = some x → H1[x.1]? = H[x.1]? := fun k x hx => o1 x.1 (by rw [← hz]; exact (hP k x hx).lt)
  refine kk H1 locs ls ?_ ⟨Nat.le_trans hS.1 (by omega), fun x h1 h2 => (o1 x (by rw [← hz]; exact Nat.lt_of_lt_of_le h1 hS.1)).trans (hS.2.1 x h1 h2), hS.2.2⟩ hl
  rw [Wd_succ]
  refine (hP.kept hk).app (fun k x hx => ?_)
  have hzk : k < 1 := (List.getElem?_eq_some_iff.mp hx).1
  rw [show k = 0 by omega] at hx
  cases hx
  show va_at D cl (b + n, _) H1
  rw [hs, cellE_obj]
  refine ⟨_, h1, (u_born ty ok h2 hKn hkC e1 h3).to fun j hj => ?_⟩
  rw [h4 j hj]
  show _ = (List.mapIdx _ kds).getD j Value.null
  simp only [List.getD_eq_getElem?_getD, List.getElem?_mapIdx]
  have hj' : j < kds.length := by rw [hlen]; exact hj
  rw [List.getElem?_eq_getElem hj']
  exact (slotV_0 h0 hm j _).symm
theorem n_newa (C : CX p s m args meth c cc nL own D E cl Ext (fun q => b ≤ q)) {t L : Nat} {atype : ArrayType} {ty : FieldType} (hty : newarray.typeOf atype = ty) (hat : (t = 0 ∧ ty = .int) ∨ (t = 1 ∧ ty = .long) ∨ (t = 2 ∧ ty = .boolean)) (harr : Cond.arrayClass ty ∈ gws) (hs : sh n = (t, [L])) (hm : ∀ j, M n j = 0) (hL : L ≤ 60000000) {x : Int} (hx : x = (L : Int)) (hsz : s.heap.size + ce = b + n ∧ b ≤ s.heap.size) (hce : ce + 1 ≤ R.cells) (hsl : sl + L ≤ R.slots) (d : decode cc pc = .ok (.newarray atype, 2))
    (kk : WN p l e R s m args below meth c nL D E cl sh b Q (n + 1) Rf M (ce + 1) (sl + L) (pc + 2) lv (vR b n :: rest)) : WN p l e R s m args below meth c nL D E cl sh b Q n Rf M ce sl pc lv (vI x :: rest) := by
  intro H locs ls hP hS hl
  subst hx
  subst hty
  have ok : ∀ w ∈ gws, w.before args s = true := C.2.2.2.2.1
  have ex : (Int32.ofInt (L : Int)).toInt = (L : Int) := w32_eq (by omega) (by omega)
  have en : (Int32.ofInt (L : Int)).toNatClampNeg = L := by
    unfold Int32.toNatClampNeg
    rw [ex]
    omega
  have hn : ¬ Int32.ofInt (L : Int) < 0 := by
    rw [I_lt0]
    show ¬ (Int32.ofInt (L : Int)).toInt < 0
    rw [ex]
    omega
  have hcb : L * componentBytes (newarray.typeOf atype) ≤ 536870912 := by
    have : componentBytes (newarray.typeOf atype) ≤ 8 := by cases atype <;> decide
    exact Nat.le_trans (Nat.mul_le_mul_left L this) (by omega)
  refine w_size hP hS hsz (fun hz => ?_)
  refine va_newaK C.1 C.2.1 (ok _ harr) rfl d rfl hn en hcb hce hsl hz fun H1 cA e1 z1 o1 hAr hNm => ?_
  have hk : ∀ (k : Nat) (x : Nat × va_E), (Wd E sh b n Rf M)[k]? = some x → H1[x.1]? = H[x.1]? := fun k x hx => o1 x.1 (by rw [← hz]; exact (hP k x hx).lt)
  have key : va_at D cl (b + n, cellE E b (sh n) (Rf n) (M n)) H1 := by
    rw [hs]
    rcases hat with ⟨rfl, h⟩ | ⟨rfl, h⟩ | ⟨rfl, h⟩
    · rw [h] at hNm e1
      have q := (C.2.2.2.2.2.1.2 0 _ (show (tysOf E)[0]? = some (E 0, .int) from rfl)).2
      have ec : cA = E 0 := Option.some.inj (hNm.symm.trans q)
      show H1[b + n]? = some (arrV (E 0) L (fun i => .int (Int32.ofInt (M n i))))
      rw [e1, ec]
      refine congrArg (fun f => some (arrV (E 0) L f)) (funext fun j => ?_)
      rw [hm]
      rfl
    · rw [h] at hNm e1
      have q := (C.2.2.2.2.2.1.2 1 _ (show (tysOf E)[1]? = some (E 1, .long) from rfl)).2
      have ec : cA = E 1 := Option.some.inj (hNm.symm.trans q)
      show H1[b + n]? = some (arrV (E 1) L (fun i => .long (Int64.ofInt (M n i))))
      rw [e1, ec]
      refine congrArg (fun f => some (arrV (E 1) L f)) (funext fun j => ?_)
      rw [hm]
      rfl
    · rw [h] at hNm e1
      have q := (C.2.2.2.2.2.1.2 2 _ (show (tysOf E)[2]? = some (E 2, .boolean) from rfl)).2
      have ec : cA = E 2 := Option.some.inj (hNm.symm.trans q)
      show H1[b + n]? = some (arrV (E 2) L (fun i => .int (Int32.ofInt (M n i))))
      rw [e1, ec]
      refine congrArg (fun f => some (arrV (E 2) L f)) (funext fun j => ?_)
      rw [hm]
      rfl
  refine kk H1 locs ls ?_ ⟨Nat.le_trans hS.1 (by omega), fun x h1 h2 => (o1 x (by rw [← hz]; exact Nat.lt_of_lt_of_le h1 hS.1)).trans (hS.2.1 x h1 h2), hS.2.2⟩ hl
  rw [Wd_succ]
  refine (hP.kept hk).app (fun k x hx => ?_)
  have hzk : k < 1 := (List.getElem?_eq_some_iff.mp hx).1
  rw [show k = 0 by omega] at hx
  cases hx
  exact key
theorem n_getR (C : CX p s m args meth c cc nL own D E cl Ext (fun q => b ≤ q)) {idx ci j k r : Nat} {kds : List Nat} (hf : FL cl own idx ci j) (hs : sh k = (ci + 4, kds)) (hk : k < n) (hj : kds[j]? = some 2) (hr : Rf k j = r + 1) (d : decode cc pc = .ok (.getfield idx, 3))
    (kk : WN p l e R s m args below meth c nL D E cl sh b Q n Rf M ce sl (pc + 3) lv (vR b r :: rest)) : WN p l e R s m args below meth c nL D E cl sh b Q n Rf M ce sl pc lv (vR b k :: rest) := by
  intro H locs ls hP hS hl
  obtain ⟨C1, T, N, h1, h2, h3, h4⟩ := hf
  have he : (Wd E sh b n Rf M)[k]? = some (b + k, .inr (ci, kds.mapIdx (fun j kd => slotV b (Rf k) (M k) j kd))) := by rw [Wd_at hk, hs, cellE_obj]
  exact va_get C.1 C.2.1 C.2.2.2.2.1 h3 C.2.2.2.1 C.2.2.2.2.2.1 hP k he h1 j h2 (C.2.2.2.2.1 _ h4) (fun _ h => h) (v := vR b r) (by rw [mapIdx_at hj]; show some (va_rf (rO b (Rf k j))) = _; rw [hr]; rfl) d (kk H locs ls hP hS hl)
theorem wdDn : va_D (fun q => b ≤ q) (Wd E sh b n Rf M) := ⟨Wd_D.1, fun k q h => (Wd_D.2 k q h).1⟩
theorem n_putV (C : CX p s m args meth c cc nL own D E cl Ext (fun q => b ≤ q)) {idx ci j k kd : Nat} {kds : List Nat} (hf : FL cl own idx ci j) (ht : FT cl ci) {ty : FieldType} (hw : FW cl ci j ty) (hs : sh k = (ci + 4, kds)) (hk : k < n) (hj : kds[j]? = some kd) {v : Value} {x : Int} (hx : ∀ mm : Nat → Int, mm j = x → slotV b (Rf k) mm j kd = v) (hn : narrow ty v = v) (hfit : fits ty v = true) (hM : M1 = upM M k j x) (d : decode cc pc = .ok (.putfield idx, 3))
    (kk : WN p l e R s m args below meth c nL D E cl sh b Q n Rf M1 ce sl (pc + 3) lv rest) : WN p l e R s m args below meth c nL D E cl sh b Q n Rf M ce sl pc lv (v :: vR b k :: rest) := by
  intro H locs ls hP hS hl
  obtain ⟨C1, T, N, h1, h2, h3, h4⟩ := hf
  obtain ⟨C2, T2, N2, ty0, g1, g2, g3⟩ := ht
  cases h1.symm.trans g1
  obtain ⟨C3, T3, N3, w1, w2, w3⟩ := hw
  cases h1.symm.trans w1
  have he : (Wd E sh b n Rf M)[k]? = some (b + k, .inr (ci, kds.mapIdx (fun j kd => slotV b (Rf k) (M k) j kd))) := by rw [Wd_at hk, hs, cellE_obj]
  refine va_put C.1 C.2.1 C.2.2.2.2.1 h3 ty0 g2 g3 C.2.2.2.1 C.2.2.2.2.2.1 hP wdDn hS k he h1 j h2 (C.2.2.2.2.1 _ h4) (fun _ h => h) w2 w3 hn hfit (by rw [List.length_mapIdx]; exact (List.getElem?_eq_some_iff.mp hj).1) d ?_
  intro H1 locs1 hP1 _ hS1
  rw [mapIdx_set (m' := upM M k j x k) hj (hx _ (by rw [upM_self, if_pos rfl])) (fun i hi => by rw [upM_self, if_neg hi]), Wd_set (by rw [hs, cellE_obj])] at hP1
  rw [← hM] at hP1
  exact kk H1 locs1 ls hP1 hS1 hl
theorem n_putI (C : CX p s m args meth c cc nL own D E cl Ext (fun q => b ≤ q)) {idx ci j k : Nat} {kds : List Nat} (hf : FL cl own idx ci j) (ht : FT cl ci) (hw : FW cl ci j .int) (hs : sh k = (ci + 4, kds)) (hk : k < n) (hj : kds[j]? = some 0) {x : Int} (d : decode cc pc = .ok (.putfield idx, 3))
    (kk : WN p l e R s m args below meth c nL D E cl sh b Q n Rf (upM M k j x) ce sl (pc + 3) lv rest) : WN p l e R s m args below meth c nL D E cl sh b Q n Rf M ce sl pc lv (vI x :: vR b k :: rest) :=
  n_putV C hf ht hw hs hk hj (fun mm h => by show vI (mm j) = _; rw [h]) rfl rfl rfl d kk
theorem n_putZ (C : CX p s m args meth c cc nL own D E cl Ext (fun q => b ≤ q)) {idx ci j k : Nat} {kds : List Nat} (hf : FL cl own idx ci j) (ht : FT cl ci) (hw : FW cl ci j .boolean) (hs : sh k = (ci + 4, kds)) (hk : k < n) (hj : kds[j]? = some 3) {x : Int} (hx : x = 0 ∨ x = 1) (d : decode cc pc = .ok (.putfield idx, 3))
    (kk : WN p l e R s m args below meth c nL D E cl sh b Q n Rf (upM M k j x) ce sl (pc + 3) lv rest) : WN p l e R s m args below meth c nL D E cl sh b Q n Rf M ce sl pc lv (vI x :: vR b k :: rest) :=
  n_putV C hf ht hw hs hk hj (fun mm h => by show vI (mm j) = _; rw [h]) (bool01 hx).1 (bool01 hx).2.1 rfl d kk
theorem n_putL (C : CX p s m args meth c cc nL own D E cl Ext (fun q => b ≤ q)) {idx ci j k : Nat} {kds : List Nat} (hf : FL cl own idx ci j) (ht : FT cl ci) (hw : FW cl ci j .long) (hs : sh k = (ci + 4, kds)) (hk : k < n) (hj : kds[j]? = some 1) {x : Int} (d : decode cc pc = .ok (.putfield idx, 3))
    (kk : WN p l e R s m args below meth c nL D E cl sh b Q n Rf (upM M k j x) ce sl (pc + 3) lv rest) : WN p l e R s m args below meth c nL D E cl sh b Q n Rf M ce sl pc lv (vL x :: vR b k :: rest) :=
  n_putV C hf ht hw hs hk hj (fun mm h => by show vL (mm j) = _; rw [h]) rfl rfl rfl d kk
/-- a final field that holds a reference, and its declarer -/
def FWF (cl : List vw_C) (own : String) (ci j : Nat) (ty : FieldType) : Prop :=
  ∃ (C : String) (T : u_T) (N : Nat), cl[ci]? = some (C, T, N) ∧ (T j).2.2.2 = true ∧ (T j).1 = own ∧ parseFieldDescriptor (T j).2.2.1 = some ty
theorem n_putR (C : CX p s m args meth c cc nL own D E cl Ext (fun q => b ≤ q)) (hin : meth.name = "<init>") {idx ci j k r : Nat} {kds : List Nat} {hol : List (Nat × Nat)} {ty : FieldType} (hf : FL cl own idx ci j) (ht : FT cl ci) (hw : FWF cl own ci j ty) (hs : sh k = (ci + 4, kds)) (hk : k < n) (hj : kds[j]? = some 2) (hn : ∀ q, narrow ty (.ref q) = .ref q) (hfit : ∀ q, fits ty (.ref q) = true) (hh : (k, j) ∉ hol) (hr : Rf k j = r + 1) (d : decode cc pc = .ok (.putfield idx, 3))
    (kk : WN p l e R s m args below meth c nL D E cl sh b Q n (Rfh Rf hol) M ce sl (pc + 3) lv rest) : WN p l e R s m args below meth c nL D E cl sh b Q n (Rfh Rf ((k, j) :: hol)) M ce sl pc lv (vR b r :: vR b k :: rest) := by
  intro H locs ls hP hS hl
  obtain ⟨C1, T, N, h1, h2, h3, h4⟩ := hf
  obtain ⟨C2, T2, N2, ty0, g1, g2, g3⟩ := ht
  cases h1.symm.trans g1
  obtain ⟨C3, T3, N3, w1, w2, w4, w3⟩ := hw
  cases h1.symm.trans w1
  obtain ⟨f1, f2, f3⟩ := Rfh_hd (Rf := Rf) hh
  have he : (Wd E sh b n (Rfh Rf ((k, j) :: hol)) M)[k]? = some (b + k, .inr (ci, kds.mapIdx (fun i kd => slotV b (Rfh Rf ((k, j) :: hol) k) (M k) i kd))) := by rw [Wd_at hk, hs, cellE_obj]
  refine va_putF C.1 C.2.1 C.2.2.2.2.1 h3 ty0 g2 g3 C.2.2.2.1 C.2.2.2.2.2.1 hP wdDn hS k he h1 j h2 (C.2.2.2.2.1 _ h4) (fun _ h => h) w2 hin w4 w3 (hn _) (hfit _) (by rw [List.length_mapIdx]; exact (List.getElem?_eq_some_iff.mp hj).1) d ?_
  intro H1 locs1 hP1 _ hS1
  rw [mapIdx_setR (rf' := Rfh Rf hol k) hj (by show va_rf (rO b (Rfh Rf hol k j)) = _; rw [f3, hr]; rfl) f2, Wd_set3 (Rf1 := Rfh Rf hol) (M1 := M) (by rw [hs, cellE_obj]) (fun q hq => ⟨f1 q hq, rfl⟩)] at hP1
  exact kk H1 locs1 ls hP1 hS1 hl
theorem n_iast (C : CX p s m args meth c cc nL own D E cl Ext (fun q => b ≤ q)) {k L : Nat} {tl : List Nat} (hs : sh k = (0, L :: tl)) (hk : k < n) (hL : L ≤ 2147483647) {i x : Int} (hi : 0 ≤ i ∧ i < (L : Int)) {iN : Nat} (hN : i.toNat = iN) (d : decode cc pc = .ok (.iastore, 1))
    (kk : WN p l e R s m args below meth c nL D E cl sh b Q n Rf (upM M k iN x) ce sl (pc + 1) lv rest) : WN p l e R s m args below meth c nL D E cl sh b Q n Rf M ce sl pc lv (vI x :: vI i :: vR b k :: rest) := by
  subst hN
  intro H locs ls hP hS hl
  have he : (Wd E sh b n Rf M)[k]? = some (b + k, .inl (E 0, L, .inl (fun i => Int32.ofInt (M k i)))) := by rw [Wd_at hk, hs, cellE_int]
  obtain ⟨q1, q2⟩ := I_clamp hi hL
  refine va_iast C.1 C.2.1 C.2.2.2.2.2.1 hP wdDn hS k 0 he rfl q2 d ?_
  intro H1 locs1 hP1 _ hS1
  rw [q1, show (upd (fun i => Int32.ofInt (M k i)) i.toNat (Int32.ofInt x)) = (fun j => Int32.ofInt (upM M k i.toNat x k j)) from by
    funext j
    rw [upM_self]
    unfold upd
    by_cases h : j = i.toNat <;> simp [h], Wd_set (by rw [hs, cellE_int])] at hP1
  exact kk H1 locs1 ls hP1 hS1 hl
theorem n_objInit (C : CX p s m args meth c cc nL own D E cl Ext (fun q => b ≤ q)) {idx k : Nat} (h1 : Cond.methodLink own idx Lib.objectInit ∈ gws) (h2 : Cond.instanceMethod Lib.objectInit ∈ gws) (h3 : Cond.code Lib.objectInit ⟨#[0xb1]⟩ 1 none ∈ gws) (hfr : 1 ≤ R.frames) (hlo : 12 ≤ R.locals) (d : decode cc pc = .ok (.invokespecial idx, 3))
    (kk : WN p l e R s m args below meth c nL D E cl sh b Q n Rf M ce sl (pc + 3) lv []) : WN p l e R s m args below meth c nL D E cl sh b Q n Rf M ce sl pc lv [vR b k] := by
  intro H locs ls hP hS hl
  have ok : ∀ w ∈ gws, w.before args s = true := C.2.2.2.2.1
  exact W.objInit C.1 C.2.1 C.2.2.2.1 (ok _ h1) (ok _ h2) (ok _ h3) rfl (hl.1.trans C.2.2.1.symm) rfl d hfr (by show 2 * 0 + 0 + 12 ≤ R.locals; omega) (kk H locs ls hP hS hl)
end NMAKE
