/-! THE LAW'S WALK: two worlds, the class's at bX, the reference's at bM -/
def WLw (p : Program) (l : Launch) (e : Env) (R : Room) (s : State) (m : MethodId) (args : Array Value) (below : List Frame) (meth : Method) (c : Code) (nL : Nat) (D : va_G) (E : Nat → ClassId) (bX bM ce sl : Nat) (Q : State → Prop) (Mx Mm : Mem) (pc : Nat) (lv : List (Nat × Value)) (st : List Value) : Prop :=
  ∀ (H : Heap) (locs : List Loc) (ls : Array Slot), va_P D vwCl (Wd E xSh bX xN xRf Mx) H → va_P D vwCl (Wd E mSh bM mN mRf Mm) H → va_S (fun q => s.heap.size ≤ q) s.heap H locs → lv_has ls nL lv → W p l e R s m args below meth c H locs ce sl Q (F0 m pc ls st)
section ROWS
variable {p : Program} {l : Launch} {e : Env} {R : Room} {s : State} {m : MethodId} {args : Array Value} {below : List Frame} {meth : Method} {c : Code} {cc : ByteArray} {nL : Nat} {own : String} {D : va_G} {E : Nat → ClassId} {cl : List vw_C} {b bX bM ce sl : Nat} {Q : State → Prop} {Ext : State → Prop} {Mx Mm : Mem} {pc : Nat} {lv : List (Nat × Value)} {rest : List Value}
theorem l_iconst (C : CX p s m args meth c cc nL own D E cl Ext (fun q => s.heap.size ≤ q)) {i : Int} (d : decode cc pc = .ok (.iconst i, 1)) (k : WLw p l e R s m args below meth c nL D E bX bM ce sl Q Mx Mm (pc + 1) lv (vI i :: rest)) : WLw p l e R s m args below meth c nL D E bX bM ce sl Q Mx Mm pc lv (rest) := by
  intro H locs ls hP hP2 hS hl
  refine lv_iconst C.1 C.2.1 d rfl ?_
  exact k H locs ls hP hP2 hS hl
theorem l_bipush (C : CX p s m args meth c cc nL own D E cl Ext (fun q => s.heap.size ≤ q)) {i j : Int} (hi : (Int8.ofInt i).toInt32 = Int32.ofInt j) (d : decode cc pc = .ok (.bipush i, 2)) (k : WLw p l e R s m args below meth c nL D E bX bM ce sl Q Mx Mm (pc + 2) lv (vI j :: rest)) : WLw p l e R s m args below meth c nL D E bX bM ce sl Q Mx Mm pc lv (rest) := by
  intro H locs ls hP hP2 hS hl
  refine lv_bipush C.1 C.2.1 d hi ?_
  exact k H locs ls hP hP2 hS hl
theorem l_sipush (C : CX p s m args meth c cc nL own D E cl Ext (fun q => s.heap.size ≤ q)) {i j : Int} (hi : (Int16.ofInt i).toInt32 = Int32.ofInt j) (d : decode cc pc = .ok (.sipush i, 3)) (k : WLw p l e R s m args below meth c nL D E bX bM ce sl Q Mx Mm (pc + 3) lv (vI j :: rest)) : WLw p l e R s m args below meth c nL D E bX bM ce sl Q Mx Mm pc lv (rest) := by
  intro H locs ls hP hP2 hS hl
  refine lv_sipush C.1 C.2.1 d hi ?_
  exact k H locs ls hP hP2 hS hl
theorem l_lconst (C : CX p s m args meth c cc nL own D E cl Ext (fun q => s.heap.size ≤ q)) {i : Fin 2} {j : Int} (hi : Int64.ofNat (i : Nat) = Int64.ofInt j) (d : decode cc pc = .ok (.lconst i, 1)) (k : WLw p l e R s m args below meth c nL D E bX bM ce sl Q Mx Mm (pc + 1) lv (vL j :: rest)) : WLw p l e R s m args below meth c nL D E bX bM ce sl Q Mx Mm pc lv (rest) := by
  intro H locs ls hP hP2 hS hl
  refine lv_lconst C.1 C.2.1 d hi ?_
  exact k H locs ls hP hP2 hS hl
theorem l_ldc (C : CX p s m args meth c cc nL own D E cl Ext (fun q => s.heap.size ≤ q)) {i : Nat} {v : Int32} {j : Int} (hi : v = Int32.ofInt j) (hc : Cond.constant own i v ∈ gws) (d : decode cc pc = .ok (.ldc i, 2)) (k : WLw p l e R s m args below meth c nL D E bX bM ce sl Q Mx Mm (pc + 2) lv (vI j :: rest)) : WLw p l e R s m args below meth c nL D E bX bM ce sl Q Mx Mm pc lv (rest) := by
  intro H locs ls hP hP2 hS hl
  subst hi
  refine lv_ldc C.1 C.2.1 C.2.2.2.1 (C.2.2.2.2.1 _ hc) d ?_
  exact k H locs ls hP hP2 hS hl
theorem l_ldcw (C : CX p s m args meth c cc nL own D E cl Ext (fun q => s.heap.size ≤ q)) {i : Nat} {v : Int32} {j : Int} (hi : v = Int32.ofInt j) (hc : Cond.constant own i v ∈ gws) (d : decode cc pc = .ok (.ldc_w i, 3)) (k : WLw p l e R s m args below meth c nL D E bX bM ce sl Q Mx Mm (pc + 3) lv (vI j :: rest)) : WLw p l e R s m args below meth c nL D E bX bM ce sl Q Mx Mm pc lv (rest) := by
  intro H locs ls hP hP2 hS hl
  subst hi
  refine lv_ldcw C.1 C.2.1 C.2.2.2.1 (C.2.2.2.2.1 _ hc) d ?_
  exact k H locs ls hP hP2 hS hl
theorem l_ldc2 (C : CX p s m args meth c cc nL own D E cl Ext (fun q => s.heap.size ≤ q)) {i : Nat} {v : Int64} {j : Int} (hi : v = Int64.ofInt j) (hc : Cond.constantLong own i v ∈ gws) (d : decode cc pc = .ok (.ldc2_w i, 3)) (k : WLw p l e R s m args below meth c nL D E bX bM ce sl Q Mx Mm (pc + 3) lv (vL j :: rest)) : WLw p l e R s m args below meth c nL D E bX bM ce sl Q Mx Mm pc lv (rest) := by
  intro H locs ls hP hP2 hS hl
  subst hi
  refine lv_ldc2 C.1 C.2.1 C.2.2.2.1 (C.2.2.2.2.1 _ hc) d ?_
  exact k H locs ls hP hP2 hS hl
theorem l_iload_n (C : CX p s m args meth c cc nL own D E cl Ext (fun q => s.heap.size ≤ q)) {q : Fin 4} {i : Nat} {x : Int} (t : Nat) (hk : lv[t]? = some (i, vI x)) (hi : (q : Nat) = i) (d : decode cc pc = .ok (.iload_n q, 1)) (k : WLw p l e R s m args below meth c nL D E bX bM ce sl Q Mx Mm (pc + 1) lv (vI x :: rest)) : WLw p l e R s m args below meth c nL D E bX bM ce sl Q Mx Mm pc lv (rest) := by
  intro H locs ls hP hP2 hS hl
  refine lv_iload_n C.1 C.2.1 d hi (lv_at hl t hk) ?_
  exact k H locs ls hP hP2 hS hl
theorem l_iload (C : CX p s m args meth c cc nL own D E cl Ext (fun q => s.heap.size ≤ q)) {i : Nat} {x : Int} (t : Nat) (hk : lv[t]? = some (i, vI x)) (d : decode cc pc = .ok (.iload i, 2)) (k : WLw p l e R s m args below meth c nL D E bX bM ce sl Q Mx Mm (pc + 2) lv (vI x :: rest)) : WLw p l e R s m args below meth c nL D E bX bM ce sl Q Mx Mm pc lv (rest) := by
  intro H locs ls hP hP2 hS hl
  refine lv_iload C.1 C.2.1 d (lv_at hl t hk) ?_
  exact k H locs ls hP hP2 hS hl
theorem l_lload_n (C : CX p s m args meth c cc nL own D E cl Ext (fun q => s.heap.size ≤ q)) {q : Fin 4} {i : Nat} {x : Int} (t : Nat) (hk : lv[t]? = some (i, vL x)) (hi : (q : Nat) = i) (d : decode cc pc = .ok (.lload_n q, 1)) (k : WLw p l e R s m args below meth c nL D E bX bM ce sl Q Mx Mm (pc + 1) lv (vL x :: rest)) : WLw p l e R s m args below meth c nL D E bX bM ce sl Q Mx Mm pc lv (rest) := by
  intro H locs ls hP hP2 hS hl
  refine lv_lload_n C.1 C.2.1 d hi (lv_at hl t hk) ?_
  exact k H locs ls hP hP2 hS hl
theorem l_lload (C : CX p s m args meth c cc nL own D E cl Ext (fun q => s.heap.size ≤ q)) {i : Nat} {x : Int} (t : Nat) (hk : lv[t]? = some (i, vL x)) (d : decode cc pc = .ok (.lload i, 2)) (k : WLw p l e R s m args below meth c nL D E bX bM ce sl Q Mx Mm (pc + 2) lv (vL x :: rest)) : WLw p l e R s m args below meth c nL D E bX bM ce sl Q Mx Mm pc lv (rest) := by
  intro H locs ls hP hP2 hS hl
  refine lv_lload C.1 C.2.1 d (lv_at hl t hk) ?_
  exact k H locs ls hP hP2 hS hl
theorem l_aload_n (C : CX p s m args meth c cc nL own D E cl Ext (fun q => s.heap.size ≤ q)) {q : Fin 4} {i x : Nat} (t : Nat) (hk : lv[t]? = some (i, vR b x)) (hi : (q : Nat) = i) (d : decode cc pc = .ok (.aload_n q, 1)) (k : WLw p l e R s m args below meth c nL D E bX bM ce sl Q Mx Mm (pc + 1) lv (vR b x :: rest)) : WLw p l e R s m args below meth c nL D E bX bM ce sl Q Mx Mm pc lv (rest) := by
  intro H locs ls hP hP2 hS hl
  refine lv_aload_n C.1 C.2.1 d hi (lv_at hl t hk) ?_
  exact k H locs ls hP hP2 hS hl
theorem l_aload (C : CX p s m args meth c cc nL own D E cl Ext (fun q => s.heap.size ≤ q)) {i x : Nat} (t : Nat) (hk : lv[t]? = some (i, vR b x)) (d : decode cc pc = .ok (.aload i, 2)) (k : WLw p l e R s m args below meth c nL D E bX bM ce sl Q Mx Mm (pc + 2) lv (vR b x :: rest)) : WLw p l e R s m args below meth c nL D E bX bM ce sl Q Mx Mm pc lv (rest) := by
  intro H locs ls hP hP2 hS hl
  refine lv_aload C.1 C.2.1 d (lv_at hl t hk) ?_
  exact k H locs ls hP hP2 hS hl
theorem l_istore_n (C : CX p s m args meth c cc nL own D E cl Ext (fun q => s.heap.size ≤ q)) {q : Fin 4} {i : Nat} {x : Int} (hi : (q : Nat) = i) {lv' : List (Nat × Value)} (d : decode cc pc = .ok (.istore_n q, 1)) (hn : i < nL) (hv : (i, vI x) :: lv.filter (fun q => !(q.1 == i) && !(q.1 + 1 == i && q.2.category == 2)) = lv') (k : WLw p l e R s m args below meth c nL D E bX bM ce sl Q Mx Mm (pc + 1) lv' (rest)) : WLw p l e R s m args below meth c nL D E bX bM ce sl Q Mx Mm pc lv (vI x :: rest) := by
  intro H locs ls hP hP2 hS hl
  refine lv_istore_n (lv' := lv') C.1 C.2.1 d hi hl hn hv ?_
  exact fun ls' hl' => k H locs ls' hP hP2 hS hl'
theorem l_istore (C : CX p s m args meth c cc nL own D E cl Ext (fun q => s.heap.size ≤ q)) {i : Nat} {x : Int} {lv' : List (Nat × Value)} (d : decode cc pc = .ok (.istore i, 2)) (hn : i < nL) (hv : (i, vI x) :: lv.filter (fun q => !(q.1 == i) && !(q.1 + 1 == i && q.2.category == 2)) = lv') (k : WLw p l e R s m args below meth c nL D E bX bM ce sl Q Mx Mm (pc + 2) lv' (rest)) : WLw p l e R s m args below meth c nL D E bX bM ce sl Q Mx Mm pc lv (vI x :: rest) := by
  intro H locs ls hP hP2 hS hl
  refine lv_istore (lv' := lv') C.1 C.2.1 d hl hn hv ?_
  exact fun ls' hl' => k H locs ls' hP hP2 hS hl'
theorem l_lstore_n (C : CX p s m args meth c cc nL own D E cl Ext (fun q => s.heap.size ≤ q)) {q : Fin 4} {i : Nat} {x : Int} (hi : (q : Nat) = i) {lv' : List (Nat × Value)} (d : decode cc pc = .ok (.lstore_n q, 1)) (hn : i + 1 < nL) (hv : (i, vL x) :: lv.filter (fun q => !(q.1 == i) && (!(q.1 == i + 1) && !(q.1 + 1 == i && q.2.category == 2))) = lv') (k : WLw p l e R s m args below meth c nL D E bX bM ce sl Q Mx Mm (pc + 1) lv' (rest)) : WLw p l e R s m args below meth c nL D E bX bM ce sl Q Mx Mm pc lv (vL x :: rest) := by
  intro H locs ls hP hP2 hS hl
  refine lv_lstore_n (lv' := lv') C.1 C.2.1 d hi hl hn hv ?_
  exact fun ls' hl' => k H locs ls' hP hP2 hS hl'
theorem l_lstore (C : CX p s m args meth c cc nL own D E cl Ext (fun q => s.heap.size ≤ q)) {i : Nat} {x : Int} {lv' : List (Nat × Value)} (d : decode cc pc = .ok (.lstore i, 2)) (hn : i + 1 < nL) (hv : (i, vL x) :: lv.filter (fun q => !(q.1 == i) && (!(q.1 == i + 1) && !(q.1 + 1 == i && q.2.category == 2))) = lv') (k : WLw p l e R s m args below meth c nL D E bX bM ce sl Q Mx Mm (pc + 2) lv' (rest)) : WLw p l e R s m args below meth c nL D E bX bM ce sl Q Mx Mm pc lv (vL x :: rest) := by
  intro H locs ls hP hP2 hS hl
  refine lv_lstore (lv' := lv') C.1 C.2.1 d hl hn hv ?_
  exact fun ls' hl' => k H locs ls' hP hP2 hS hl'
theorem l_astore_n (C : CX p s m args meth c cc nL own D E cl Ext (fun q => s.heap.size ≤ q)) {q : Fin 4} {i : Nat} {x : Nat} (hi : (q : Nat) = i) {lv' : List (Nat × Value)} (d : decode cc pc = .ok (.astore_n q, 1)) (hn : i < nL) (hv : (i, vR b x) :: lv.filter (fun q => !(q.1 == i) && !(q.1 + 1 == i && q.2.category == 2)) = lv') (k : WLw p l e R s m args below meth c nL D E bX bM ce sl Q Mx Mm (pc + 1) lv' (rest)) : WLw p l e R s m args below meth c nL D E bX bM ce sl Q Mx Mm pc lv (vR b x :: rest) := by
  intro H locs ls hP hP2 hS hl
  refine lv_astore_n (lv' := lv') C.1 C.2.1 d hi hl hn hv ?_
  exact fun ls' hl' => k H locs ls' hP hP2 hS hl'
theorem l_astore (C : CX p s m args meth c cc nL own D E cl Ext (fun q => s.heap.size ≤ q)) {i : Nat} {x : Nat} {lv' : List (Nat × Value)} (d : decode cc pc = .ok (.astore i, 2)) (hn : i < nL) (hv : (i, vR b x) :: lv.filter (fun q => !(q.1 == i) && !(q.1 + 1 == i && q.2.category == 2)) = lv') (k : WLw p l e R s m args below meth c nL D E bX bM ce sl Q Mx Mm (pc + 2) lv' (rest)) : WLw p l e R s m args below meth c nL D E bX bM ce sl Q Mx Mm pc lv (vR b x :: rest) := by
  intro H locs ls hP hP2 hS hl
  refine lv_astore (lv' := lv') C.1 C.2.1 d hl hn hv ?_
  exact fun ls' hl' => k H locs ls' hP hP2 hS hl'
theorem l_iinc (C : CX p s m args meth c cc nL own D E cl Ext (fun q => s.heap.size ≤ q)) {i : Nat} {q x : Int} (t : Nat) (hk : lv[t]? = some (i, vI x)) {lv' : List (Nat × Value)} (d : decode cc pc = .ok (.iinc i q, 3)) (hn : i < nL) (hv : (i, vI (x + q)) :: lv.filter (fun q => !(q.1 == i) && !(q.1 + 1 == i && q.2.category == 2)) = lv') (k : WLw p l e R s m args below meth c nL D E bX bM ce sl Q Mx Mm (pc + 3) lv' (rest)) : WLw p l e R s m args below meth c nL D E bX bM ce sl Q Mx Mm pc lv (rest) := by
  intro H locs ls hP hP2 hS hl
  refine lv_iinc (lv' := lv') C.1 C.2.1 d hl hk (by rw [← Int32.ofInt_add]) hn hv ?_
  exact fun ls' hl' => k H locs ls' hP hP2 hS hl'
theorem l_iadd (C : CX p s m args meth c cc nL own D E cl Ext (fun q => s.heap.size ≤ q)) {x y : Int} (d : decode cc pc = .ok (.iadd, 1)) (k : WLw p l e R s m args below meth c nL D E bX bM ce sl Q Mx Mm (pc + 1) lv (vI (x + y) :: rest)) : WLw p l e R s m args below meth c nL D E bX bM ce sl Q Mx Mm pc lv (vI y :: vI x :: rest) := by
  intro H locs ls hP hP2 hS hl
  refine lv_iadd C.1 C.2.1 d ?_
  rw [← Int32.ofInt_add]
  exact k H locs ls hP hP2 hS hl
theorem l_isub (C : CX p s m args meth c cc nL own D E cl Ext (fun q => s.heap.size ≤ q)) {x y : Int} (d : decode cc pc = .ok (.isub, 1)) (k : WLw p l e R s m args below meth c nL D E bX bM ce sl Q Mx Mm (pc + 1) lv (vI (x - y) :: rest)) : WLw p l e R s m args below meth c nL D E bX bM ce sl Q Mx Mm pc lv (vI y :: vI x :: rest) := by
  intro H locs ls hP hP2 hS hl
  refine lv_isub C.1 C.2.1 d ?_
  rw [← Int32.ofInt_sub]
  exact k H locs ls hP hP2 hS hl
theorem l_imul (C : CX p s m args meth c cc nL own D E cl Ext (fun q => s.heap.size ≤ q)) {x y : Int} (d : decode cc pc = .ok (.imul, 1)) (k : WLw p l e R s m args below meth c nL D E bX bM ce sl Q Mx Mm (pc + 1) lv (vI (x * y) :: rest)) : WLw p l e R s m args below meth c nL D E bX bM ce sl Q Mx Mm pc lv (vI y :: vI x :: rest) := by
  intro H locs ls hP hP2 hS hl
  refine lv_imul C.1 C.2.1 d ?_
  rw [← Int32.ofInt_mul]
  exact k H locs ls hP hP2 hS hl
theorem l_ladd (C : CX p s m args meth c cc nL own D E cl Ext (fun q => s.heap.size ≤ q)) {x y : Int} (d : decode cc pc = .ok (.ladd, 1)) (k : WLw p l e R s m args below meth c nL D E bX bM ce sl Q Mx Mm (pc + 1) lv (vL (x + y) :: rest)) : WLw p l e R s m args below meth c nL D E bX bM ce sl Q Mx Mm pc lv (vL y :: vL x :: rest) := by
  intro H locs ls hP hP2 hS hl
  refine lv_ladd C.1 C.2.1 d ?_
  rw [← Int64.ofInt_add]
  exact k H locs ls hP hP2 hS hl
theorem l_lsub (C : CX p s m args meth c cc nL own D E cl Ext (fun q => s.heap.size ≤ q)) {x y : Int} (d : decode cc pc = .ok (.lsub, 1)) (k : WLw p l e R s m args below meth c nL D E bX bM ce sl Q Mx Mm (pc + 1) lv (vL (x - y) :: rest)) : WLw p l e R s m args below meth c nL D E bX bM ce sl Q Mx Mm pc lv (vL y :: vL x :: rest) := by
  intro H locs ls hP hP2 hS hl
  refine lv_lsub C.1 C.2.1 d ?_
  rw [← Int64.ofInt_sub]
  exact k H locs ls hP hP2 hS hl
theorem l_lmul (C : CX p s m args meth c cc nL own D E cl Ext (fun q => s.heap.size ≤ q)) {x y : Int} (d : decode cc pc = .ok (.lmul, 1)) (k : WLw p l e R s m args below meth c nL D E bX bM ce sl Q Mx Mm (pc + 1) lv (vL (x * y) :: rest)) : WLw p l e R s m args below meth c nL D E bX bM ce sl Q Mx Mm pc lv (vL y :: vL x :: rest) := by
  intro H locs ls hP hP2 hS hl
  refine lv_lmul C.1 C.2.1 d ?_
  rw [← Int64.ofInt_mul]
  exact k H locs ls hP hP2 hS hl
theorem l_iand (C : CX p s m args meth c cc nL own D E cl Ext (fun q => s.heap.size ≤ q)) {x y : Int} (d : decode cc pc = .ok (.iand, 1)) (k : WLw p l e R s m args below meth c nL D E bX bM ce sl Q Mx Mm (pc + 1) lv (vI (and32 x y) :: rest)) : WLw p l e R s m args below meth c nL D E bX bM ce sl Q Mx Mm pc lv (vI y :: vI x :: rest) := by
  intro H locs ls hP hP2 hS hl
  refine lv_iand C.1 C.2.1 d ?_
  rw [← and32_of]
  exact k H locs ls hP hP2 hS hl
theorem l_ior (C : CX p s m args meth c cc nL own D E cl Ext (fun q => s.heap.size ≤ q)) {x y : Int} (d : decode cc pc = .ok (.ior, 1)) (k : WLw p l e R s m args below meth c nL D E bX bM ce sl Q Mx Mm (pc + 1) lv (vI (or32 x y) :: rest)) : WLw p l e R s m args below meth c nL D E bX bM ce sl Q Mx Mm pc lv (vI y :: vI x :: rest) := by
  intro H locs ls hP hP2 hS hl
  refine lv_ior C.1 C.2.1 d ?_
  rw [← or32_of]
  exact k H locs ls hP hP2 hS hl
theorem l_ixor (C : CX p s m args meth c cc nL own D E cl Ext (fun q => s.heap.size ≤ q)) {x y : Int} (d : decode cc pc = .ok (.ixor, 1)) (k : WLw p l e R s m args below meth c nL D E bX bM ce sl Q Mx Mm (pc + 1) lv (vI (xor32 x y) :: rest)) : WLw p l e R s m args below meth c nL D E bX bM ce sl Q Mx Mm pc lv (vI y :: vI x :: rest) := by
  intro H locs ls hP hP2 hS hl
  refine lv_ixor C.1 C.2.1 d ?_
  rw [← xor32_of]
  exact k H locs ls hP hP2 hS hl
theorem l_land (C : CX p s m args meth c cc nL own D E cl Ext (fun q => s.heap.size ≤ q)) {x y : Int} (d : decode cc pc = .ok (.land, 1)) (k : WLw p l e R s m args below meth c nL D E bX bM ce sl Q Mx Mm (pc + 1) lv (vL (and64 x y) :: rest)) : WLw p l e R s m args below meth c nL D E bX bM ce sl Q Mx Mm pc lv (vL y :: vL x :: rest) := by
  intro H locs ls hP hP2 hS hl
  refine lv_land C.1 C.2.1 d ?_
  rw [← and64_of]
  exact k H locs ls hP hP2 hS hl
theorem l_lor (C : CX p s m args meth c cc nL own D E cl Ext (fun q => s.heap.size ≤ q)) {x y : Int} (d : decode cc pc = .ok (.lor, 1)) (k : WLw p l e R s m args below meth c nL D E bX bM ce sl Q Mx Mm (pc + 1) lv (vL (or64 x y) :: rest)) : WLw p l e R s m args below meth c nL D E bX bM ce sl Q Mx Mm pc lv (vL y :: vL x :: rest) := by
  intro H locs ls hP hP2 hS hl
  refine lv_lor C.1 C.2.1 d ?_
  rw [← or64_of]
  exact k H locs ls hP hP2 hS hl
theorem l_ishl (C : CX p s m args meth c cc nL own D E cl Ext (fun q => s.heap.size ≤ q)) {x y : Int} (d : decode cc pc = .ok (.ishl, 1)) (k : WLw p l e R s m args below meth c nL D E bX bM ce sl Q Mx Mm (pc + 1) lv (vI (shl32 x y) :: rest)) : WLw p l e R s m args below meth c nL D E bX bM ce sl Q Mx Mm pc lv (vI y :: vI x :: rest) := by
  intro H locs ls hP hP2 hS hl
  refine lv_ishl C.1 C.2.1 d ?_
  rw [← shl32_of]
  exact k H locs ls hP hP2 hS hl
theorem l_ishr (C : CX p s m args meth c cc nL own D E cl Ext (fun q => s.heap.size ≤ q)) {x y : Int} (d : decode cc pc = .ok (.ishr, 1)) (k : WLw p l e R s m args below meth c nL D E bX bM ce sl Q Mx Mm (pc + 1) lv (vI (shr32 x y) :: rest)) : WLw p l e R s m args below meth c nL D E bX bM ce sl Q Mx Mm pc lv (vI y :: vI x :: rest) := by
  intro H locs ls hP hP2 hS hl
  refine lv_ishr C.1 C.2.1 d ?_
  rw [← shr32_of]
  exact k H locs ls hP hP2 hS hl
theorem l_iushr (C : CX p s m args meth c cc nL own D E cl Ext (fun q => s.heap.size ≤ q)) {x y : Int} (d : decode cc pc = .ok (.iushr, 1)) (k : WLw p l e R s m args below meth c nL D E bX bM ce sl Q Mx Mm (pc + 1) lv (vI (ushr32 x y) :: rest)) : WLw p l e R s m args below meth c nL D E bX bM ce sl Q Mx Mm pc lv (vI y :: vI x :: rest) := by
  intro H locs ls hP hP2 hS hl
  refine lv_iushr C.1 C.2.1 d (ushr32_of x y).symm ?_
  exact k H locs ls hP hP2 hS hl
theorem l_lshl (C : CX p s m args meth c cc nL own D E cl Ext (fun q => s.heap.size ≤ q)) {x y : Int} (d : decode cc pc = .ok (.lshl, 1)) (k : WLw p l e R s m args below meth c nL D E bX bM ce sl Q Mx Mm (pc + 1) lv (vL (shl64 x y) :: rest)) : WLw p l e R s m args below meth c nL D E bX bM ce sl Q Mx Mm pc lv (vI y :: vL x :: rest) := by
  intro H locs ls hP hP2 hS hl
  refine lv_lshl C.1 C.2.1 d (shl64_of x y).symm ?_
  exact k H locs ls hP hP2 hS hl
theorem l_lshr (C : CX p s m args meth c cc nL own D E cl Ext (fun q => s.heap.size ≤ q)) {x y : Int} (d : decode cc pc = .ok (.lshr, 1)) (k : WLw p l e R s m args below meth c nL D E bX bM ce sl Q Mx Mm (pc + 1) lv (vL (shr64 x y) :: rest)) : WLw p l e R s m args below meth c nL D E bX bM ce sl Q Mx Mm pc lv (vI y :: vL x :: rest) := by
  intro H locs ls hP hP2 hS hl
  refine lv_lshr C.1 C.2.1 d (shr64_of x y).symm ?_
  exact k H locs ls hP hP2 hS hl
theorem l_i2l (C : CX p s m args meth c cc nL own D E cl Ext (fun q => s.heap.size ≤ q)) {x : Int} (d : decode cc pc = .ok (.i2l, 1)) (k : WLw p l e R s m args below meth c nL D E bX bM ce sl Q Mx Mm (pc + 1) lv (vL (w32 x) :: rest)) : WLw p l e R s m args below meth c nL D E bX bM ce sl Q Mx Mm pc lv (vI x :: rest) := by
  intro H locs ls hP hP2 hS hl
  refine lv_i2l C.1 C.2.1 d (i2l_of x) ?_
  exact k H locs ls hP hP2 hS hl
theorem l_l2i (C : CX p s m args meth c cc nL own D E cl Ext (fun q => s.heap.size ≤ q)) {x : Int} (d : decode cc pc = .ok (.l2i, 1)) (k : WLw p l e R s m args below meth c nL D E bX bM ce sl Q Mx Mm (pc + 1) lv (vI x :: rest)) : WLw p l e R s m args below meth c nL D E bX bM ce sl Q Mx Mm pc lv (vL x :: rest) := by
  intro H locs ls hP hP2 hS hl
  refine lv_l2i C.1 C.2.1 d (l2i_of x) ?_
  exact k H locs ls hP hP2 hS hl
theorem l_idiv (C : CX p s m args meth c cc nL own D E cl Ext (fun q => s.heap.size ≤ q)) {x y : Int} (hy : w32 y ≠ 0) (d : decode cc pc = .ok (.idiv, 1)) (k : WLw p l e R s m args below meth c nL D E bX bM ce sl Q Mx Mm (pc + 1) lv (vI ((w32 x).tdiv (w32 y)) :: rest)) : WLw p l e R s m args below meth c nL D E bX bM ce sl Q Mx Mm pc lv (vI y :: vI x :: rest) := by
  intro H locs ls hP hP2 hS hl
  refine lv_idiv C.1 C.2.1 d (i_ne0 hy) ?_
  rw [idiv_of]
  exact k H locs ls hP hP2 hS hl
theorem l_irem (C : CX p s m args meth c cc nL own D E cl Ext (fun q => s.heap.size ≤ q)) {x y : Int} (hy : w32 y ≠ 0) (d : decode cc pc = .ok (.irem, 1)) (k : WLw p l e R s m args below meth c nL D E bX bM ce sl Q Mx Mm (pc + 1) lv (vI ((w32 x).tmod (w32 y)) :: rest)) : WLw p l e R s m args below meth c nL D E bX bM ce sl Q Mx Mm pc lv (vI y :: vI x :: rest) := by
  intro H locs ls hP hP2 hS hl
  refine lv_irem C.1 C.2.1 d (i_ne0 hy) ?_
  rw [irem_of]
  exact k H locs ls hP hP2 hS hl
theorem l_ldiv (C : CX p s m args meth c cc nL own D E cl Ext (fun q => s.heap.size ≤ q)) {x y : Int} (hy : w64 y ≠ 0) (d : decode cc pc = .ok (.ldiv, 1)) (k : WLw p l e R s m args below meth c nL D E bX bM ce sl Q Mx Mm (pc + 1) lv (vL ((w64 x).tdiv (w64 y)) :: rest)) : WLw p l e R s m args below meth c nL D E bX bM ce sl Q Mx Mm pc lv (vL y :: vL x :: rest) := by
  intro H locs ls hP hP2 hS hl
  refine lv_ldiv C.1 C.2.1 d (l_ne0 hy) ?_
  rw [ldiv_of]
  exact k H locs ls hP hP2 hS hl
theorem l_lrem (C : CX p s m args meth c cc nL own D E cl Ext (fun q => s.heap.size ≤ q)) {x y : Int} (hy : w64 y ≠ 0) (d : decode cc pc = .ok (.lrem, 1)) (k : WLw p l e R s m args below meth c nL D E bX bM ce sl Q Mx Mm (pc + 1) lv (vL ((w64 x).tmod (w64 y)) :: rest)) : WLw p l e R s m args below meth c nL D E bX bM ce sl Q Mx Mm pc lv (vL y :: vL x :: rest) := by
  intro H locs ls hP hP2 hS hl
  refine lv_lrem C.1 C.2.1 d (l_ne0 hy) ?_
  rw [lrem_of]
  exact k H locs ls hP hP2 hS hl
theorem l_lcmp (C : CX p s m args meth c cc nL own D E cl Ext (fun q => s.heap.size ≤ q)) {x y : Int} (d : decode cc pc = .ok (.lcmp, 1)) (k : WLw p l e R s m args below meth c nL D E bX bM ce sl Q Mx Mm (pc + 1) lv (vI (lcmp x y) :: rest)) : WLw p l e R s m args below meth c nL D E bX bM ce sl Q Mx Mm pc lv (vL y :: vL x :: rest) := by
  intro H locs ls hP hP2 hS hl
  refine W.lcmp C.1 C.2.1 d ?_
  rw [lcmp_of]
  exact k H locs ls hP hP2 hS hl
theorem l_dup (C : CX p s m args meth c cc nL own D E cl Ext (fun q => s.heap.size ≤ q)) {v : Value} (hv : v.category = 1) (d : decode cc pc = .ok (.dup, 1)) (k : WLw p l e R s m args below meth c nL D E bX bM ce sl Q Mx Mm (pc + 1) lv (v :: v :: rest)) : WLw p l e R s m args below meth c nL D E bX bM ce sl Q Mx Mm pc lv (v :: rest) := by
  intro H locs ls hP hP2 hS hl
  refine lv_dup C.1 C.2.1 d hv ?_
  exact k H locs ls hP hP2 hS hl
theorem l_pop (C : CX p s m args meth c cc nL own D E cl Ext (fun q => s.heap.size ≤ q)) {v : Value} (hv : v.category = 1) (d : decode cc pc = .ok (.pop, 1)) (k : WLw p l e R s m args below meth c nL D E bX bM ce sl Q Mx Mm (pc + 1) lv (rest)) : WLw p l e R s m args below meth c nL D E bX bM ce sl Q Mx Mm pc lv (v :: rest) := by
  intro H locs ls hP hP2 hS hl
  refine lv_pop C.1 C.2.1 d hv ?_
  exact k H locs ls hP hP2 hS hl
theorem l_dup_x1 (C : CX p s m args meth c cc nL own D E cl Ext (fun q => s.heap.size ≤ q)) {v w : Value} (hv : v.category = 1) (hw : w.category = 1) (d : decode cc pc = .ok (.dup_x1, 1)) (k : WLw p l e R s m args below meth c nL D E bX bM ce sl Q Mx Mm (pc + 1) lv (v :: w :: v :: rest)) : WLw p l e R s m args below meth c nL D E bX bM ce sl Q Mx Mm pc lv (v :: w :: rest) := by
  intro H locs ls hP hP2 hS hl
  refine lv_dup_x1 C.1 C.2.1 d hv hw ?_
  exact k H locs ls hP hP2 hS hl
theorem l_dup_x2 (C : CX p s m args meth c cc nL own D E cl Ext (fun q => s.heap.size ≤ q)) {v w u : Value} (hv : v.category = 1) (hw : w.category = 1) (hu : u.category = 1) (d : decode cc pc = .ok (.dup_x2, 1)) (k : WLw p l e R s m args below meth c nL D E bX bM ce sl Q Mx Mm (pc + 1) lv (v :: w :: u :: v :: rest)) : WLw p l e R s m args below meth c nL D E bX bM ce sl Q Mx Mm pc lv (v :: w :: u :: rest) := by
  intro H locs ls hP hP2 hS hl
  refine lv_dup_x2 C.1 C.2.1 d hv hw hu ?_
  exact k H locs ls hP hP2 hS hl
theorem l_dup2 (C : CX p s m args meth c cc nL own D E cl Ext (fun q => s.heap.size ≤ q)) {v w : Value} (hv : v.category = 1) (hw : w.category = 1) (d : decode cc pc = .ok (.dup2, 1)) (k : WLw p l e R s m args below meth c nL D E bX bM ce sl Q Mx Mm (pc + 1) lv (v :: w :: v :: w :: rest)) : WLw p l e R s m args below meth c nL D E bX bM ce sl Q Mx Mm pc lv (v :: w :: rest) := by
  intro H locs ls hP hP2 hS hl
  refine lv_dup2_11 C.1 C.2.1 d hv hw ?_
  exact k H locs ls hP hP2 hS hl
theorem l_if_eq (C : CX p s m args meth c cc nL own D E cl Ext (fun q => s.heap.size ≤ q)) {x : Int} {off : Int} {tgt : Nat} {α : Type} {f g : Option α} {r : α} (h : (if w32 x = 0 then f else g) = some r) (d : decode cc pc = .ok (.ifCond .eq off, 3)) (ht : (pc : Int) + off = (tgt : Int)) (kt : w32 x = 0 → f = some r → WLw p l e R s m args below meth c nL D E bX bM ce sl Q Mx Mm tgt lv (rest)) (kf : ¬ (w32 x = 0) → g = some r → WLw p l e R s m args below meth c nL D E bX bM ce sl Q Mx Mm (pc + 3) lv (rest)) : WLw p l e R s m args below meth c nL D E bX bM ce sl Q Mx Mm pc lv (vI x :: rest) := by
  intro H locs ls hP hP2 hS hl
  by_cases hq : w32 x = 0
  · rw [if_pos hq] at h
    exact lv_if_eq C.1 C.2.1 d ht (fun _ => kt hq h H locs ls hP hP2 hS hl) (fun z => absurd ((I_eq0).mpr hq) z)
  · rw [if_neg hq] at h
    exact lv_if_eq C.1 C.2.1 d ht (fun z => absurd ((I_eq0).mp z) hq) (fun _ => kf hq h H locs ls hP hP2 hS hl)
theorem l_icmp_eq (C : CX p s m args meth c cc nL own D E cl Ext (fun q => s.heap.size ≤ q)) {x y : Int} {off : Int} {tgt : Nat} {α : Type} {f g : Option α} {r : α} (h : (if w32 x = w32 y then f else g) = some r) (d : decode cc pc = .ok (.if_icmp .eq off, 3)) (ht : (pc : Int) + off = (tgt : Int)) (kt : w32 x = w32 y → f = some r → WLw p l e R s m args below meth c nL D E bX bM ce sl Q Mx Mm tgt lv (rest)) (kf : ¬ (w32 x = w32 y) → g = some r → WLw p l e R s m args below meth c nL D E bX bM ce sl Q Mx Mm (pc + 3) lv (rest)) : WLw p l e R s m args below meth c nL D E bX bM ce sl Q Mx Mm pc lv (vI y :: vI x :: rest) := by
  intro H locs ls hP hP2 hS hl
  by_cases hq : w32 x = w32 y
  · rw [if_pos hq] at h
    exact lv_icmp_eq C.1 C.2.1 d ht (fun _ => kt hq h H locs ls hP hP2 hS hl) (fun z => absurd ((I_eq).mpr hq) z)
  · rw [if_neg hq] at h
    exact lv_icmp_eq C.1 C.2.1 d ht (fun z => absurd ((I_eq).mp z) hq) (fun _ => kf hq h H locs ls hP hP2 hS hl)
theorem l_if_ne (C : CX p s m args meth c cc nL own D E cl Ext (fun q => s.heap.size ≤ q)) {x : Int} {off : Int} {tgt : Nat} {α : Type} {f g : Option α} {r : α} (h : (if ¬ w32 x = 0 then f else g) = some r) (d : decode cc pc = .ok (.ifCond .ne off, 3)) (ht : (pc : Int) + off = (tgt : Int)) (kt : ¬ w32 x = 0 → f = some r → WLw p l e R s m args below meth c nL D E bX bM ce sl Q Mx Mm tgt lv (rest)) (kf : ¬ (¬ w32 x = 0) → g = some r → WLw p l e R s m args below meth c nL D E bX bM ce sl Q Mx Mm (pc + 3) lv (rest)) : WLw p l e R s m args below meth c nL D E bX bM ce sl Q Mx Mm pc lv (vI x :: rest) := by
  intro H locs ls hP hP2 hS hl
  by_cases hq : ¬ w32 x = 0
  · rw [if_pos hq] at h
    exact lv_if_ne C.1 C.2.1 d ht (fun _ => kt hq h H locs ls hP hP2 hS hl) (fun z => absurd z ((not_congr I_eq0).mpr hq))
  · rw [if_neg hq] at h
    exact lv_if_ne C.1 C.2.1 d ht (fun z => absurd ((not_congr I_eq0).mp z) hq) (fun _ => kf hq h H locs ls hP hP2 hS hl)
theorem l_icmp_ne (C : CX p s m args meth c cc nL own D E cl Ext (fun q => s.heap.size ≤ q)) {x y : Int} {off : Int} {tgt : Nat} {α : Type} {f g : Option α} {r : α} (h : (if ¬ w32 x = w32 y then f else g) = some r) (d : decode cc pc = .ok (.if_icmp .ne off, 3)) (ht : (pc : Int) + off = (tgt : Int)) (kt : ¬ w32 x = w32 y → f = some r → WLw p l e R s m args below meth c nL D E bX bM ce sl Q Mx Mm tgt lv (rest)) (kf : ¬ (¬ w32 x = w32 y) → g = some r → WLw p l e R s m args below meth c nL D E bX bM ce sl Q Mx Mm (pc + 3) lv (rest)) : WLw p l e R s m args below meth c nL D E bX bM ce sl Q Mx Mm pc lv (vI y :: vI x :: rest) := by
  intro H locs ls hP hP2 hS hl
  by_cases hq : ¬ w32 x = w32 y
  · rw [if_pos hq] at h
    exact lv_icmp_ne C.1 C.2.1 d ht (fun _ => kt hq h H locs ls hP hP2 hS hl) (fun z => absurd z ((not_congr I_eq).mpr hq))
  · rw [if_neg hq] at h
    exact lv_icmp_ne C.1 C.2.1 d ht (fun z => absurd ((not_congr I_eq).mp z) hq) (fun _ => kf hq h H locs ls hP hP2 hS hl)
theorem l_if_lt (C : CX p s m args meth c cc nL own D E cl Ext (fun q => s.heap.size ≤ q)) {x : Int} {off : Int} {tgt : Nat} {α : Type} {f g : Option α} {r : α} (h : (if w32 x < 0 then f else g) = some r) (d : decode cc pc = .ok (.ifCond .lt off, 3)) (ht : (pc : Int) + off = (tgt : Int)) (kt : w32 x < 0 → f = some r → WLw p l e R s m args below meth c nL D E bX bM ce sl Q Mx Mm tgt lv (rest)) (kf : ¬ (w32 x < 0) → g = some r → WLw p l e R s m args below meth c nL D E bX bM ce sl Q Mx Mm (pc + 3) lv (rest)) : WLw p l e R s m args below meth c nL D E bX bM ce sl Q Mx Mm pc lv (vI x :: rest) := by
  intro H locs ls hP hP2 hS hl
  by_cases hq : w32 x < 0
  · rw [if_pos hq] at h
    exact lv_if_lt C.1 C.2.1 d ht (fun _ => kt hq h H locs ls hP hP2 hS hl) (fun z => absurd ((I_lt0).mpr hq) z)
  · rw [if_neg hq] at h
    exact lv_if_lt C.1 C.2.1 d ht (fun z => absurd ((I_lt0).mp z) hq) (fun _ => kf hq h H locs ls hP hP2 hS hl)
theorem l_icmp_lt (C : CX p s m args meth c cc nL own D E cl Ext (fun q => s.heap.size ≤ q)) {x y : Int} {off : Int} {tgt : Nat} {α : Type} {f g : Option α} {r : α} (h : (if w32 x < w32 y then f else g) = some r) (d : decode cc pc = .ok (.if_icmp .lt off, 3)) (ht : (pc : Int) + off = (tgt : Int)) (kt : w32 x < w32 y → f = some r → WLw p l e R s m args below meth c nL D E bX bM ce sl Q Mx Mm tgt lv (rest)) (kf : ¬ (w32 x < w32 y) → g = some r → WLw p l e R s m args below meth c nL D E bX bM ce sl Q Mx Mm (pc + 3) lv (rest)) : WLw p l e R s m args below meth c nL D E bX bM ce sl Q Mx Mm pc lv (vI y :: vI x :: rest) := by
  intro H locs ls hP hP2 hS hl
  by_cases hq : w32 x < w32 y
  · rw [if_pos hq] at h
    exact lv_icmp_lt C.1 C.2.1 d ht (fun _ => kt hq h H locs ls hP hP2 hS hl) (fun z => absurd ((I_lt).mpr hq) z)
  · rw [if_neg hq] at h
    exact lv_icmp_lt C.1 C.2.1 d ht (fun z => absurd ((I_lt).mp z) hq) (fun _ => kf hq h H locs ls hP hP2 hS hl)
theorem l_if_ge (C : CX p s m args meth c cc nL own D E cl Ext (fun q => s.heap.size ≤ q)) {x : Int} {off : Int} {tgt : Nat} {α : Type} {f g : Option α} {r : α} (h : (if 0 ≤ w32 x then f else g) = some r) (d : decode cc pc = .ok (.ifCond .ge off, 3)) (ht : (pc : Int) + off = (tgt : Int)) (kt : 0 ≤ w32 x → f = some r → WLw p l e R s m args below meth c nL D E bX bM ce sl Q Mx Mm tgt lv (rest)) (kf : ¬ (0 ≤ w32 x) → g = some r → WLw p l e R s m args below meth c nL D E bX bM ce sl Q Mx Mm (pc + 3) lv (rest)) : WLw p l e R s m args below meth c nL D E bX bM ce sl Q Mx Mm pc lv (vI x :: rest) := by
  intro H locs ls hP hP2 hS hl
  by_cases hq : 0 ≤ w32 x
  · rw [if_pos hq] at h
    exact lv_if_ge C.1 C.2.1 d ht (fun _ => kt hq h H locs ls hP hP2 hS hl) (fun z => absurd ((I_ge0).mpr hq) z)
  · rw [if_neg hq] at h
    exact lv_if_ge C.1 C.2.1 d ht (fun z => absurd ((I_ge0).mp z) hq) (fun _ => kf hq h H locs ls hP hP2 hS hl)
theorem l_icmp_ge (C : CX p s m args meth c cc nL own D E cl Ext (fun q => s.heap.size ≤ q)) {x y : Int} {off : Int} {tgt : Nat} {α : Type} {f g : Option α} {r : α} (h : (if w32 y ≤ w32 x then f else g) = some r) (d : decode cc pc = .ok (.if_icmp .ge off, 3)) (ht : (pc : Int) + off = (tgt : Int)) (kt : w32 y ≤ w32 x → f = some r → WLw p l e R s m args below meth c nL D E bX bM ce sl Q Mx Mm tgt lv (rest)) (kf : ¬ (w32 y ≤ w32 x) → g = some r → WLw p l e R s m args below meth c nL D E bX bM ce sl Q Mx Mm (pc + 3) lv (rest)) : WLw p l e R s m args below meth c nL D E bX bM ce sl Q Mx Mm pc lv (vI y :: vI x :: rest) := by
  intro H locs ls hP hP2 hS hl
  by_cases hq : w32 y ≤ w32 x
  · rw [if_pos hq] at h
    exact lv_icmp_ge C.1 C.2.1 d ht (fun _ => kt hq h H locs ls hP hP2 hS hl) (fun z => absurd ((I_le).mpr hq) z)
  · rw [if_neg hq] at h
    exact lv_icmp_ge C.1 C.2.1 d ht (fun z => absurd ((I_le).mp z) hq) (fun _ => kf hq h H locs ls hP hP2 hS hl)
theorem l_if_gt (C : CX p s m args meth c cc nL own D E cl Ext (fun q => s.heap.size ≤ q)) {x : Int} {off : Int} {tgt : Nat} {α : Type} {f g : Option α} {r : α} (h : (if 0 < w32 x then f else g) = some r) (d : decode cc pc = .ok (.ifCond .gt off, 3)) (ht : (pc : Int) + off = (tgt : Int)) (kt : 0 < w32 x → f = some r → WLw p l e R s m args below meth c nL D E bX bM ce sl Q Mx Mm tgt lv (rest)) (kf : ¬ (0 < w32 x) → g = some r → WLw p l e R s m args below meth c nL D E bX bM ce sl Q Mx Mm (pc + 3) lv (rest)) : WLw p l e R s m args below meth c nL D E bX bM ce sl Q Mx Mm pc lv (vI x :: rest) := by
  intro H locs ls hP hP2 hS hl
  by_cases hq : 0 < w32 x
  · rw [if_pos hq] at h
    exact lv_if_gt C.1 C.2.1 d ht (fun _ => kt hq h H locs ls hP hP2 hS hl) (fun z => absurd ((I_gt0).mpr hq) z)
  · rw [if_neg hq] at h
    exact lv_if_gt C.1 C.2.1 d ht (fun z => absurd ((I_gt0).mp z) hq) (fun _ => kf hq h H locs ls hP hP2 hS hl)
theorem l_icmp_gt (C : CX p s m args meth c cc nL own D E cl Ext (fun q => s.heap.size ≤ q)) {x y : Int} {off : Int} {tgt : Nat} {α : Type} {f g : Option α} {r : α} (h : (if w32 y < w32 x then f else g) = some r) (d : decode cc pc = .ok (.if_icmp .gt off, 3)) (ht : (pc : Int) + off = (tgt : Int)) (kt : w32 y < w32 x → f = some r → WLw p l e R s m args below meth c nL D E bX bM ce sl Q Mx Mm tgt lv (rest)) (kf : ¬ (w32 y < w32 x) → g = some r → WLw p l e R s m args below meth c nL D E bX bM ce sl Q Mx Mm (pc + 3) lv (rest)) : WLw p l e R s m args below meth c nL D E bX bM ce sl Q Mx Mm pc lv (vI y :: vI x :: rest) := by
  intro H locs ls hP hP2 hS hl
  by_cases hq : w32 y < w32 x
  · rw [if_pos hq] at h
    exact lv_icmp_gt C.1 C.2.1 d ht (fun _ => kt hq h H locs ls hP hP2 hS hl) (fun z => absurd ((I_lt).mpr hq) z)
  · rw [if_neg hq] at h
    exact lv_icmp_gt C.1 C.2.1 d ht (fun z => absurd ((I_lt).mp z) hq) (fun _ => kf hq h H locs ls hP hP2 hS hl)
theorem l_if_le (C : CX p s m args meth c cc nL own D E cl Ext (fun q => s.heap.size ≤ q)) {x : Int} {off : Int} {tgt : Nat} {α : Type} {f g : Option α} {r : α} (h : (if w32 x ≤ 0 then f else g) = some r) (d : decode cc pc = .ok (.ifCond .le off, 3)) (ht : (pc : Int) + off = (tgt : Int)) (kt : w32 x ≤ 0 → f = some r → WLw p l e R s m args below meth c nL D E bX bM ce sl Q Mx Mm tgt lv (rest)) (kf : ¬ (w32 x ≤ 0) → g = some r → WLw p l e R s m args below meth c nL D E bX bM ce sl Q Mx Mm (pc + 3) lv (rest)) : WLw p l e R s m args below meth c nL D E bX bM ce sl Q Mx Mm pc lv (vI x :: rest) := by
  intro H locs ls hP hP2 hS hl
  by_cases hq : w32 x ≤ 0
  · rw [if_pos hq] at h
    exact lv_if_le C.1 C.2.1 d ht (fun _ => kt hq h H locs ls hP hP2 hS hl) (fun z => absurd ((I_le0).mpr hq) z)
  · rw [if_neg hq] at h
    exact lv_if_le C.1 C.2.1 d ht (fun z => absurd ((I_le0).mp z) hq) (fun _ => kf hq h H locs ls hP hP2 hS hl)
theorem l_icmp_le (C : CX p s m args meth c cc nL own D E cl Ext (fun q => s.heap.size ≤ q)) {x y : Int} {off : Int} {tgt : Nat} {α : Type} {f g : Option α} {r : α} (h : (if w32 x ≤ w32 y then f else g) = some r) (d : decode cc pc = .ok (.if_icmp .le off, 3)) (ht : (pc : Int) + off = (tgt : Int)) (kt : w32 x ≤ w32 y → f = some r → WLw p l e R s m args below meth c nL D E bX bM ce sl Q Mx Mm tgt lv (rest)) (kf : ¬ (w32 x ≤ w32 y) → g = some r → WLw p l e R s m args below meth c nL D E bX bM ce sl Q Mx Mm (pc + 3) lv (rest)) : WLw p l e R s m args below meth c nL D E bX bM ce sl Q Mx Mm pc lv (vI y :: vI x :: rest) := by
  intro H locs ls hP hP2 hS hl
  by_cases hq : w32 x ≤ w32 y
  · rw [if_pos hq] at h
    exact lv_icmp_le C.1 C.2.1 d ht (fun _ => kt hq h H locs ls hP hP2 hS hl) (fun z => absurd ((I_le).mpr hq) z)
  · rw [if_neg hq] at h
    exact lv_icmp_le C.1 C.2.1 d ht (fun z => absurd ((I_le).mp z) hq) (fun _ => kf hq h H locs ls hP hP2 hS hl)
theorem l_if_eqB (C : CX p s m args meth c cc nL own D E cl Ext (fun q => s.heap.size ≤ q)) {x : Bool} {off : Int} {tgt : Nat} {α : Type} {f g : Option α} {r : α} (h : (if x = true then f else g) = some r) (d : decode cc pc = .ok (.ifCond .eq off, 3)) (ht : (pc : Int) + off = (tgt : Int)) (kt : x = true → f = some r → WLw p l e R s m args below meth c nL D E bX bM ce sl Q Mx Mm (pc + 3) lv (rest)) (kf : x = false → g = some r → WLw p l e R s m args below meth c nL D E bX bM ce sl Q Mx Mm tgt lv (rest)) : WLw p l e R s m args below meth c nL D E bX bM ce sl Q Mx Mm pc lv (vB x :: rest) := by
  intro H locs ls hP hP2 hS hl
  cases x
  · rw [if_neg (by decide)] at h
    exact lv_if_eq C.1 C.2.1 d ht (fun _ => kf rfl h H locs ls hP hP2 hS hl) (fun z => absurd (by decide) z)
  · rw [if_pos rfl] at h
    exact lv_if_eq C.1 C.2.1 d ht (fun z => absurd z (by decide)) (fun _ => kt rfl h H locs ls hP hP2 hS hl)
theorem l_if_neB (C : CX p s m args meth c cc nL own D E cl Ext (fun q => s.heap.size ≤ q)) {x : Bool} {off : Int} {tgt : Nat} {α : Type} {f g : Option α} {r : α} (h : (if x = true then f else g) = some r) (d : decode cc pc = .ok (.ifCond .ne off, 3)) (ht : (pc : Int) + off = (tgt : Int)) (kt : x = true → f = some r → WLw p l e R s m args below meth c nL D E bX bM ce sl Q Mx Mm tgt lv (rest)) (kf : x = false → g = some r → WLw p l e R s m args below meth c nL D E bX bM ce sl Q Mx Mm (pc + 3) lv (rest)) : WLw p l e R s m args below meth c nL D E bX bM ce sl Q Mx Mm pc lv (vB x :: rest) := by
  intro H locs ls hP hP2 hS hl
  cases x
  · rw [if_neg (by decide)] at h
    exact lv_if_ne C.1 C.2.1 d ht (fun z => absurd (by decide) z) (fun _ => kf rfl h H locs ls hP hP2 hS hl)
  · rw [if_pos rfl] at h
    exact lv_if_ne C.1 C.2.1 d ht (fun _ => kt rfl h H locs ls hP hP2 hS hl) (fun z => absurd z (by decide))
theorem l_goto (C : CX p s m args meth c cc nL own D E cl Ext (fun q => s.heap.size ≤ q)) {off : Int} {tgt : Nat} (d : decode cc pc = .ok (.goto off, 3)) (ht : (pc : Int) + off = (tgt : Int)) (k : WLw p l e R s m args below meth c nL D E bX bM ce sl Q Mx Mm tgt lv (rest)) : WLw p l e R s m args below meth c nL D E bX bM ce sl Q Mx Mm pc lv (rest) := by
  intro H locs ls hP hP2 hS hl
  exact lv_goto C.1 C.2.1 d ht (k H locs ls hP hP2 hS hl)
theorem l_table (C : CX p s m args meth c cc nL own D E cl Ext (fun q => s.heap.size ≤ q)) {x : Int} {dflt lo hi : Int} {offs : Array Int} {len : Nat} (tg : Int → Nat) (d : decode cc pc = .ok (.tableswitch dflt lo hi offs, len)) (hin : ∀ i : Int, lo ≤ i → i ≤ hi → ∃ off, offs[(i - lo).toNat]? = some off ∧ (pc : Int) + off = (tg i : Int)) {td : Nat} (ht : (pc : Int) + dflt = (td : Int))
    (ki : lo ≤ w32 x → w32 x ≤ hi → WLw p l e R s m args below meth c nL D E bX bM ce sl Q Mx Mm (tg (w32 x)) lv (rest)) (ko : ¬ (lo ≤ w32 x ∧ w32 x ≤ hi) → WLw p l e R s m args below meth c nL D E bX bM ce sl Q Mx Mm td lv (rest)) : WLw p l e R s m args below meth c nL D E bX bM ce sl Q Mx Mm pc lv (vI x :: rest) := by
  intro H locs ls hP hP2 hS hl
  by_cases hq : lo ≤ w32 x ∧ w32 x ≤ hi
  · obtain ⟨off, h1, h2⟩ := hin _ hq.1 hq.2
    exact lv_tableIn C.1 C.2.1 d (by show ¬ w32 x < lo; omega) (by show ¬ hi < w32 x; omega) h1 h2 (ki hq.1 hq.2 H locs ls hP hP2 hS hl)
  · exact lv_tableOut C.1 C.2.1 d (by show w32 x < lo ∨ hi < w32 x; omega) ht (ko hq H locs ls hP hP2 hS hl)
/-- fewer locals, in another order -/
theorem l_sub {lv' : List (Nat × Value)} {st : List Value} (ks : List Nat) (hv : lv_pick lv ks = lv') (k : WLw p l e R s m args below meth c nL D E bX bM ce sl Q Mx Mm pc lv' (st)) : WLw p l e R s m args below meth c nL D E bX bM ce sl Q Mx Mm pc lv (st) := fun H locs ls hP hP2 hS hl => k H locs ls hP hP2 hS (lv_sub hl ks hv)
end ROWS
section ROWS2
variable {p : Program} {l : Launch} {e : Env} {R : Room} {s : State} {m : MethodId} {args : Array Value} {below : List Frame} {meth : Method} {c : Code} {cc : ByteArray} {nL : Nat} {own : String} {D : va_G} {E : Nat → ClassId} {cl : List vw_C} {b bX bM ce sl : Nat} {Q : State → Prop} {Ext : State → Prop} {Mx Mm : Mem} {pc : Nat} {lv : List (Nat × Value)} {rest : List Value}
theorem l_topI {x y : Int} (h : y = x) (k : WLw p l e R s m args below meth c nL D E bX bM ce sl Q Mx Mm pc lv (vI y :: rest)) : WLw p l e R s m args below meth c nL D E bX bM ce sl Q Mx Mm pc lv (vI x :: rest) := h ▸ k
theorem l_topL {x y : Int} (h : y = x) (k : WLw p l e R s m args below meth c nL D E bX bM ce sl Q Mx Mm pc lv (vL y :: rest)) : WLw p l e R s m args below meth c nL D E bX bM ce sl Q Mx Mm pc lv (vL x :: rest) := h ▸ k
theorem l_iincN (C : CX p s m args meth c cc nL own D E cl Ext (fun q => s.heap.size ≤ q)) {i : Nat} {q x y : Int} (t : Nat) (hk : lv[t]? = some (i, vI x)) {lv' : List (Nat × Value)} (hy : y = x + q) (d : decode cc pc = .ok (.iinc i q, 3)) (hn : i < nL) (hv : (i, vI y) :: lv.filter (fun q => !(q.1 == i) && !(q.1 + 1 == i && q.2.category == 2)) = lv')
    (k : WLw p l e R s m args below meth c nL D E bX bM ce sl Q Mx Mm (pc + 3) lv' rest) : WLw p l e R s m args below meth c nL D E bX bM ce sl Q Mx Mm pc lv rest := by
  subst hy
  exact l_iinc C t hk d hn hv k
theorem l_tabI (C : CX p s m args meth c cc nL own D E cl Ext (fun q => s.heap.size ≤ q)) {x i : Int} {dflt lo hi off : Int} {offs : Array Int} {len tgt : Nat} (hx : w32 x = i) (h1 : lo ≤ i) (h2 : i ≤ hi) (ho : offs[(i - lo).toNat]? = some off) (d : decode cc pc = .ok (.tableswitch dflt lo hi offs, len)) (ht : (pc : Int) + off = (tgt : Int))
    (k : WLw p l e R s m args below meth c nL D E bX bM ce sl Q Mx Mm tgt lv rest) : WLw p l e R s m args below meth c nL D E bX bM ce sl Q Mx Mm pc lv (vI x :: rest) := by
  intro H locs ls hP hP2 hS hl
  subst hx
  exact lv_tableIn C.1 C.2.1 d (by show ¬ w32 x < lo; omega) (by show ¬ hi < w32 x; omega) ho ht (k H locs ls hP hP2 hS hl)
theorem l_tabO (C : CX p s m args meth c cc nL own D E cl Ext (fun q => s.heap.size ≤ q)) {x : Int} {dflt lo hi : Int} {offs : Array Int} {len tgt : Nat} (hx : w32 x < lo ∨ hi < w32 x) (d : decode cc pc = .ok (.tableswitch dflt lo hi offs, len)) (ht : (pc : Int) + dflt = (tgt : Int))
    (k : WLw p l e R s m args below meth c nL D E bX bM ce sl Q Mx Mm tgt lv rest) : WLw p l e R s m args below meth c nL D E bX bM ce sl Q Mx Mm pc lv (vI x :: rest) := by
  intro H locs ls hP hP2 hS hl
  exact lv_tableOut C.1 C.2.1 d hx ht (k H locs ls hP hP2 hS hl)
theorem l_ifnonnull (C : CX p s m args meth c cc nL own D E cl Ext (fun q => s.heap.size ≤ q)) {k : Nat} {off : Int} {tgt : Nat} (d : decode cc pc = .ok (.ifnonnull off, 3)) (ht : (pc : Int) + off = (tgt : Int))
    (kk : WLw p l e R s m args below meth c nL D E bX bM ce sl Q Mx Mm tgt lv rest) : WLw p l e R s m args below meth c nL D E bX bM ce sl Q Mx Mm pc lv (vR b k :: rest) := by
  intro H locs ls hP hP2 hS hl
  exact lv_ifnonnull C.1 C.2.1 d ht (kk H locs ls hP hP2 hS hl)
end ROWS2

section LCALL
variable {p : Program} {l : Launch} {e : Env} {R : Room} {s : State} {m : MethodId} {args : Array Value} {below : List Frame} {meth : Method} {c : Code} {cc : ByteArray} {nL : Nat} {own : String} {D : va_G} {E : Nat → ClassId} {b bX bM ce sl : Nat} {Q : State → Prop} {Ext : State → Prop} {Mx Mm M1 : Mem} {pc : Nat} {lv : List (Nat × Value)} {rest st st1 : List Value} {σ : Nat → Nat}
theorem l_sld (C : CX p s m args meth c cc nL own D E vwCl Ext (fun q => s.heap.size ≤ q)) {L : Nat} {xs : Nat → Int32} (hX : va_X b L xs s s.heap) (hbl : b < s.heap.size) (hL : L ≤ 3072) {i : Int} (hi : 0 ≤ i ∧ i < (L : Int)) (d : decode cc pc = .ok (.iaload, 1))
    (k : WLw p l e R s m args below meth c nL D E bX bM ce sl Q Mx Mm (pc + 1) lv (vI (xs i.toNat).toInt :: rest)) : WLw p l e R s m args below meth c nL D E bX bM ce sl Q Mx Mm pc lv (vI i :: vR b 0 :: rest) := by
  intro H locs ls hP hP2 hS hl
  obtain ⟨q1, q2⟩ := I_clamp hi (by omega)
  refine va_sld C.1 C.2.1 hX hbl (Nat.not_le.mpr hbl) hS q2 d ?_
  rw [q1]
  have h := k H locs ls hP hP2 hS hl
  rw [show vI (xs i.toNat).toInt = Value.int (xs i.toNat) from congrArg Value.int (Int32.ofInt_toInt _)] at h
  exact h
theorem l_slen (C : CX p s m args meth c cc nL own D E vwCl Ext (fun q => s.heap.size ≤ q)) {L : Nat} {xs : Nat → Int32} (hX : va_X b L xs s s.heap) (hbl : b < s.heap.size) (d : decode cc pc = .ok (.arraylength, 1))
    (k : WLw p l e R s m args below meth c nL D E bX bM ce sl Q Mx Mm (pc + 1) lv (vI (L : Int) :: rest)) : WLw p l e R s m args below meth c nL D E bX bM ce sl Q Mx Mm pc lv (vR b 0 :: rest) := by
  intro H locs ls hP hP2 hS hl
  exact va_slen C.1 C.2.1 hX hbl (Nat.not_le.mpr hbl) hS d (k H locs ls hP hP2 hS hl)
theorem Wd_key {sh : Shp} {bb n : Nat} {Rf : Nat → Nat → Nat} {M : Mem} {i : Nat} {q : Nat × va_E} (h : (Wd E sh bb n Rf M)[i]? = some q) : i < n ∧ q.1 = bb + i := by
  by_cases hi : i < n
  · rw [Wd_at hi] at h; cases h; exact ⟨hi, rfl⟩
  · simp [Wd, hi] at h
theorem l_callX (C : CX p s m args meth c cc nL own D E vwCl Ext (fun q => s.heap.size ≤ q)) (hbX : s.heap.size ≤ bX) (hbM : bM = bX + xN) (hE0 : xExt σ bX s) {idx yL rf rl na : Nat} {y : MethodName} {yc : ByteArray} {yret : Option FieldType} {avs : Nat → List Value} {rv : Nat → Option Value} {q : vw_C} {ci : Nat} {kds : List Nat} (As : List Value)
    (hM : Ct l y yc yL yret rf rl vwCl xSh xN xRf (xExt σ) avs Mx rv M1) (hc : CLV own idx y yc yL yret na) (hs : xSh 0 = (ci + 4, kds)) (hcl : vwCl[ci]? = some q) (hq : q.1 = y.cls) (hav : avs bX = vR bX 0 :: As) (hna : As.length = na) (hR : rf + 1 ≤ R.frames ∧ 8 + (yL + 11) + rl ≤ R.locals) (hce : ce ≤ R.cells ∧ sl ≤ R.slots) (hrest : (rest.map fun v => v.category).sum ≤ 8)
    (hst : st = As.reverse ++ vR bX 0 :: rest) (hst1 : (rv bX).toList ++ rest = st1) (d : decode cc pc = .ok (.invokevirtual idx, 3))
    (kk : WLw p l e R s m args below meth c nL D E bX bM ce sl Q M1 Mm (pc + 3) lv st1) : WLw p l e R s m args below meth c nL D E bX bM ce sl Q Mx Mm pc lv st := by
  intro H locs ls hP hP2 hS hl
  subst hst
  obtain ⟨c1, c2, c3, c4, c5, c6, c7⟩ := hc
  have ok : ∀ w ∈ gws, w.before args s = true := C.2.2.2.2.1
  have he : (Wd E xSh bX xN xRf Mx)[0]? = some (bX + 0, .inr (ci, kds.mapIdx (fun j kd => slotV bX (xRf 0) (Mx 0) j kd))) := by rw [Wd_at (by decide), hs, cellE_obj]
  have hM' := hM D E bX
  rw [hav] at hM'
  have hpp : ∀ U : State, U.heap = H → s.WarmedH U.vm → PP (vR bX 0 :: As) D vwCl E xSh bX xN xRf (xExt σ bX) Mx (Value.ref (bX + 0) :: As).toArray U := fun U hU hW =>
    ⟨rfl, by rw [hU]; exact hP, va_K.moved hW.alike C.2.2.2.2.2.1, xExtOK σ bX s U hE0 hW (by rw [hU]; exact hS.1) (fun z h1 _ => by rw [hU]; exact hS.2.1 z h1 (Nat.not_le.mpr h1))⟩
  have hrecv := va_recv C.2.2.2.2.2.1 hP hcl he
  rw [hq] at hrecv
  have hrun := va_runV (R := R) (locs := locs) (cells := ce) (slots := sl) (g := F0 m pc ls (As.reverse ++ vR bX 0 :: rest)) (l := l) (p := p) (e := e) (below := below) (meth := meth) (b := bX + 0) (As := As) (rest := rest) (C := y.cls) (n := na) ⟨C.1, C.2.1, C.2.2.1, C.2.2.2.1, ok⟩ hM' ⟨⟨rfl, rfl, hR.1, hR.2, pay_in ok (goodIn_gws c5), List.mem_cons_self, ok _ c5, ok _ c4, c6, fun sig h => by rw [h] at c7; exact (Option.some.inj c7).symm, ok _ c1⟩, ok _ c2, ok _ c3⟩ ⟨PP_blind (xExtOK σ bX), hrecv, hpp⟩ rfl hna hl.1 rfl (lv_room hrest) d ⟨hce.1, hce.2⟩
  intro T hT X
  obtain ⟨v, st₀, t, T', L, h0, X', hL, e1, e2, ⟨hv, hb, hz, hk⟩, sq⟩ := hrun T hT X
  have hv' : v = rv bX := by cases hv; rfl
  subst hv'
  rw [h0] at hz hk
  obtain ⟨t2, a1, b1⟩ := kk T'.heap (locs ++ L) ls (by rw [e1]; exact hb)
    (hP2.kept (fun i z hi => by
      obtain ⟨w1, w2⟩ := Wd_key hi
      rw [e1]
      exact hk _ ((hP2 i z hi).lt) (fun w => by have := w.2; omega)))
    ⟨Nat.le_trans hS.1 (by rw [e1]; exact hz), fun z h1 h2 => by rw [e1, hk z (Nat.lt_of_lt_of_le h1 hS.1) (fun w => by have := w.1; omega)]; exact hS.2.1 z h1 h2, fun z hz' => by
      rcases List.mem_append.mp hz' with h | h
      · exact hS.2.2 z h
      · have := (hL z h).1
        show s.heap.size ≤ z.base
        omega⟩ hl T' rfl X'
  rw [← hst1] at a1
  exact ⟨t2, sq t2 a1, b1⟩
theorem l_callM (C : CX p s m args meth c cc nL own D E vwCl Ext (fun q => s.heap.size ≤ q)) (hbX : s.heap.size ≤ bX) (hbM : bM = bX + xN) {idx yL rf rl na : Nat} {y : MethodName} {yc : ByteArray} {yret : Option FieldType} {avs : Nat → List Value} {rv : Nat → Option Value} {q : vw_C} {ci : Nat} {kds : List Nat} (As : List Value)
    (hM : Ct l y yc yL yret rf rl vwCl mSh mN mRf mExt avs Mm rv M1) (hc : CLV own idx y yc yL yret na) (hs : mSh 0 = (ci + 4, kds)) (hcl : vwCl[ci]? = some q) (hq : q.1 = y.cls) (hav : avs bM = vR bM 0 :: As) (hna : As.length = na) (hR : rf + 1 ≤ R.frames ∧ 8 + (yL + 11) + rl ≤ R.locals) (hce : ce ≤ R.cells ∧ sl ≤ R.slots) (hrest : (rest.map fun v => v.category).sum ≤ 8)
    (hst : st = As.reverse ++ vR bM 0 :: rest) (hst1 : (rv bM).toList ++ rest = st1) (d : decode cc pc = .ok (.invokevirtual idx, 3))
    (kk : WLw p l e R s m args below meth c nL D E bX bM ce sl Q Mx M1 (pc + 3) lv st1) : WLw p l e R s m args below meth c nL D E bX bM ce sl Q Mx Mm pc lv st := by
  intro H locs ls hP hP2 hS hl
  subst hst
  obtain ⟨c1, c2, c3, c4, c5, c6, c7⟩ := hc
  have ok : ∀ w ∈ gws, w.before args s = true := C.2.2.2.2.1
  have he : (Wd E mSh bM mN mRf Mm)[0]? = some (bM + 0, .inr (ci, kds.mapIdx (fun j kd => slotV bM (mRf 0) (Mm 0) j kd))) := by rw [Wd_at (by decide), hs, cellE_obj]
  have hM' := hM D E bM
  rw [hav] at hM'
  have hpp : ∀ U : State, U.heap = H → s.WarmedH U.vm → PP (vR bM 0 :: As) D vwCl E mSh bM mN mRf (mExt bM) Mm (Value.ref (bM + 0) :: As).toArray U := fun U hU hW =>
    ⟨rfl, by rw [hU]; exact hP2, va_K.moved hW.alike C.2.2.2.2.2.1, trivial⟩
  have hrecv := va_recv C.2.2.2.2.2.1 hP2 hcl he
  rw [hq] at hrecv
  have hrun := va_runV (R := R) (locs := locs) (cells := ce) (slots := sl) (g := F0 m pc ls (As.reverse ++ vR bM 0 :: rest)) (l := l) (p := p) (e := e) (below := below) (meth := meth) (b := bM + 0) (As := As) (rest := rest) (C := y.cls) (n := na) ⟨C.1, C.2.1, C.2.2.1, C.2.2.2.1, ok⟩ hM' ⟨⟨rfl, rfl, hR.1, hR.2, pay_in ok (goodIn_gws c5), List.mem_cons_self, ok _ c5, ok _ c4, c6, fun sig h => by rw [h] at c7; exact (Option.some.inj c7).symm, ok _ c1⟩, ok _ c2, ok _ c3⟩ ⟨PP_blind (mExtOK bM), hrecv, hpp⟩ rfl hna hl.1 rfl (lv_room hrest) d ⟨hce.1, hce.2⟩
  intro T hT X
  obtain ⟨v, st₀, t, T', L, h0, X', hL, e1, e2, ⟨hv, hb, hz, hk⟩, sq⟩ := hrun T hT X
  have hv' : v = rv bM := by cases hv; rfl
  subst hv'
  rw [h0] at hz hk
  obtain ⟨t2, a1, b1⟩ := kk T'.heap (locs ++ L) ls
    (hP.kept (fun i z hi => by
      obtain ⟨w1, w2⟩ := Wd_key hi
      rw [e1]
      exact hk _ ((hP i z hi).lt) (fun w => by have := w.1; omega)))
    (by rw [e1]; exact hb)
    ⟨Nat.le_trans hS.1 (by rw [e1]; exact hz), fun z h1 h2 => by rw [e1, hk z (Nat.lt_of_lt_of_le h1 hS.1) (fun w => by have := w.1; omega)]; exact hS.2.1 z h1 h2, fun z hz' => by
      rcases List.mem_append.mp hz' with h | h
      · exact hS.2.2 z h
      · have := (hL z h).1
        show s.heap.size ≤ z.base
        omega⟩ hl T' rfl X'
  rw [← hst1] at a1
  exact ⟨t2, sq t2 a1, b1⟩
end LCALL
