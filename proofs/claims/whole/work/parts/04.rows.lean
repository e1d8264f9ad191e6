section ROWS
variable {p : Program} {l : Launch} {e : Env} {R : Room} {s : State} {m : MethodId} {args : Array Value} {below : List Frame} {meth : Method} {c : Code} {cc : ByteArray} {nL : Nat} {own : String} {D : va_G} {E : Nat → ClassId} {cl : List vw_C} {sh : Shp} {b n : Nat} {Rf : Nat → Nat → Nat} {Q : State → Prop} {Ext : State → Prop} {M : Mem} {pc : Nat} {lv : List (Nat × Value)} {rest : List Value}
theorem r_iconst (C : CX p s m args meth c cc nL own D E cl Ext (AW b n)) {i : Int} (d : decode cc pc = .ok (.iconst i, 1)) (k : WX p l e R s m args below meth c nL D E cl sh b n Rf Q M (pc + 1) lv (vI i :: rest)) : WX p l e R s m args below meth c nL D E cl sh b n Rf Q M pc lv (rest) := by
  intro H locs ls hP hS hl
  refine lv_iconst C.1 C.2.1 d rfl ?_
  exact k H locs ls hP hS hl
theorem r_bipush (C : CX p s m args meth c cc nL own D E cl Ext (AW b n)) {i j : Int} (hi : (Int8.ofInt i).toInt32 = Int32.ofInt j) (d : decode cc pc = .ok (.bipush i, 2)) (k : WX p l e R s m args below meth c nL D E cl sh b n Rf Q M (pc + 2) lv (vI j :: rest)) : WX p l e R s m args below meth c nL D E cl sh b n Rf Q M pc lv (rest) := by
  intro H locs ls hP hS hl
  refine lv_bipush C.1 C.2.1 d hi ?_
  exact k H locs ls hP hS hl
theorem r_sipush (C : CX p s m args meth c cc nL own D E cl Ext (AW b n)) {i j : Int} (hi : (Int16.ofInt i).toInt32 = Int32.ofInt j) (d : decode cc pc = .ok (.sipush i, 3)) (k : WX p l e R s m args below meth c nL D E cl sh b n Rf Q M (pc + 3) lv (vI j :: rest)) : WX p l e R s m args below meth c nL D E cl sh b n Rf Q M pc lv (rest) := by
  intro H locs ls hP hS hl
  refine lv_sipush C.1 C.2.1 d hi ?_
  exact k H locs ls hP hS hl
theorem r_lconst (C : CX p s m args meth c cc nL own D E cl Ext (AW b n)) {i : Fin 2} {j : Int} (hi : Int64.ofNat (i : Nat) = Int64.ofInt j) (d : decode cc pc = .ok (.lconst i, 1)) (k : WX p l e R s m args below meth c nL D E cl sh b n Rf Q M (pc + 1) lv (vL j :: rest)) : WX p l e R s m args below meth c nL D E cl sh b n Rf Q M pc lv (rest) := by
  intro H locs ls hP hS hl
  refine lv_lconst C.1 C.2.1 d hi ?_
  exact k H locs ls hP hS hl
theorem r_ldc (C : CX p s m args meth c cc nL own D E cl Ext (AW b n)) {i : Nat} {v : Int32} {j : Int} (hi : v = Int32.ofInt j) (hc : Cond.constant own i v ∈ gws) (d : decode cc pc = .ok (.ldc i, 2)) (k : WX p l e R s m args below meth c nL D E cl sh b n Rf Q M (pc + 2) lv (vI j :: rest)) : WX p l e R s m args below meth c nL D E cl sh b n Rf Q M pc lv (rest) := by
  intro H locs ls hP hS hl
  subst hi
  refine lv_ldc C.1 C.2.1 C.2.2.2.1 (C.2.2.2.2.1 _ hc) d ?_
  exact k H locs ls hP hS hl
theorem r_ldcw (C : CX p s m args meth c cc nL own D E cl Ext (AW b n)) {i : Nat} {v : Int32} {j : Int} (hi : v = Int32.ofInt j) (hc : Cond.constant own i v ∈ gws) (d : decode cc pc = .ok (.ldc_w i, 3)) (k : WX p l e R s m args below meth c nL D E cl sh b n Rf Q M (pc + 3) lv (vI j :: rest)) : WX p l e R s m args below meth c nL D E cl sh b n Rf Q M pc lv (rest) := by
  intro H locs ls hP hS hl
  subst hi
  refine lv_ldcw C.1 C.2.1 C.2.2.2.1 (C.2.2.2.2.1 _ hc) d ?_
  exact k H locs ls hP hS hl
theorem r_ldc2 (C : CX p s m args meth c cc nL own D E cl Ext (AW b n)) {i : Nat} {v : Int64} {j : Int} (hi : v = Int64.ofInt j) (hc : Cond.constantLong own i v ∈ gws) (d : decode cc pc = .ok (.ldc2_w i, 3)) (k : WX p l e R s m args below meth c nL D E cl sh b n Rf Q M (pc + 3) lv (vL j :: rest)) : WX p l e R s m args below meth c nL D E cl sh b n Rf Q M pc lv (rest) := by
  intro H locs ls hP hS hl
  subst hi
  refine lv_ldc2 C.1 C.2.1 C.2.2.2.1 (C.2.2.2.2.1 _ hc) d ?_
  exact k H locs ls hP hS hl
theorem r_iload_n (C : CX p s m args meth c cc nL own D E cl Ext (AW b n)) {q : Fin 4} {i : Nat} {x : Int} (t : Nat) (hk : lv[t]? = some (i, vI x)) (hi : (q : Nat) = i) (d : decode cc pc = .ok (.iload_n q, 1)) (k : WX p l e R s m args below meth c nL D E cl sh b n Rf Q M (pc + 1) lv (vI x :: rest)) : WX p l e R s m args below meth c nL D E cl sh b n Rf Q M pc lv (rest) := by
  intro H locs ls hP hS hl
  refine lv_iload_n C.1 C.2.1 d hi (lv_at hl t hk) ?_
  exact k H locs ls hP hS hl
theorem r_iload (C : CX p s m args meth c cc nL own D E cl Ext (AW b n)) {i : Nat} {x : Int} (t : Nat) (hk : lv[t]? = some (i, vI x)) (d : decode cc pc = .ok (.iload i, 2)) (k : WX p l e R s m args below meth c nL D E cl sh b n Rf Q M (pc + 2) lv (vI x :: rest)) : WX p l e R s m args below meth c nL D E cl sh b n Rf Q M pc lv (rest) := by
  intro H locs ls hP hS hl
  refine lv_iload C.1 C.2.1 d (lv_at hl t hk) ?_
  exact k H locs ls hP hS hl
theorem r_lload_n (C : CX p s m args meth c cc nL own D E cl Ext (AW b n)) {q : Fin 4} {i : Nat} {x : Int} (t : Nat) (hk : lv[t]? = some (i, vL x)) (hi : (q : Nat) = i) (d : decode cc pc = .ok (.lload_n q, 1)) (k : WX p l e R s m args below meth c nL D E cl sh b n Rf Q M (pc + 1) lv (vL x :: rest)) : WX p l e R s m args below meth c nL D E cl sh b n Rf Q M pc lv (rest) := by
  intro H locs ls hP hS hl
  refine lv_lload_n C.1 C.2.1 d hi (lv_at hl t hk) ?_
  exact k H locs ls hP hS hl
theorem r_lload (C : CX p s m args meth c cc nL own D E cl Ext (AW b n)) {i : Nat} {x : Int} (t : Nat) (hk : lv[t]? = some (i, vL x)) (d : decode cc pc = .ok (.lload i, 2)) (k : WX p l e R s m args below meth c nL D E cl sh b n Rf Q M (pc + 2) lv (vL x :: rest)) : WX p l e R s m args below meth c nL D E cl sh b n Rf Q M pc lv (rest) := by
  intro H locs ls hP hS hl
  refine lv_lload C.1 C.2.1 d (lv_at hl t hk) ?_
  exact k H locs ls hP hS hl
theorem r_aload_n (C : CX p s m args meth c cc nL own D E cl Ext (AW b n)) {q : Fin 4} {i x : Nat} (t : Nat) (hk : lv[t]? = some (i, vR b x)) (hi : (q : Nat) = i) (d : decode cc pc = .ok (.aload_n q, 1)) (k : WX p l e R s m args below meth c nL D E cl sh b n Rf Q M (pc + 1) lv (vR b x :: rest)) : WX p l e R s m args below meth c nL D E cl sh b n Rf Q M pc lv (rest) := by
  intro H locs ls hP hS hl
  refine lv_aload_n C.1 C.2.1 d hi (lv_at hl t hk) ?_
  exact k H locs ls hP hS hl
theorem r_aload (C : CX p s m args meth c cc nL own D E cl Ext (AW b n)) {i x : Nat} (t : Nat) (hk : lv[t]? = some (i, vR b x)) (d : decode cc pc = .ok (.aload i, 2)) (k : WX p l e R s m args below meth c nL D E cl sh b n Rf Q M (pc + 2) lv (vR b x :: rest)) : WX p l e R s m args below meth c nL D E cl sh b n Rf Q M pc lv (rest) := by
  intro H locs ls hP hS hl
  refine lv_aload C.1 C.2.1 d (lv_at hl t hk) ?_
  exact k H locs ls hP hS hl
theorem r_istore_n (C : CX p s m args meth c cc nL own D E cl Ext (AW b n)) {q : Fin 4} {i : Nat} {x : Int} (hi : (q : Nat) = i) {lv' : List (Nat × Value)} (d : decode cc pc = .ok (.istore_n q, 1)) (hn : i < nL) (hv : (i, vI x) :: lv.filter (fun q => !(q.1 == i) && !(q.1 + 1 == i && q.2.category == 2)) = lv') (k : WX p l e R s m args below meth c nL D E cl sh b n Rf Q M (pc + 1) lv' (rest)) : WX p l e R s m args below meth c nL D E cl sh b n Rf Q M pc lv (vI x :: rest) := by
  intro H locs ls hP hS hl
  refine lv_istore_n (lv' := lv') C.1 C.2.1 d hi hl hn hv ?_
  exact fun ls' hl' => k H locs ls' hP hS hl'
theorem r_istore (C : CX p s m args meth c cc nL own D E cl Ext (AW b n)) {i : Nat} {x : Int} {lv' : List (Nat × Value)} (d : decode cc pc = .ok (.istore i, 2)) (hn : i < nL) (hv : (i, vI x) :: lv.filter (fun q => !(q.1 == i) && !(q.1 + 1 == i && q.2.category == 2)) = lv') (k : WX p l e R s m args below meth c nL D E cl sh b n Rf Q M (pc + 2) lv' (rest)) : WX p l e R s m args below meth c nL D E cl sh b n Rf Q M pc lv (vI x :: rest) := by
  intro H locs ls hP hS hl
  refine lv_istore (lv' := lv') C.1 C.2.1 d hl hn hv ?_
  exact fun ls' hl' => k H locs ls' hP hS hl'
theorem r_lstore_n (C : CX p s m args meth c cc nL own D E cl Ext (AW b n)) {q : Fin 4} {i : Nat} {x : Int} (hi : (q : Nat) = i) {lv' : List (Nat × Value)} (d : decode cc pc = .ok (.lstore_n q, 1)) (hn : i + 1 < nL) (hv : (i, vL x) :: lv.filter (fun q => !(q.1 == i) && (!(q.1 == i + 1) && !(q.1 + 1 == i && q.2.category == 2))) = lv') (k : WX p l e R s m args below meth c nL D E cl sh b n Rf Q M (pc + 1) lv' (rest)) : WX p l e R s m args below meth c nL D E cl sh b n Rf Q M pc lv (vL x :: rest) := by
  intro H locs ls hP hS hl
  refine lv_lstore_n (lv' := lv') C.1 C.2.1 d hi hl hn hv ?_
  exact fun ls' hl' => k H locs ls' hP hS hl'
theorem r_lstore (C : CX p s m args meth c cc nL own D E cl Ext (AW b n)) {i : Nat} {x : Int} {lv' : List (Nat × Value)} (d : decode cc pc = .ok (.lstore i, 2)) (hn : i + 1 < nL) (hv : (i, vL x) :: lv.filter (fun q => !(q.1 == i) && (!(q.1 == i + 1) && !(q.1 + 1 == i && q.2.category == 2))) = lv') (k : WX p l e R s m args below meth c nL D E cl sh b n Rf Q M (pc + 2) lv' (rest)) : WX p l e R s m args below meth c nL D E cl sh b n Rf Q M pc lv (vL x :: rest) := by
  intro H locs ls hP hS hl
  refine lv_lstore (lv' := lv') C.1 C.2.1 d hl hn hv ?_
  exact fun ls' hl' => k H locs ls' hP hS hl'
theorem r_astore_n (C : CX p s m args meth c cc nL own D E cl Ext (AW b n)) {q : Fin 4} {i : Nat} {x : Nat} (hi : (q : Nat) = i) {lv' : List (Nat × Value)} (d : decode cc pc = .ok (.astore_n q, 1)) (hn : i < nL) (hv : (i, vR b x) :: lv.filter (fun q => !(q.1 == i) && !(q.1 + 1 == i && q.2.category == 2)) = lv') (k : WX p l e R s m args below meth c nL D E cl sh b n Rf Q M (pc + 1) lv' (rest)) : WX p l e R s m args below meth c nL D E cl sh b n Rf Q M pc lv (vR b x :: rest) := by
  intro H locs ls hP hS hl
  refine lv_astore_n (lv' := lv') C.1 C.2.1 d hi hl hn hv ?_
  exact fun ls' hl' => k H locs ls' hP hS hl'
theorem r_astore (C : CX p s m args meth c cc nL own D E cl Ext (AW b n)) {i : Nat} {x : Nat} {lv' : List (Nat × Value)} (d : decode cc pc = .ok (.astore i, 2)) (hn : i < nL) (hv : (i, vR b x) :: lv.filter (fun q => !(q.1 == i) && !(q.1 + 1 == i && q.2.category == 2)) = lv') (k : WX p l e R s m args below meth c nL D E cl sh b n Rf Q M (pc + 2) lv' (rest)) : WX p l e R s m args below meth c nL D E cl sh b n Rf Q M pc lv (vR b x :: rest) := by
  intro H locs ls hP hS hl
  refine lv_astore (lv' := lv') C.1 C.2.1 d hl hn hv ?_
  exact fun ls' hl' => k H locs ls' hP hS hl'
theorem r_iinc (C : CX p s m args meth c cc nL own D E cl Ext (AW b n)) {i : Nat} {q x : Int} (t : Nat) (hk : lv[t]? = some (i, vI x)) {lv' : List (Nat × Value)} (d : decode cc pc = .ok (.iinc i q, 3)) (hn : i < nL) (hv : (i, vI (x + q)) :: lv.filter (fun q => !(q.1 == i) && !(q.1 + 1 == i && q.2.category == 2)) = lv') (k : WX p l e R s m args below meth c nL D E cl sh b n Rf Q M (pc + 3) lv' (rest)) : WX p l e R s m args below meth c nL D E cl sh b n Rf Q M pc lv (rest) := by
  intro H locs ls hP hS hl
  refine lv_iinc (lv' := lv') C.1 C.2.1 d hl hk (by rw [← Int32.ofInt_add]) hn hv ?_
  exact fun ls' hl' => k H locs ls' hP hS hl'
theorem r_iadd (C : CX p s m args meth c cc nL own D E cl Ext (AW b n)) {x y : Int} (d : decode cc pc = .ok (.iadd, 1)) (k : WX p l e R s m args below meth c nL D E cl sh b n Rf Q M (pc + 1) lv (vI (x + y) :: rest)) : WX p l e R s m args below meth c nL D E cl sh b n Rf Q M pc lv (vI y :: vI x :: rest) := by
  intro H locs ls hP hS hl
  refine lv_iadd C.1 C.2.1 d ?_
  rw [← Int32.ofInt_add]
  exact k H locs ls hP hS hl
theorem r_isub (C : CX p s m args meth c cc nL own D E cl Ext (AW b n)) {x y : Int} (d : decode cc pc = .ok (.isub, 1)) (k : WX p l e R s m args below meth c nL D E cl sh b n Rf Q M (pc + 1) lv (vI (x - y) :: rest)) : WX p l e R s m args below meth c nL D E cl sh b n Rf Q M pc lv (vI y :: vI x :: rest) := by
  intro H locs ls hP hS hl
  refine lv_isub C.1 C.2.1 d ?_
  rw [← Int32.ofInt_sub]
  exact k H locs ls hP hS hl
theorem r_imul (C : CX p s m args meth c cc nL own D E cl Ext (AW b n)) {x y : Int} (d : decode cc pc = .ok (.imul, 1)) (k : WX p l e R s m args below meth c nL D E cl sh b n Rf Q M (pc + 1) lv (vI (x * y) :: rest)) : WX p l e R s m args below meth c nL D E cl sh b n Rf Q M pc lv (vI y :: vI x :: rest) := by
  intro H locs ls hP hS hl
  refine lv_imul C.1 C.2.1 d ?_
  rw [← Int32.ofInt_mul]
  exact k H locs ls hP hS hl
theorem r_ladd (C : CX p s m args meth c cc nL own D E cl Ext (AW b n)) {x y : Int} (d : decode cc pc = .ok (.ladd, 1)) (k : WX p l e R s m args below meth c nL D E cl sh b n Rf Q M (pc + 1) lv (vL (x + y) :: rest)) : WX p l e R s m args below meth c nL D E cl sh b n Rf Q M pc lv (vL y :: vL x :: rest) := by
  intro H locs ls hP hS hl
  refine lv_ladd C.1 C.2.1 d ?_
  rw [← Int64.ofInt_add]
  exact k H locs ls hP hS hl
theorem r_lsub (C : CX p s m args meth c cc nL own D E cl Ext (AW b n)) {x y : Int} (d : decode cc pc = .ok (.lsub, 1)) (k : WX p l e R s m args below meth c nL D E cl sh b n Rf Q M (pc + 1) lv (vL (x - y) :: rest)) : WX p l e R s m args below meth c nL D E cl sh b n Rf Q M pc lv (vL y :: vL x :: rest) := by
  intro H locs ls hP hS hl
  refine lv_lsub C.1 C.2.1 d ?_
  rw [← Int64.ofInt_sub]
  exact k H locs ls hP hS hl
theorem r_lmul (C : CX p s m args meth c cc nL own D E cl Ext (AW b n)) {x y : Int} (d : decode cc pc = .ok (.lmul, 1)) (k : WX p l e R s m args below meth c nL D E cl sh b n Rf Q M (pc + 1) lv (vL (x * y) :: rest)) : WX p l e R s m args below meth c nL D E cl sh b n Rf Q M pc lv (vL y :: vL x :: rest) := by
  intro H locs ls hP hS hl
  refine lv_lmul C.1 C.2.1 d ?_
  rw [← Int64.ofInt_mul]
  exact k H locs ls hP hS hl
theorem r_iand (C : CX p s m args meth c cc nL own D E cl Ext (AW b n)) {x y : Int} (d : decode cc pc = .ok (.iand, 1)) (k : WX p l e R s m args below meth c nL D E cl sh b n Rf Q M (pc + 1) lv (vI (and32 x y) :: rest)) : WX p l e R s m args below meth c nL D E cl sh b n Rf Q M pc lv (vI y :: vI x :: rest) := by
  intro H locs ls hP hS hl
  refine lv_iand C.1 C.2.1 d ?_
  rw [← and32_of]
  exact k H locs ls hP hS hl
theorem r_ior (C : CX p s m args meth c cc nL own D E cl Ext (AW b n)) {x y : Int} (d : decode cc pc = .ok (.ior, 1)) (k : WX p l e R s m args below meth c nL D E cl sh b n Rf Q M (pc + 1) lv (vI (or32 x y) :: rest)) : WX p l e R s m args below meth c nL D E cl sh b n Rf Q M pc lv (vI y :: vI x :: rest) := by
  intro H locs ls hP hS hl
  refine lv_ior C.1 C.2.1 d ?_
  rw [← or32_of]
  exact k H locs ls hP hS hl
theorem r_ixor (C : CX p s m args meth c cc nL own D E cl Ext (AW b n)) {x y : Int} (d : decode cc pc = .ok (.ixor, 1)) (k : WX p l e R s m args below meth c nL D E cl sh b n Rf Q M (pc + 1) lv (vI (xor32 x y) :: rest)) : WX p l e R s m args below meth c nL D E cl sh b n Rf Q M pc lv (vI y :: vI x :: rest) := by
  intro H locs ls hP hS hl
  refine lv_ixor C.1 C.2.1 d ?_
  rw [← xor32_of]
  exact k H locs ls hP hS hl
theorem r_land (C : CX p s m args meth c cc nL own D E cl Ext (AW b n)) {x y : Int} (d : decode cc pc = .ok (.land, 1)) (k : WX p l e R s m args below meth c nL D E cl sh b n Rf Q M (pc + 1) lv (vL (and64 x y) :: rest)) : WX p l e R s m args below meth c nL D E cl sh b n Rf Q M pc lv (vL y :: vL x :: rest) := by
  intro H locs ls hP hS hl
  refine lv_land C.1 C.2.1 d ?_
  rw [← and64_of]
  exact k H locs ls hP hS hl
theorem r_lor (C : CX p s m args meth c cc nL own D E cl Ext (AW b n)) {x y : Int} (d : decode cc pc = .ok (.lor, 1)) (k : WX p l e R s m args below meth c nL D E cl sh b n Rf Q M (pc + 1) lv (vL (or64 x y) :: rest)) : WX p l e R s m args below meth c nL D E cl sh b n Rf Q M pc lv (vL y :: vL x :: rest) := by
  intro H locs ls hP hS hl
  refine lv_lor C.1 C.2.1 d ?_
  rw [← or64_of]
  exact k H locs ls hP hS hl
theorem r_ishl (C : CX p s m args meth c cc nL own D E cl Ext (AW b n)) {x y : Int} (d : decode cc pc = .ok (.ishl, 1)) (k : WX p l e R s m args below meth c nL D E cl sh b n Rf Q M (pc + 1) lv (vI (shl32 x y) :: rest)) : WX p l e R s m args below meth c nL D E cl sh b n Rf Q M pc lv (vI y :: vI x :: rest) := by
  intro H locs ls hP hS hl
  refine lv_ishl C.1 C.2.1 d ?_
  rw [← shl32_of]
  exact k H locs ls hP hS hl
theorem r_ishr (C : CX p s m args meth c cc nL own D E cl Ext (AW b n)) {x y : Int} (d : decode cc pc = .ok (.ishr, 1)) (k : WX p l e R s m args below meth c nL D E cl sh b n Rf Q M (pc + 1) lv (vI (shr32 x y) :: rest)) : WX p l e R s m args below meth c nL D E cl sh b n Rf Q M pc lv (vI y :: vI x :: rest) := by
  intro H locs ls hP hS hl
  refine lv_ishr C.1 C.2.1 d ?_
  rw [← shr32_of]
  exact k H locs ls hP hS hl
theorem r_iushr (C : CX p s m args meth c cc nL own D E cl Ext (AW b n)) {x y : Int} (d : decode cc pc = .ok (.iushr, 1)) (k : WX p l e R s m args below meth c nL D E cl sh b n Rf Q M (pc + 1) lv (vI (ushr32 x y) :: rest)) : WX p l e R s m args below meth c nL D E cl sh b n Rf Q M pc lv (vI y :: vI x :: rest) := by
  intro H locs ls hP hS hl
  refine lv_iushr C.1 C.2.1 d (ushr32_of x y).symm ?_
  exact k H locs ls hP hS hl
theorem r_lshl (C : CX p s m args meth c cc nL own D E cl Ext (AW b n)) {x y : Int} (d : decode cc pc = .ok (.lshl, 1)) (k : WX p l e R s m args below meth c nL D E cl sh b n Rf Q M (pc + 1) lv (vL (shl64 x y) :: rest)) : WX p l e R s m args below meth c nL D E cl sh b n Rf Q M pc lv (vI y :: vL x :: rest) := by
  intro H locs ls hP hS hl
  refine lv_lshl C.1 C.2.1 d (shl64_of x y).symm ?_
  exact k H locs ls hP hS hl
theorem r_lshr (C : CX p s m args meth c cc nL own D E cl Ext (AW b n)) {x y : Int} (d : decode cc pc = .ok (.lshr, 1)) (k : WX p l e R s m args below meth c nL D E cl sh b n Rf Q M (pc + 1) lv (vL (shr64 x y) :: rest)) : WX p l e R s m args below meth c nL D E cl sh b n Rf Q M pc lv (vI y :: vL x :: rest) := by
  intro H locs ls hP hS hl
  refine lv_lshr C.1 C.2.1 d (shr64_of x y).symm ?_
  exact k H locs ls hP hS hl
theorem r_i2l (C : CX p s m args meth c cc nL own D E cl Ext (AW b n)) {x : Int} (d : decode cc pc = .ok (.i2l, 1)) (k : WX p l e R s m args below meth c nL D E cl sh b n Rf Q M (pc + 1) lv (vL (w32 x) :: rest)) : WX p l e R s m args below meth c nL D E cl sh b n Rf Q M pc lv (vI x :: rest) := by
  intro H locs ls hP hS hl
  refine lv_i2l C.1 C.2.1 d (i2l_of x) ?_
  exact k H locs ls hP hS hl
theorem r_l2i (C : CX p s m args meth c cc nL own D E cl Ext (AW b n)) {x : Int} (d : decode cc pc = .ok (.l2i, 1)) (k : WX p l e R s m args below meth c nL D E cl sh b n Rf Q M (pc + 1) lv (vI x :: rest)) : WX p l e R s m args below meth c nL D E cl sh b n Rf Q M pc lv (vL x :: rest) := by
  intro H locs ls hP hS hl
  refine lv_l2i C.1 C.2.1 d (l2i_of x) ?_
  exact k H locs ls hP hS hl
theorem r_idiv (C : CX p s m args meth c cc nL own D E cl Ext (AW b n)) {x y : Int} (hy : w32 y ≠ 0) (d : decode cc pc = .ok (.idiv, 1)) (k : WX p l e R s m args below meth c nL D E cl sh b n Rf Q M (pc + 1) lv (vI ((w32 x).tdiv (w32 y)) :: rest)) : WX p l e R s m args below meth c nL D E cl sh b n Rf Q M pc lv (vI y :: vI x :: rest) := by
  intro H locs ls hP hS hl
  refine lv_idiv C.1 C.2.1 d (i_ne0 hy) ?_
  rw [idiv_of]
  exact k H locs ls hP hS hl
theorem r_irem (C : CX p s m args meth c cc nL own D E cl Ext (AW b n)) {x y : Int} (hy : w32 y ≠ 0) (d : decode cc pc = .ok (.irem, 1)) (k : WX p l e R s m args below meth c nL D E cl sh b n Rf Q M (pc + 1) lv (vI ((w32 x).tmod (w32 y)) :: rest)) : WX p l e R s m args below meth c nL D E cl sh b n Rf Q M pc lv (vI y :: vI x :: rest) := by
  intro H locs ls hP hS hl
  refine lv_irem C.1 C.2.1 d (i_ne0 hy) ?_
  rw [irem_of]
  exact k H locs ls hP hS hl
theorem r_ldiv (C : CX p s m args meth c cc nL own D E cl Ext (AW b n)) {x y : Int} (hy : w64 y ≠ 0) (d : decode cc pc = .ok (.ldiv, 1)) (k : WX p l e R s m args below meth c nL D E cl sh b n Rf Q M (pc + 1) lv (vL ((w64 x).tdiv (w64 y)) :: rest)) : WX p l e R s m args below meth c nL D E cl sh b n Rf Q M pc lv (vL y :: vL x :: rest) := by
  intro H locs ls hP hS hl
  refine lv_ldiv C.1 C.2.1 d (l_ne0 hy) ?_
  rw [ldiv_of]
  exact k H locs ls hP hS hl
theorem r_lrem (C : CX p s m args meth c cc nL own D E cl Ext (AW b n)) {x y : Int} (hy : w64 y ≠ 0) (d : decode cc pc = .ok (.lrem, 1)) (k : WX p l e R s m args below meth c nL D E cl sh b n Rf Q M (pc + 1) lv (vL ((w64 x).tmod (w64 y)) :: rest)) : WX p l e R s m args below meth c nL D E cl sh b n Rf Q M pc lv (vL y :: vL x :: rest) := by
  intro H locs ls hP hS hl
  refine lv_lrem C.1 C.2.1 d (l_ne0 hy) ?_
  rw [lrem_of]
  exact k H locs ls hP hS hl
theorem r_lcmp (C : CX p s m args meth c cc nL own D E cl Ext (AW b n)) {x y : Int} (d : decode cc pc = .ok (.lcmp, 1)) (k : WX p l e R s m args below meth c nL D E cl sh b n Rf Q M (pc + 1) lv (vI (lcmp x y) :: rest)) : WX p l e R s m args below meth c nL D E cl sh b n Rf Q M pc lv (vL y :: vL x :: rest) := by
  intro H locs ls hP hS hl
  refine W.lcmp C.1 C.2.1 d ?_
  rw [lcmp_of]
  exact k H locs ls hP hS hl
theorem r_dup (C : CX p s m args meth c cc nL own D E cl Ext (AW b n)) {v : Value} (hv : v.category = 1) (d : decode cc pc = .ok (.dup, 1)) (k : WX p l e R s m args below meth c nL D E cl sh b n Rf Q M (pc + 1) lv (v :: v :: rest)) : WX p l e R s m args below meth c nL D E cl sh b n Rf Q M pc lv (v :: rest) := by
  intro H locs ls hP hS hl
  refine lv_dup C.1 C.2.1 d hv ?_
  exact k H locs ls hP hS hl
theorem r_pop (C : CX p s m args meth c cc nL own D E cl Ext (AW b n)) {v : Value} (hv : v.category = 1) (d : decode cc pc = .ok (.pop, 1)) (k : WX p l e R s m args below meth c nL D E cl sh b n Rf Q M (pc + 1) lv (rest)) : WX p l e R s m args below meth c nL D E cl sh b n Rf Q M pc lv (v :: rest) := by
  intro H locs ls hP hS hl
  refine lv_pop C.1 C.2.1 d hv ?_
  exact k H locs ls hP hS hl
theorem r_dup_x1 (C : CX p s m args meth c cc nL own D E cl Ext (AW b n)) {v w : Value} (hv : v.category = 1) (hw : w.category = 1) (d : decode cc pc = .ok (.dup_x1, 1)) (k : WX p l e R s m args below meth c nL D E cl sh b n Rf Q M (pc + 1) lv (v :: w :: v :: rest)) : WX p l e R s m args below meth c nL D E cl sh b n Rf Q M pc lv (v :: w :: rest) := by
  intro H locs ls hP hS hl
  refine lv_dup_x1 C.1 C.2.1 d hv hw ?_
  exact k H locs ls hP hS hl
theorem r_dup_x2 (C : CX p s m args meth c cc nL own D E cl Ext (AW b n)) {v w u : Value} (hv : v.category = 1) (hw : w.category = 1) (hu : u.category = 1) (d : decode cc pc = .ok (.dup_x2, 1)) (k : WX p l e R s m args below meth c nL D E cl sh b n Rf Q M (pc + 1) lv (v :: w :: u :: v :: rest)) : WX p l e R s m args below meth c nL D E cl sh b n Rf Q M pc lv (v :: w :: u :: rest) := by
  intro H locs ls hP hS hl
  refine lv_dup_x2 C.1 C.2.1 d hv hw hu ?_
  exact k H locs ls hP hS hl
theorem r_dup2 (C : CX p s m args meth c cc nL own D E cl Ext (AW b n)) {v w : Value} (hv : v.category = 1) (hw : w.category = 1) (d : decode cc pc = .ok (.dup2, 1)) (k : WX p l e R s m args below meth c nL D E cl sh b n Rf Q M (pc + 1) lv (v :: w :: v :: w :: rest)) : WX p l e R s m args below meth c nL D E cl sh b n Rf Q M pc lv (v :: w :: rest) := by
  intro H locs ls hP hS hl
  refine lv_dup2_11 C.1 C.2.1 d hv hw ?_
  exact k H locs ls hP hS hl
theorem r_if_eq (C : CX p s m args meth c cc nL own D E cl Ext (AW b n)) {x : Int} {off : Int} {tgt : Nat} {α : Type} {f g : Option α} {r : α} (h : (if w32 x = 0 then f else g) = some r) (d : decode cc pc = .ok (.ifCond .eq off, 3)) (ht : (pc : Int) + off = (tgt : Int)) (kt : w32 x = 0 → f = some r → WX p l e R s m args below meth c nL D E cl sh b n Rf Q M tgt lv (rest)) (kf : ¬ (w32 x = 0) → g = some r → WX p l e R s m args below meth c nL D E cl sh b n Rf Q M (pc + 3) lv (rest)) : WX p l e R s m args below meth c nL D E cl sh b n Rf Q M pc lv (vI x :: rest) := by
  intro H locs ls hP hS hl
  by_cases hq : w32 x = 0
  · rw [if_pos hq] at h
    exact lv_if_eq C.1 C.2.1 d ht (fun _ => kt hq h H locs ls hP hS hl) (fun z => absurd ((I_eq0).mpr hq) z)
  · rw [if_neg hq] at h
    exact lv_if_eq C.1 C.2.1 d ht (fun z => absurd ((I_eq0).mp z) hq) (fun _ => kf hq h H locs ls hP hS hl)
theorem r_icmp_eq (C : CX p s m args meth c cc nL own D E cl Ext (AW b n)) {x y : Int} {off : Int} {tgt : Nat} {α : Type} {f g : Option α} {r : α} (h : (if w32 x = w32 y then f else g) = some r) (d : decode cc pc = .ok (.if_icmp .eq off, 3)) (ht : (pc : Int) + off = (tgt : Int)) (kt : w32 x = w32 y → f = some r → WX p l e R s m args below meth c nL D E cl sh b n Rf Q M tgt lv (rest)) (kf : ¬ (w32 x = w32 y) → g = some r → WX p l e R s m args below meth c nL D E cl sh b n Rf Q M (pc + 3) lv (rest)) : WX p l e R s m args below meth c nL D E cl sh b n Rf Q M pc lv (vI y :: vI x :: rest) := by
  intro H locs ls hP hS hl
  by_cases hq : w32 x = w32 y
  · rw [if_pos hq] at h
    exact lv_icmp_eq C.1 C.2.1 d ht (fun _ => kt hq h H locs ls hP hS hl) (fun z => absurd ((I_eq).mpr hq) z)
  · rw [if_neg hq] at h
    exact lv_icmp_eq C.1 C.2.1 d ht (fun z => absurd ((I_eq).mp z) hq) (fun _ => kf hq h H locs ls hP hS hl)
theorem r_if_ne (C : CX p s m args meth c cc nL own D E cl Ext (AW b n)) {x : Int} {off : Int} {tgt : Nat} {α : Type} {f g : Option α} {r : α} (h : (if ¬ w32 x = 0 then f else g) = some r) (d : decode cc pc = .ok (.ifCond .ne off, 3)) (ht : (pc : Int) + off = (tgt : Int)) (kt : ¬ w32 x = 0 → f = some r → WX p l e R s m args below meth c nL D E cl sh b n Rf Q M tgt lv (rest)) (kf : ¬ (¬ w32 x = 0) → g = some r → WX p l e R s m args below meth c nL D E cl sh b n Rf Q M (pc + 3) lv (rest)) : WX p l e R s m args below meth c nL D E cl sh b n Rf Q M pc lv (vI x :: rest) := by
  intro H locs ls hP hS hl
  by_cases hq : ¬ w32 x = 0
  · rw [if_pos hq] at h
    exact lv_if_ne C.1 C.2.1 d ht (fun _ => kt hq h H locs ls hP hS hl) (fun z => absurd z ((not_congr I_eq0).mpr hq))
  · rw [if_neg hq] at h
    exact lv_if_ne C.1 C.2.1 d ht (fun z => absurd ((not_congr I_eq0).mp z) hq) (fun _ => kf hq h H locs ls hP hS hl)
theorem r_icmp_ne (C : CX p s m args meth c cc nL own D E cl Ext (AW b n)) {x y : Int} {off : Int} {tgt : Nat} {α : Type} {f g : Option α} {r : α} (h : (if ¬ w32 x = w32 y then f else g) = some r) (d : decode cc pc = .ok (.if_icmp .ne off, 3)) (ht : (pc : Int) + off = (tgt : Int)) (kt : ¬ w32 x = w32 y → f = some r → WX p l e R s m args below meth c nL D E cl sh b n Rf Q M tgt lv (rest)) (kf : ¬ (¬ w32 x = w32 y) → g = some r → WX p l e R s m args below meth c nL D E cl sh b n Rf Q M (pc + 3) lv (rest)) : WX p l e R s m args below meth c nL D E cl sh b n Rf Q M pc lv (vI y :: vI x :: rest) := by
  intro H locs ls hP hS hl
  by_cases hq : ¬ w32 x = w32 y
  · rw [if_pos hq] at h
    exact lv_icmp_ne C.1 C.2.1 d ht (fun _ => kt hq h H locs ls hP hS hl) (fun z => absurd z ((not_congr I_eq).mpr hq))
  · rw [if_neg hq] at h
    exact lv_icmp_ne C.1 C.2.1 d ht (fun z => absurd ((not_congr I_eq).mp z) hq) (fun _ => kf hq h H locs ls hP hS hl)
theorem r_if_lt (C : CX p s m args meth c cc nL own D E cl Ext (AW b n)) {x : Int} {off : Int} {tgt : Nat} {α : Type} {f g : Option α} {r : α} (h : (if w32 x < 0 then f else g) = some r) (d : decode cc pc = .ok (.ifCond .lt off, 3)) (ht : (pc : Int) + off = (tgt : Int)) (kt : w32 x < 0 → f = some r → WX p l e R s m args below meth c nL D E cl sh b n Rf Q M tgt lv (rest)) (kf : ¬ (w32 x < 0) → g = some r → WX p l e R s m args below meth c nL D E cl sh b n Rf Q M (pc + 3) lv (rest)) : WX p l e R s m args below meth c nL D E cl sh b n Rf Q M pc lv (vI x :: rest) := by
  intro H locs ls hP hS hl
  by_cases hq : w32 x < 0
  · rw [if_pos hq] at h
    exact lv_if_lt C.1 C.2.1 d ht (fun _ => kt hq h H locs ls hP hS hl) (fun z => absurd ((I_lt0).mpr hq) z)
  · rw [if_neg hq] at h
    exact lv_if_lt C.1 C.2.1 d ht (fun z => absurd ((I_lt0).mp z) hq) (fun _ => kf hq h H locs ls hP hS hl)
theorem r_icmp_lt (C : CX p s m args meth c cc nL own D E cl Ext (AW b n)) {x y : Int} {off : Int} {tgt : Nat} {α : Type} {f g : Option α} {r : α} (h : (if w32 x < w32 y then f else g) = some r) (d : decode cc pc = .ok (.if_icmp .lt off, 3)) (ht : (pc : Int) + off = (tgt : Int)) (kt : w32 x < w32 y → f = some r → WX p l e R s m args below meth c nL D E cl sh b n Rf Q M tgt lv (rest)) (kf : ¬ (w32 x < w32 y) → g = some r → WX p l e R s m args below meth c nL D E cl sh b n Rf Q M (pc + 3) lv (rest)) : WX p l e R s m args below meth c nL D E cl sh b n Rf Q M pc lv (vI y :: vI x :: rest) := by
  intro H locs ls hP hS hl
  by_cases hq : w32 x < w32 y
  · rw [if_pos hq] at h
    exact lv_icmp_lt C.1 C.2.1 d ht (fun _ => kt hq h H locs ls hP hS hl) (fun z => absurd ((I_lt).mpr hq) z)
  · rw [if_neg hq] at h
    exact lv_icmp_lt C.1 C.2.1 d ht (fun z => absurd ((I_lt).mp z) hq) (fun _ => kf hq h H locs ls hP hS hl)
theorem r_if_ge (C : CX p s m args meth c cc nL own D E cl Ext (AW b n)) {x : Int} {off : Int} {tgt : Nat} {α : Type} {f g : Option α} {r : α} (h : (if 0 ≤ w32 x then f else g) = some r) (d : decode cc pc = .ok (.ifCond .ge off, 3)) (ht : (pc : Int) + off = (tgt : Int)) (kt : 0 ≤ w32 x → f = some r → WX p l e R s m args below meth c nL D E cl sh b n Rf Q M tgt lv (rest)) (kf : ¬ (0 ≤ w32 x) → g = some r → WX p l e R s m args below meth c nL D E cl sh b n Rf Q M (pc + 3) lv (rest)) : WX p l e R s m args below meth c nL D E cl sh b n Rf Q M pc lv (vI x :: rest) := by
  intro H locs ls hP hS hl
  by_cases hq : 0 ≤ w32 x
  · rw [if_pos hq] at h
    exact lv_if_ge C.1 C.2.1 d ht (fun _ => kt hq h H locs ls hP hS hl) (fun z => absurd ((I_ge0).mpr hq) z)
  · rw [if_neg hq] at h
    exact lv_if_ge C.1 C.2.1 d ht (fun z => absurd ((I_ge0).mp z) hq) (fun _ => kf hq h H locs ls hP hS hl)
theorem r_icmp_ge (C : CX p s m args meth c cc nL own D E cl Ext (AW b n)) {x y : Int} {off : Int} {tgt : Nat} {α : Type} {f g : Option α} {r : α} (h : (if w32 y ≤ w32 x then f else g) = some r) (d : decode cc pc = .ok (.if_icmp .ge off, 3)) (ht : (pc : Int) + off = (tgt : Int)) (kt : w32 y ≤ w32 x → f = some r → WX p l e R s m args below meth c nL D E cl sh b n Rf Q M tgt lv (rest)) (kf : ¬ (w32 y ≤ w32 x) → g = some r → WX p l e R s m args below meth c nL D E cl sh b n Rf Q M (pc + 3) lv (rest)) : WX p l e R s m args below meth c nL D E cl sh b n Rf Q M pc lv (vI y :: vI x :: rest) := by
  intro H locs ls hP hS hl
  by_cases hq : w32 y ≤ w32 x
  · rw [if_pos hq] at h
    exact lv_icmp_ge C.1 C.2.1 d ht (fun _ => kt hq h H locs ls hP hS hl) (fun z => absurd ((I_le).mpr hq) z)
  · rw [if_neg hq] at h
    exact lv_icmp_ge C.1 C.2.1 d ht (fun z => absurd ((I_le).mp z) hq) (fun _ => kf hq h H locs ls hP hS hl)
theorem r_if_gt (C : CX p s m args meth c cc nL own D E cl Ext (AW b n)) {x : Int} {off : Int} {tgt : Nat} {α : Type} {f g : Option α} {r : α} (h : (if 0 < w32 x then f else g) = some r) (d : decode cc pc = .ok (.ifCond .gt off, 3)) (ht : (pc : Int) + off = (tgt : Int)) (kt : 0 < w32 x → f = some r → WX p l e R s m args below meth c nL D E cl sh b n Rf Q M tgt lv (rest)) (kf : ¬ (0 < w32 x) → g = some r → WX p l e R s m args below meth c nL D E cl sh b n Rf Q M (pc + 3) lv (rest)) : WX p l e R s m args below meth c nL D E cl sh b n Rf Q M pc lv (vI x :: rest) := by
  intro H locs ls hP hS hl
  by_cases hq : 0 < w32 x
  · rw [if_pos hq] at h
    exact lv_if_gt C.1 C.2.1 d ht (fun _ => kt hq h H locs ls hP hS hl) (fun z => absurd ((I_gt0).mpr hq) z)
  · rw [if_neg hq] at h
    exact lv_if_gt C.1 C.2.1 d ht (fun z => absurd ((I_gt0).mp z) hq) (fun _ => kf hq h H locs ls hP hS hl)
theorem r_icmp_gt (C : CX p s m args meth c cc nL own D E cl Ext (AW b n)) {x y : Int} {off : Int} {tgt : Nat} {α : Type} {f g : Option α} {r : α} (h : (if w32 y < w32 x then f else g) = some r) (d : decode cc pc = .ok (.if_icmp .gt off, 3)) (ht : (pc : Int) + off = (tgt : Int)) (kt : w32 y < w32 x → f = some r → WX p l e R s m args below meth c nL D E cl sh b n Rf Q M tgt lv (rest)) (kf : ¬ (w32 y < w32 x) → g = some r → WX p l e R s m args below meth c nL D E cl sh b n Rf Q M (pc + 3) lv (rest)) : WX p l e R s m args below meth c nL D E cl sh b n Rf Q M pc lv (vI y :: vI x :: rest) := by
  intro H locs ls hP hS hl
  by_cases hq : w32 y < w32 x
  · rw [if_pos hq] at h
    exact lv_icmp_gt C.1 C.2.1 d ht (fun _ => kt hq h H locs ls hP hS hl) (fun z => absurd ((I_lt).mpr hq) z)
  · rw [if_neg hq] at h
    exact lv_icmp_gt C.1 C.2.1 d ht (fun z => absurd ((I_lt).mp z) hq) (fun _ => kf hq h H locs ls hP hS hl)
theorem r_if_le (C : CX p s m args meth c cc nL own D E cl Ext (AW b n)) {x : Int} {off : Int} {tgt : Nat} {α : Type} {f g : Option α} {r : α} (h : (if w32 x ≤ 0 then f else g) = some r) (d : decode cc pc = .ok (.ifCond .le off, 3)) (ht : (pc : Int) + off = (tgt : Int)) (kt : w32 x ≤ 0 → f = some r → WX p l e R s m args below meth c nL D E cl sh b n Rf Q M tgt lv (rest)) (kf : ¬ (w32 x ≤ 0) → g = some r → WX p l e R s m args below meth c nL D E cl sh b n Rf Q M (pc + 3) lv (rest)) : WX p l e R s m args below meth c nL D E cl sh b n Rf Q M pc lv (vI x :: rest) := by
  intro H locs ls hP hS hl
  by_cases hq : w32 x ≤ 0
  · rw [if_pos hq] at h
    exact lv_if_le C.1 C.2.1 d ht (fun _ => kt hq h H locs ls hP hS hl) (fun z => absurd ((I_le0).mpr hq) z)
  · rw [if_neg hq] at h
    exact lv_if_le C.1 C.2.1 d ht (fun z => absurd ((I_le0).mp z) hq) (fun _ => kf hq h H locs ls hP hS hl)
theorem r_icmp_le (C : CX p s m args meth c cc nL own D E cl Ext (AW b n)) {x y : Int} {off : Int} {tgt : Nat} {α : Type} {f g : Option α} {r : α} (h : (if w32 x ≤ w32 y then f else g) = some r) (d : decode cc pc = .ok (.if_icmp .le off, 3)) (ht : (pc : Int) + off = (tgt : Int)) (kt : w32 x ≤ w32 y → f = some r → WX p l e R s m args below meth c nL D E cl sh b n Rf Q M tgt lv (rest)) (kf : ¬ (w32 x ≤ w32 y) → g = some r → WX p l e R s m args below meth c nL D E cl sh b n Rf Q M (pc + 3) lv (rest)) : WX p l e R s m args below meth c nL D E cl sh b n Rf Q M pc lv (vI y :: vI x :: rest) := by
  intro H locs ls hP hS hl
  by_cases hq : w32 x ≤ w32 y
  · rw [if_pos hq] at h
    exact lv_icmp_le C.1 C.2.1 d ht (fun _ => kt hq h H locs ls hP hS hl) (fun z => absurd ((I_le).mpr hq) z)
  · rw [if_neg hq] at h
    exact lv_icmp_le C.1 C.2.1 d ht (fun z => absurd ((I_le).mp z) hq) (fun _ => kf hq h H locs ls hP hS hl)
theorem r_if_eqB (C : CX p s m args meth c cc nL own D E cl Ext (AW b n)) {x : Bool} {off : Int} {tgt : Nat} {α : Type} {f g : Option α} {r : α} (h : (if x = true then f else g) = some r) (d : decode cc pc = .ok (.ifCond .eq off, 3)) (ht : (pc : Int) + off = (tgt : Int)) (kt : x = true → f = some r → WX p l e R s m args below meth c nL D E cl sh b n Rf Q M (pc + 3) lv (rest)) (kf : x = false → g = some r → WX p l e R s m args below meth c nL D E cl sh b n Rf Q M tgt lv (rest)) : WX p l e R s m args below meth c nL D E cl sh b n Rf Q M pc lv (vB x :: rest) := by
  intro H locs ls hP hS hl
  cases x
  · rw [if_neg (by decide)] at h
    exact lv_if_eq C.1 C.2.1 d ht (fun _ => kf rfl h H locs ls hP hS hl) (fun z => absurd (by decide) z)
  · rw [if_pos rfl] at h
    exact lv_if_eq C.1 C.2.1 d ht (fun z => absurd z (by decide)) (fun _ => kt rfl h H locs ls hP hS hl)
theorem r_if_neB (C : CX p s m args meth c cc nL own D E cl Ext (AW b n)) {x : Bool} {off : Int} {tgt : Nat} {α : Type} {f g : Option α} {r : α} (h : (if x = true then f else g) = some r) (d : decode cc pc = .ok (.ifCond .ne off, 3)) (ht : (pc : Int) + off = (tgt : Int)) (kt : x = true → f = some r → WX p l e R s m args below meth c nL D E cl sh b n Rf Q M tgt lv (rest)) (kf : x = false → g = some r → WX p l e R s m args below meth c nL D E cl sh b n Rf Q M (pc + 3) lv (rest)) : WX p l e R s m args below meth c nL D E cl sh b n Rf Q M pc lv (vB x :: rest) := by
  intro H locs ls hP hS hl
  cases x
  · rw [if_neg (by decide)] at h
    exact lv_if_ne C.1 C.2.1 d ht (fun z => absurd (by decide) z) (fun _ => kf rfl h H locs ls hP hS hl)
  · rw [if_pos rfl] at h
    exact lv_if_ne C.1 C.2.1 d ht (fun _ => kt rfl h H locs ls hP hS hl) (fun z => absurd z (by decide))
theorem r_goto (C : CX p s m args meth c cc nL own D E cl Ext (AW b n)) {off : Int} {tgt : Nat} (d : decode cc pc = .ok (.goto off, 3)) (ht : (pc : Int) + off = (tgt : Int)) (k : WX p l e R s m args below meth c nL D E cl sh b n Rf Q M tgt lv (rest)) : WX p l e R s m args below meth c nL D E cl sh b n Rf Q M pc lv (rest) := by
  intro H locs ls hP hS hl
  exact lv_goto C.1 C.2.1 d ht (k H locs ls hP hS hl)
theorem r_table (C : CX p s m args meth c cc nL own D E cl Ext (AW b n)) {x : Int} {dflt lo hi : Int} {offs : Array Int} {len : Nat} (tg : Int → Nat) (d : decode cc pc = .ok (.tableswitch dflt lo hi offs, len)) (hin : ∀ i : Int, lo ≤ i → i ≤ hi → ∃ off, offs[(i - lo).toNat]? = some off ∧ (pc : Int) + off = (tg i : Int)) {td : Nat} (ht : (pc : Int) + dflt = (td : Int))
    (ki : lo ≤ w32 x → w32 x ≤ hi → WX p l e R s m args below meth c nL D E cl sh b n Rf Q M (tg (w32 x)) lv (rest)) (ko : ¬ (lo ≤ w32 x ∧ w32 x ≤ hi) → WX p l e R s m args below meth c nL D E cl sh b n Rf Q M td lv (rest)) : WX p l e R s m args below meth c nL D E cl sh b n Rf Q M pc lv (vI x :: rest) := by
  intro H locs ls hP hS hl
  by_cases hq : lo ≤ w32 x ∧ w32 x ≤ hi
  · obtain ⟨off, h1, h2⟩ := hin _ hq.1 hq.2
    exact lv_tableIn C.1 C.2.1 d (by show ¬ w32 x < lo; omega) (by show ¬ hi < w32 x; omega) h1 h2 (ki hq.1 hq.2 H locs ls hP hS hl)
  · exact lv_tableOut C.1 C.2.1 d (by show w32 x < lo ∨ hi < w32 x; omega) ht (ko hq H locs ls hP hS hl)
/-- fewer locals, in another order -/
theorem r_sub {lv' : List (Nat × Value)} {st : List Value} (ks : List Nat) (hv : lv_pick lv ks = lv') (k : WX p l e R s m args below meth c nL D E cl sh b n Rf Q M pc lv' (st)) : WX p l e R s m args below meth c nL D E cl sh b n Rf Q M pc lv (st) := fun H locs ls hP hS hl => k H locs ls hP hS (lv_sub hl ks hv)
end ROWS
