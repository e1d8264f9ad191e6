/-! MORE ROWS: references out of rows, references that change, copies -/
abbrev dV (b : Nat) (x : Int) : Value := va_rf (rO b x.toNat)
/-- n places of the row a into the row k, both from 0 on -/
def cpyM (M : Mem) (a k n : Nat) : Mem := fun q j => if q = k ∧ j < n then M a j else M q j
theorem Wd_set2 {E : Nat → ClassId} {sh : Shp} {b n : Nat} {Rf : Nat → Nat → Nat} {M M1 : Mem} {k : Nat} {x : va_E} (hx : cellE E b (sh k) (Rf k) (M1 k) = x) (ho : ∀ q, q ≠ k → M1 q = M q) :
    (Wd E sh b n Rf M).set k (b + k, x) = Wd E sh b n Rf M1 := by
  apply List.ext_getElem?
  intro j
  rw [List.getElem?_set]
  by_cases hj : k = j
  · subst hj
    by_cases hk : k < n
    · rw [Wd_at (M := M1) hk, hx]; simp [Wd, hk]
    · simp [Wd, hk]
  · rw [if_neg hj]
    by_cases hk : j < n
    · rw [Wd_at hk, Wd_at hk, ho j (fun e => hj e.symm)]
    · simp [Wd, hk]
theorem cellE_refs {E : Nat → ClassId} {b L t : Nat} {ls : List Nat} {rf : Nat → Nat} {m : Nat → Int} : cellE E b (3, L :: t :: ls) rf m = .inl (E t, L, .inr (.inr (.inr (.inr (fun i => rO b (rf i)))))) := rfl
section MORE
variable {p : Program} {l : Launch} {e : Env} {R : Room} {s : State} {m : MethodId} {args : Array Value} {below : List Frame} {meth : Method} {c : Code} {cc : ByteArray} {nL : Nat} {own : String} {D : va_G} {E : Nat → ClassId} {cl : List vw_C} {sh : Shp} {b n : Nat} {Rf : Nat → Nat → Nat} {Q : State → Prop} {Ext : State → Prop} {M M1 : Mem} {pc : Nat} {lv : List (Nat × Value)} {rest : List Value}
theorem r_aald (C : CX p s m args meth c cc nL own D E cl Ext (AW b n)) {k L t r : Nat} {tl : List Nat} {ty : FieldType} (hs : sh k = (3, L :: t :: tl)) (hk : k < n) (hL : L ≤ 2147483647) (hty : ∀ E, (tysOf E)[t]? = some (E t, ty)) (hrf : ty.isReference = true) {i : Int} (hi : 0 ≤ i ∧ i < (L : Int)) {iN : Nat} (hN : i.toNat = iN) (hr : Rf k iN = r + 1) (d : decode cc pc = .ok (.aaload, 1))
    (kk : WX p l e R s m args below meth c nL D E cl sh b n Rf Q M (pc + 1) lv (vR b r :: rest)) : WX p l e R s m args below meth c nL D E cl sh b n Rf Q M pc lv (vI i :: vR b k :: rest) := by
  subst hN
  intro H locs ls hP hS hl
  have he : (Wd E sh b n Rf M)[k]? = some (b + k, .inl (E t, L, .inr (.inr (.inr (.inr (fun i => rO b (Rf k i))))))) := by rw [Wd_at hk, hs, cellE_refs]
  obtain ⟨q1, q2⟩ := I_clamp hi hL
  have hlt : i.toNat < L := by omega
  refine W.aald (v := va_rf (rO b (Rf k i.toNat))) (ty := ty) C.1 C.2.1 (hP k _ he) ((C.2.2.2.2.2.1.2 t _ (hty E)).1 L (fun j => va_rf (rO b (Rf k j)))) hrf (fun q => by cases q) ?_ ?_ rfl rfl d ?_
  · show ¬ (Int32.ofInt i < 0 ∨ (arrV _ _ _).slots.size ≤ _)
    rw [arrV_size]
    exact q2
  · show (arrV _ _ _).slots[_]? = _
    rw [q1, arrV_read _ _ hlt]
  · rw [hr]
    exact kk H locs ls hP hS hl
theorem r_aret {Ext : Nat → State → Prop} (C : CX p s m args meth c cc nL own D E cl (Ext b) (AW b n)) {k : Nat} {rv : Option Value} {ty : FieldType} (hr : meth.sig.returnType = some ty) (hty : ∃ n, ty = .object n) (hrv : rv = some (vR b k)) (hM : M1 = M) (d : decode cc pc = .ok (.areturn, 1)) :
    WX p l e R s m args below meth c nL D E cl sh b n Rf (MQ below (QQ D cl E sh b n Rf rv M1) args s 0 0 (AW b n)) M pc lv [vR b k] := by
  intro H locs ls hP hS hl
  subst hrv; subst hM
  exact W.aret C.1 C.2.1 hr (Or.inl hty) (Or.inr ⟨_, rfl⟩) (fun t ht _ => ⟨rfl, by rw [ht]; exact hP, hS.F ht⟩) hS.2.2 d C.2.2.2.2.2.2.1
theorem r_getD (C : CX p s m args meth c cc nL own D E cl Ext (AW b n)) {idx ci j k : Nat} {kds : List Nat} (hf : FL cl own idx ci j) (hs : sh k = (ci + 4, kds)) (hk : k < n) (hj : kds[j]? = some 4) (d : decode cc pc = .ok (.getfield idx, 3))
    (kk : WX p l e R s m args below meth c nL D E cl sh b n Rf Q M (pc + 3) lv (dV b (M k j) :: rest)) : WX p l e R s m args below meth c nL D E cl sh b n Rf Q M pc lv (vR b k :: rest) := r_getV C hf hs hk hj rfl d kk
theorem r_topD {x : Int} {k : Nat} (hx : x = (k : Int) + 1) (kk : WX p l e R s m args below meth c nL D E cl sh b n Rf Q M pc lv (vR b k :: rest)) : WX p l e R s m args below meth c nL D E cl sh b n Rf Q M pc lv (dV b x :: rest) := by
  have : dV b x = vR b k := by
    show va_rf (rO b x.toNat) = _
    rw [show x.toNat = k + 1 by omega]
    rfl
  rw [this]
  exact kk
theorem r_putD (C : CX p s m args meth c cc nL own D E cl Ext (AW b n)) {idx ci j k r : Nat} {kds : List Nat} {cn : String} (hf : FL cl own idx ci j) (ht : FT cl ci) (hw : FW cl ci j (.object cn)) (hs : sh k = (ci + 4, kds)) (hk : k < n) (hj : kds[j]? = some 4) (hM : M1 = upM M k j ((r : Int) + 1)) (d : decode cc pc = .ok (.putfield idx, 3))
    (kk : WX p l e R s m args below meth c nL D E cl sh b n Rf Q M1 (pc + 3) lv rest) : WX p l e R s m args below meth c nL D E cl sh b n Rf Q M pc lv (vR b r :: vR b k :: rest) :=
  r_putV C hf ht hw hs hk hj (fun _ => Iff.rfl) (fun mm h => by show va_rf (rO b (mm j).toNat) = _; rw [h, show ((r : Int) + 1).toNat = r + 1 by omega]; rfl) rfl rfl hM d kk
theorem r_ifnullD (C : CX p s m args meth c cc nL own D E cl Ext (AW b n)) {x : Int} {off : Int} {tgt : Nat} {α : Type} {f g : Option α} {r : α} (h : (if x.toNat = 0 then f else g) = some r) (d : decode cc pc = .ok (.ifnull off, 3)) (ht : (pc : Int) + off = (tgt : Int))
    (kt : x.toNat = 0 → f = some r → WX p l e R s m args below meth c nL D E cl sh b n Rf Q M tgt lv rest) (kf : ¬ (x.toNat = 0) → g = some r → WX p l e R s m args below meth c nL D E cl sh b n Rf Q M (pc + 3) lv rest) : WX p l e R s m args below meth c nL D E cl sh b n Rf Q M pc lv (dV b x :: rest) := by
  intro H locs ls hP hS hl
  by_cases hq : x.toNat = 0
  · rw [if_pos hq] at h
    have e1 : dV b x = .null := by show va_rf (rO b x.toNat) = _; rw [hq]; rfl
    rw [e1]
    exact lv_ifnullN C.1 C.2.1 d ht (kt hq h H locs ls hP hS hl)
  · rw [if_neg hq] at h
    obtain ⟨y, hy⟩ : ∃ y, x.toNat = y + 1 := ⟨x.toNat - 1, by omega⟩
    have e1 : dV b x = vR b y := by show va_rf (rO b x.toNat) = _; rw [hy]; rfl
    rw [e1]
    exact lv_ifnull C.1 C.2.1 d (kf hq h H locs ls hP hS hl)
def CLA (own : String) (idx : Nat) : Prop := Cond.methodLink own idx arraycopyName ∈ gws ∧ Cond.native arraycopyName ∈ gws ∧ Cond.static arraycopyName ∈ gws ∧ Cond.initialized "java/lang/System" ∈ gws
theorem r_copy (C : CX p s m args meth c cc nL own D E cl Ext (AW b n)) {idx k0 k1 L0 L1 nn : Nat} {t0 t1 : List Nat} {x : Int} (hc : CLA own idx) (hs0 : sh k0 = (0, L0 :: t0)) (hk0 : k0 < n) (hL0 : L0 ≤ 2147483647) (hs1 : sh k1 = (0, L1 :: t1)) (hk1 : k1 < n) (hL1 : L1 ≤ 2147483647) (hx : x = (nn : Int)) (h0 : nn ≤ L0) (h1 : nn ≤ L1) (hM : M1 = cpyM M k0 k1 nn)
    (hframes : 1 ≤ R.frames) (hlocals : (rest.map fun v => v.category).sum + (nativeFrameWords "java/lang/System" "arraycopy" 5 + 11) ≤ R.locals) (d : decode cc pc = .ok (.invokestatic idx, 3))
    (kk : WX p l e R s m args below meth c nL D E cl sh b n Rf Q M1 (pc + 3) lv rest) : WX p l e R s m args below meth c nL D E cl sh b n Rf Q M pc lv (vI x :: vI 0 :: vR b k1 :: vI 0 :: vR b k0 :: rest) := by
  intro H locs ls hP hS hl
  subst hx
  obtain ⟨c1, c2, c3, c4⟩ := hc
  have ok : ∀ w ∈ gws, w.before args s = true := C.2.2.2.2.1
  have ha0 : (Wd E sh b n Rf M)[k0]? = some (b + k0, .inl (E 0, L0, .inl (fun i => Int32.ofInt (M k0 i)))) := by rw [Wd_at hk0, hs0, cellE_int]
  have ha1 : (Wd E sh b n Rf M)[k1]? = some (b + k1, .inl (E 0, L1, .inl (fun i => Int32.ofInt (M k1 i)))) := by rw [Wd_at hk1, hs1, cellE_int]
  have e0 : (Int32.ofInt 0).toNatClampNeg = 0 := by decide
  have ex : (Int32.ofInt (nn : Int)).toInt = (nn : Int) := w32_eq (by omega) (by omega)
  have en : (Int32.ofInt (nn : Int)).toNatClampNeg = nn := by
    unfold Int32.toNatClampNeg
    rw [ex]
    omega
  have hn : ¬ Int32.ofInt (nn : Int) < 0 := by
    rw [I_lt0]
    show ¬ (Int32.ofInt (nn : Int)).toInt < 0
    rw [ex]
    omega
  refine va_copyi C.1 C.2.1 (C.2.2.1.trans hl.1.symm) C.2.2.2.1 (ok _ c1) (ok _ c2) (ok _ c3) (ok _ c4) C.2.2.2.2.2.1 hP Wd_D hS k0 k1 0 0 ha0 ha1 rfl rfl rfl (by decide) (by decide) hn (by rw [e0, en]; omega) (by rw [e0, en]; omega) (fun i _ => rfl) hframes hlocals d ?_
  intro H1 locs1 hP1 _ hS1
  rw [e0, en, Wd_set2 (M1 := cpyM M k0 k1 nn) ?_ ?_] at hP1
  · rw [← hM] at hP1
    exact kk H1 locs1 ls hP1 hS1 hl
  · rw [hs1, cellE_int]
    congr 4
    funext i
    unfold va_cpy cpyM
    by_cases hi : i < nn
    · rw [if_pos ⟨rfl, hi⟩, if_pos ⟨Nat.zero_le _, by omega⟩]
      simp
    · rw [if_neg (fun q => hi q.2), if_neg (fun q => hi (by omega))]
  · intro q hq
    funext i
    unfold cpyM
    rw [if_neg (fun z => hq z.1)]
theorem r_ineg (C : CX p s m args meth c cc nL own D E cl Ext (AW b n)) {x : Int} (d : decode cc pc = .ok (.ineg, 1)) (kk : WX p l e R s m args below meth c nL D E cl sh b n Rf Q M (pc + 1) lv (vI (-x) :: rest)) : WX p l e R s m args below meth c nL D E cl sh b n Rf Q M pc lv (vI x :: rest) := by
  intro H locs ls hP hS hl
  refine lv_ineg C.1 C.2.1 d ?_
  rw [← Int32.ofInt_neg]
  exact kk H locs ls hP hS hl
end MORE
/-- the same of a method of a class that has natives beside it -/
theorem Ct_ofF {l : Launch} {y : MethodName} {cc : ByteArray} {nL : Nat} {ret : Option FieldType} {rf rl : Nat} {cl : List vw_C} {sh : Shp} {n : Nat} {Rf : Nat → Nat → Nat} {Ext : Nat → State → Prop} {avs : Nat → List Value} {M : Mem} {rv : Nat → Option Value} {M1 : Mem}
    (hE : ∀ b, ExtOK (Ext b) (AW b n)) (hy : plainFor y = true) (hlen : ∀ b, (lg_sl (avs b)).length ≤ nL)
    (body : ∀ (p : Program) (e : Env) (s : State) (m : MethodId) (args : Array Value) (below : List Frame) (meth : Method) (c : Code) (D : va_G) (E : Nat → ClassId) (b : Nat), CX p s m args meth c cc nL y.cls D E cl (Ext b) (AW b n) → meth.sig.returnType = ret →
      WX p l e (mkR rf rl) s m args below meth c nL D E cl sh b n Rf (MQ below (QQ D cl E sh b n Rf (rv b) M1) args s 0 0 (AW b n)) M 0 (lv_args 0 (avs b)) []) :
    Ct l y cc nL ret rf rl cl sh n Rf Ext avs M rv M1 := by
  intro D E b
  refine va_MetF (cc := cc) (maxL := nL) (ret := ret) hy rfl ?_
  intro p e s m args below meth c s₁ B hml hv
  obtain ⟨ha, hP, hK, hX⟩ := hv
  subst ha
  rw [lg_entry_eq]
  have hts : ∀ w ∈ gws, w.before (avs b).toArray s = true := fun w hw => atoms_spec (ws := .code y cc nL ret :: gws) B.pre w (List.mem_cons_of_mem _ hw)
  exact body p e s m (avs b).toArray below meth c D E b ⟨B.exec, B.bytes, hml, findClass_of_methodNamed B.named, hts, hK, B.notSynchronized, fun U h1 h2 h3 => hE b s U hX h1 h2 h3⟩ B.returns s.heap [] _ hP va_S.rf (lv_entry (avs b) (hlen b))
