/-! CONSTRUCTORS: arrays of references, calls of constructors, their contracts -/
theorem cellE_refs0 {E : Nat → ClassId} {b L t : Nat} {ls : List Nat} {rf : Nat → Nat} {m : Nat → Int} (h : ∀ j, rf j = 0) : cellE E b (3, L :: t :: ls) rf m = .inl (E t, L, .inr (.inr (.inr (.inr (fun _ => none))))) := by
  rw [cellE_refs]
  congr
  funext j
  rw [h]
  rfl
/-- the words that link a private constructor of another class, and of arrays over arrays or objects, as they stand in a state -/
def AOA (U : State) : Prop := (Cond.arrayOver (.array .int)).before #[] U = true
theorem AOA_moved {u U : State} (hvm : u.vm.Alike U.vm) (h : AOA u) : AOA U := by
  obtain ⟨comp, c, k, h1, h2, h3, h4, h5⟩ := arrayOverA_spec h
  obtain ⟨k', hk', he⟩ := hvm.2.2 _ _ h3
  have hb : U.vm.bare = u.vm.bare := by first | exact hvm.bare_eq | exact hvm.bare_eq.symm
  have hi : (U.vm.classes.findIdx? fun (x : Class) => match x.kind with | .array component _ => component == comp | _ => false) = some c :=
    (va_idx_bare U.vm comp).symm.trans ((congrArg (fun v : Vm => v.classes.findIdx? fun (x : Class) => match x.kind with | .array component _ => component == comp | _ => false) hb).trans ((va_idx_bare u.vm comp).trans h2))
  have hkind : k'.kind = .array comp (.array .int) := by rw [he]; exact h4
  have f1 : U.vm.findClass (FieldType.array .int).toString = some comp := by rw [hvm.findClass]; exact h1
  have f2 : U.vm.findClass ("[" ++ (FieldType.array .int).toString) = some c := by rw [hvm.findClass]; exact h5
  unfold AOA Cond.before Cond.holds
  simp only [Cond.value]
  rw [f1, Option.bind_some]
  refine (congrArg (fun o : Option Nat => (o.bind (fun c => (U.vm.classes[c]?).map fun (k : Class) => match k.kind with | .array _ ty => decide (ty = FieldType.array .int) && decide (U.vm.findClass ("[" ++ (FieldType.array .int).toString) = some c) | _ => false) == some true)) hi).trans ?_
  simp [hk', hkind, f2]
def NExt (ws : List Cond) (U : State) : Prop := (∀ w ∈ ws, (∃ own i y h, w = Cond.methodLinkNest own i y h) ∧ va_Nw w U) ∧ va_AO "ThrownVoices$State" U ∧ AOA U
theorem NExt_ok (ws : List Cond) (A : Nat → Prop) : ExtOK (NExt ws) A := by
  intro u U h hw _ _
  refine ⟨fun w hm => ?_, va_AO.moved hw.alike h.2.1, AOA_moved hw.alike h.2.2⟩
  obtain ⟨⟨own, i, y, q, rfl⟩, h2⟩ := h.1 w hm
  exact ⟨⟨own, i, y, q, rfl⟩, va_Nw.warmM hw h2⟩
def mkN (f ce sl lo : Nat) : Room := { frames := f, cells := ce, slots := sl, locals := lo }
def QN (D : va_G) (cl : List vw_C) (E : Nat → ClassId) (sh : Shp) (b n1 : Nat) (Rf1 : Nat → Nat → Nat) (M1 : Mem) : Array Value → State → Outcome → State → Prop :=
  fun _ st oc t => oc = .returned none ∧ va_P D cl (Wd E sh b n1 Rf1 M1) t.heap ∧ va_F (fun q => b ≤ q) st t
def PN (avs : List Value) (D : va_G) (cl : List vw_C) (E : Nat → ClassId) (sh : Shp) (b n : Nat) (Rf : Nat → Nat → Nat) (Ext : State → Prop) (M : Mem) : Array Value → State → Prop :=
  va_Pc avs (fun U => U.heap.size = b + n ∧ va_P D cl (Wd E sh b n Rf M) U.heap ∧ va_K D cl (tysOf E) U ∧ Ext U)
/-- a constructor: from n objects to n1, with mc cells and ms slots -/
def CtN (l : Launch) (y : MethodName) (cc : ByteArray) (nL rf rl : Nat) (cl : List vw_C) (sh : Shp) (Ext : State → Prop) (avs : Nat → List Value) (n n1 : Nat) (Rf Rf1 : Nat → Nat → Nat) (M M1 : Mem) (mc ms : Nat) : Prop :=
  ∀ (D : va_G) (E : Nat → ClassId) (b : Nat), Met l y (.code y cc nL none :: gws) (mkN rf mc ms rl) (PN (avs b) D cl E sh b n Rf Ext M) (QN D cl E sh b n1 Rf1 M1) mc ms (fun q => b ≤ q)
theorem PN_blind {avs : List Value} {D : va_G} {cl : List vw_C} {E : Nat → ClassId} {sh : Shp} {b n : Nat} {Rf : Nat → Nat → Nat} {Ext : State → Prop} {M : Mem} (hE : ExtOK Ext (fun q => b ≤ q)) : FrameBlind (PN avs D cl E sh b n Rf Ext M) := by
  intro a U g mk h
  obtain ⟨h1, h0, h2, h3, h4⟩ := h
  exact ⟨h1, h0, h2, va_K.moved (u := U) (U := U.calling g mk a) (Vm.Alike.refl U.vm) h3, hE U (U.calling g mk a) h4 (State.WarmedH.refl U) (Nat.le_refl _) (fun _ _ _ => rfl)⟩
def CLI (own : String) (idx : Nat) (y : MethodName) (yc : ByteArray) (yL na : Nat) : Prop :=
  Cond.methodLink own idx y ∈ gws ∧ Cond.instanceMethod y ∈ gws ∧ y.name = "<init>" ∧ Cond.initialized y.cls ∈ gws ∧ Cond.code y yc yL none ∈ gws ∧ (y.cls ≠ "java/lang/invoke/MethodHandle" ∧ y.cls ≠ "java/lang/invoke/VarHandle") ∧ (parseMethodDescriptor y.desc).map (fun d => d.parameters.length) = some na
/-- the same of a private constructor of another class: its link is a nest mate's -/
def CLJ (ws : List Cond) (own : String) (idx : Nat) (y : MethodName) (host : String) (yc : ByteArray) (yL na : Nat) : Prop :=
  Cond.methodLinkNest own idx y host ∈ ws ∧ Cond.instanceMethod y ∈ gws ∧ y.name = "<init>" ∧ Cond.initialized y.cls ∈ gws ∧ Cond.code y yc yL none ∈ gws ∧ (y.cls ≠ "java/lang/invoke/MethodHandle" ∧ y.cls ≠ "java/lang/invoke/VarHandle") ∧ (parseMethodDescriptor y.desc).map (fun d => d.parameters.length) = some na
section NCALL
variable {p : Program} {l : Launch} {e : Env} {R : Room} {s : State} {m : MethodId} {args : Array Value} {below : List Frame} {meth : Method} {c : Code} {cc : ByteArray} {nL : Nat} {own : String} {D : va_G} {E : Nat → ClassId} {cl : List vw_C} {sh : Shp} {b n n1 ce sl mc ms : Nat} {Rf Rf1 : Nat → Nat → Nat} {Q : State → Prop} {Ext : State → Prop} {M M1 : Mem} {pc : Nat} {lv : List (Nat × Value)} {rest st st1 : List Value}
theorem n_anew (C : CX p s m args meth c cc nL own D E cl Ext (fun q => b ≤ q)) {idx L t : Nat} {cn : String} (hcl : Cond.classLink own idx cn ∈ gws) (hov : (Cond.arrayOver (.object cn)).before args s = true) (ht : ∀ E, (tysOf E)[t]? = some (E t, .object cn)) (hs : sh n = (3, [L, t])) (h0 : ∀ j, Rf n j = 0) (hL : L ≤ 60000000) {x : Int} (hx : x = (L : Int)) (hsz : s.heap.size + ce = b + n ∧ b ≤ s.heap.size) (hce : ce + 1 ≤ R.cells) (hsl : sl + L ≤ R.slots) (d : decode cc pc = .ok (.anewarray idx, 3))
    (kk : WN p l e R s m args below meth c nL D E cl sh b Q (n + 1) Rf M (ce + 1) (sl + L) (pc + 3) lv (vR b n :: rest)) : WN p l e R s m args below meth c nL D E cl sh b Q n Rf M ce sl pc lv (vI x :: rest) := by
  intro H locs ls hP hS hl
  subst hx
  have ok : ∀ w ∈ gws, w.before args s = true := C.2.2.2.2.1
  have ex : (Int32.ofInt (L : Int)).toInt = (L : Int) := w32_eq (by omega) (by omega)
  have en : (Int32.ofInt (L : Int)).toNatClampNeg = L := by
    unfold Int32.toNatClampNeg
    rw [ex]
    omega
  have hn : ¬ Int32.ofInt (L : Int) < 0 := by
    rw [I_lt0]
    show ¬ (Int32.ofInt (L : Int)).toInt < 0
    rw [ex]
    omega
  refine w_size hP hS hsz (fun hz => ?_)
  refine W.anew C.1 C.2.1 C.2.2.2.1 (ok _ hcl) hov rfl d rfl hn (by rw [en]; omega) hce (by rw [en]; exact hsl) fun cA kA comp f1 f2 f3 f4 => ?_
  rw [en, hz]
  obtain ⟨-, kA2, comp2, -, -, -, q4⟩ := C.2.2.2.2.2.1.2 t _ (ht E)
  have ec : cA = E t := Option.some.inj (f1.symm.trans q4)
  subst ec
  generalize hH1 : H.push ({ cls := E t, slots := Array.replicate L .null, vm := .none } : Cell) = H1
  have e1 : H1[b + n]? = some (arrV (E t) L (fun _ => .null)) := by rw [← hH1, ← hz, Array.getElem?_push_size, ← arrV_new]
  have z1 : H1.size = b + n + 1 := by rw [← hH1, Array.size_push, hz]
  have o1 : ∀ q : Nat, q < b + n → H1[q]? = H[q]? := fun q hq => by rw [← hH1, Array.getElem?_push, if_neg (by omega)]
  refine kk H1 locs ls ?_ ⟨Nat.le_trans hS.1 (by omega), fun x h1 h2 => (o1 x (by rw [← hz]; exact Nat.lt_of_lt_of_le h1 hS.1)).trans (hS.2.1 x h1 h2), hS.2.2⟩ hl
  rw [Wd_succ]
  refine (hP.kept (fun k x hx => o1 x.1 (by rw [← hz]; exact (hP k x hx).lt))).app (fun k x hx => ?_)
  have hzk : k < 1 := (List.getElem?_eq_some_iff.mp hx).1
  rw [show k = 0 by omega] at hx
  cases hx
  show va_at D cl (b + n, _) H1
  rw [hs, cellE_refs0 h0]
  exact e1
theorem n_aast (C : CX p s m args meth c cc nL own D E cl Ext (fun q => b ≤ q)) {k L t r ci iN : Nat} {q : vw_C} {kds : List Nat} {hol : List (Nat × Nat)} (ht : ∀ E, (tysOf E)[t]? = some (E t, .object q.1)) (hs : sh k = (3, [L, t])) (hk : k < n) (hL : L ≤ 2147483647) (hsr : sh r = (ci + 4, kds)) (hkr : r < n) (hcl : cl[ci]? = some q) {i : Int} (hi : 0 ≤ i ∧ i < (L : Int)) (hN : i.toNat = iN) (hh : (k, iN) ∉ hol) (hr : Rf k iN = r + 1) (d : decode cc pc = .ok (.aastore, 1))
    (kk : WN p l e R s m args below meth c nL D E cl sh b Q n (Rfh Rf hol) M ce sl (pc + 1) lv rest) : WN p l e R s m args below meth c nL D E cl sh b Q n (Rfh Rf ((k, iN) :: hol)) M ce sl pc lv (vR b r :: vI i :: vR b k :: rest) := by
  subst hN
  intro H locs ls hP hS hl
  obtain ⟨f1, f2, f3⟩ := Rfh_hd (Rf := Rf) hh
  have he : (Wd E sh b n (Rfh Rf ((k, i.toNat) :: hol)) M)[k]? = some (b + k, .inl (E t, L, .inr (.inr (.inr (.inr (fun j => rO b (Rfh Rf ((k, i.toNat) :: hol) k j))))))) := by rw [Wd_at hk, hs, cellE_refs]
  have hv : (Wd E sh b n (Rfh Rf ((k, i.toNat) :: hol)) M)[r]? = some (b + r, .inr (ci, kds.mapIdx (fun j kd => slotV b (Rfh Rf ((k, i.toNat) :: hol) r) (M r) j kd))) := by rw [Wd_at hkr, hsr, cellE_obj]
  obtain ⟨q1, q2⟩ := I_clamp hi hL
  refine va_astq C.1 C.2.1 C.2.2.2.2.2.1 hP wdDn hS k t r ci he (ht E) hv hcl q2 d ?_
  intro H1 locs1 hP1 _ hS1
  rw [q1, show (va_up (fun j => rO b (Rfh Rf ((k, i.toNat) :: hol) k j)) i.toNat (some (b + r))) = (fun j => rO b (Rfh Rf hol k j)) from by
    funext j
    unfold va_up
    by_cases h : j = i.toNat
    · rw [if_pos h, h, f3, hr]; rfl
    · rw [if_neg h, f2 j h], Wd_set3 (Rf1 := Rfh Rf hol) (M1 := M) (by rw [hs, cellE_refs]) (fun z hz => ⟨f1 z hz, rfl⟩)] at hP1
  exact kk H1 locs1 ls hP1 hS1 hl
theorem n_run {H : Heap} {locs : List Loc} {ls : Array Slot} {aa : Array Value}
    (hr : va_Run p l e R s m args below meth c H locs ce sl mc ms (F0 m pc ls st) rest (QN D cl E sh b n1 Rf1 M1 aa) (fun q => b ≤ q)) (hS : va_S (fun q => b ≤ q) s.heap H locs) (hl : lv_has ls nL lv)
    (kk : WN p l e R s m args below meth c nL D E cl sh b Q n1 Rf1 M1 (ce + mc) (sl + ms) (pc + 3) lv rest) : W p l e R s m args below meth c H locs ce sl Q (F0 m pc ls st) := by
  intro T hT X
  obtain ⟨v, st₀, t, T', L, h0, X', hL, e1, e2, ⟨hv, hb, hz, hk⟩, sq⟩ := hr T hT X
  have hv' : v = none := by cases hv; rfl
  subst hv'
  rw [h0] at hz hk
  obtain ⟨t2, a1, b1⟩ := kk T'.heap (locs ++ L) ls (by rw [e1]; exact hb)
    ⟨Nat.le_trans hS.1 (by rw [e1]; exact hz), fun q h1 h2 => by rw [e1, hk q (Nat.lt_of_lt_of_le h1 hS.1) h2]; exact hS.2.1 q h1 h2, fun q hq => by
      rcases List.mem_append.mp hq with h | h
      · exact hS.2.2 q h
      · exact hL q h⟩ hl T' rfl X'
  exact ⟨t2, sq t2 a1, b1⟩
theorem pn_at (C : CX p s m args meth c cc nL own D E cl Ext (fun q => b ≤ q)) {avs : List Value} {H : Heap} {locs : List Loc} (hz : H.size = b + n) (hP : va_P D cl (Wd E sh b n Rf M) H) (hS : va_S (fun q => b ≤ q) s.heap H locs) (U : State) (hU : U.heap = H) (hW : s.WarmedH U.vm) : PN avs D cl E sh b n Rf Ext M avs.toArray U :=
  ⟨rfl, by rw [hU]; exact hz, by rw [hU]; exact hP, va_K.moved hW.alike C.2.2.2.2.2.1, C.2.2.2.2.2.2.2 U hW (by rw [hU]; exact hS.1) (fun q h1 h2 => by rw [hU]; exact hS.2.1 q h1 h2)⟩
theorem n_callI (C : CX p s m args meth c cc nL own D E cl Ext (fun q => b ≤ q)) (hE : ExtOK Ext (fun q => b ≤ q)) {idx yL rf rl na k : Nat} {y : MethodName} {yc : ByteArray} {avs : Nat → List Value} (As : List Value)
    (hM : CtN l y yc yL rf rl cl sh Ext avs n n1 Rf Rf1 M M1 mc ms) (hc : CLI own idx y yc yL na) (hav : avs b = vR b k :: As) (hna : As.length = na) (hsz : s.heap.size + ce = b + n ∧ b ≤ s.heap.size) (hR : rf + 1 ≤ R.frames ∧ 8 + (yL + 11) + rl ≤ R.locals) (hce : ce + mc ≤ R.cells) (hsl : sl + ms ≤ R.slots) (hrest : (rest.map fun v => v.category).sum ≤ 8)
    (hst : st = As.reverse ++ vR b k :: rest) (d : decode cc pc = .ok (.invokespecial idx, 3))
    (kk : WN p l e R s m args below meth c nL D E cl sh b Q n1 Rf1 M1 (ce + mc) (sl + ms) (pc + 3) lv rest) : WN p l e R s m args below meth c nL D E cl sh b Q n Rf M ce sl pc lv st := by
  intro H locs ls hP hS hl
  subst hst
  obtain ⟨c1, c2, c3, c4, c5, c6, c7⟩ := hc
  have ok : ∀ w ∈ gws, w.before args s = true := C.2.2.2.2.1
  have hM' := hM D E b
  rw [hav] at hM'
  refine w_size hP hS hsz (fun hz => ?_)
  refine n_run (va_runI (b := b + k) (As := As) (rest := rest) (n := na) ⟨C.1, C.2.1, C.2.2.1, C.2.2.2.1, ok⟩ hM' ⟨⟨rfl, rfl, hR.1, hR.2, pay_in ok (goodIn_gws c5), List.mem_cons_self, ok _ c5, ok _ c4, c6, fun sig h => ?_, ok _ c1⟩, c3, ok _ c2⟩ ⟨PN_blind hE, fun U hU hW => pn_at C hz hP hS U hU hW⟩ rfl hna hl.1 rfl (lv_room hrest) d ⟨hce, hsl⟩) hS hl kk
  rw [h] at c7
  exact (Option.some.inj c7).symm
theorem n_callJ {ws : List Cond} (C : CX p s m args meth c cc nL own D E cl (NExt ws) (fun q => b ≤ q)) {idx yL rf rl na k : Nat} {y : MethodName} {host : String} {yc : ByteArray} {avs : Nat → List Value} (As : List Value)
    (hM : CtN l y yc yL rf rl cl sh (NExt ws) avs n n1 Rf Rf1 M M1 mc ms) (hc : CLJ ws own idx y host yc yL na) (hav : avs b = vR b k :: As) (hna : As.length = na) (hsz : s.heap.size + ce = b + n ∧ b ≤ s.heap.size) (hR : rf + 1 ≤ R.frames ∧ 8 + (yL + 11) + rl ≤ R.locals) (hce : ce + mc ≤ R.cells) (hsl : sl + ms ≤ R.slots) (hrest : (rest.map fun v => v.category).sum ≤ 8)
    (hst : st = As.reverse ++ vR b k :: rest) (d : decode cc pc = .ok (.invokespecial idx, 3))
    (kk : WN p l e R s m args below meth c nL D E cl sh b Q n1 Rf1 M1 (ce + mc) (sl + ms) (pc + 3) lv rest) : WN p l e R s m args below meth c nL D E cl sh b Q n Rf M ce sl pc lv st := by
  intro H locs ls hP hS hl
  subst hst
  obtain ⟨c1, c2, c3, c4, c5, c6, c7⟩ := hc
  have ok : ∀ w ∈ gws, w.before args s = true := C.2.2.2.2.1
  have hM' := hM D E b
  rw [hav] at hM'
  have hnest := ((C.2.2.2.2.2.2.2 s (State.WarmedH.refl s) (Nat.le_refl _) (fun _ _ _ => rfl)).1 _ c1).2
  refine w_size hP hS hsz (fun hz => ?_)
  refine n_run (va_runIN (b := b + k) (As := As) (rest := rest) (n := na) ⟨C.1, C.2.1, C.2.2.1, C.2.2.2.1, ok⟩ hM' ⟨⟨⟨rfl, rfl, hR.1, hR.2, pay_in ok (goodIn_gws c5), List.mem_cons_self⟩, ok _ c5, ok _ c4, c6, fun sig h => ?_, va_Nw.use rfl hnest⟩, c3, ok _ c2⟩ ⟨PN_blind (NExt_ok ws _), fun U hU hW => pn_at C hz hP hS U hU hW⟩ rfl hna hl.1 rfl (lv_room hrest) d ⟨hce, hsl⟩) hS hl kk
  rw [h] at c7
  exact (Option.some.inj c7).symm
theorem n_vret (C : CX p s m args meth c cc nL own D E cl Ext (fun q => b ≤ q)) (hr : meth.sig.returnType = none) (d : decode cc pc = .ok (.return_, 1)) :
    WN p l e R s m args below meth c nL D E cl sh b (MQ below (QN D cl E sh b n Rf M) args s ce sl (fun q => b ≤ q)) n Rf M ce sl pc lv [] := by
  intro H locs ls hP hS hl
  exact W.vret C.1 C.2.1 hr (fun t ht _ => ⟨rfl, by rw [ht]; exact hP, hS.F ht⟩) hS.2.2 d C.2.2.2.2.2.2.1
end NCALL
theorem CtN_of {l : Launch} {y : MethodName} {cc : ByteArray} {nL rf rl : Nat} {cl : List vw_C} {sh : Shp} {Ext : State → Prop} {avs : Nat → List Value} {n n1 : Nat} {Rf Rf1 : Nat → Nat → Nat} {M M1 : Mem} {mc ms : Nat}
    (hE : ∀ A, ExtOK Ext A) (hy : plainName y.cls = true) (hyn : y.name = "<init>") (hlen : ∀ b, (lg_sl (avs b)).length ≤ nL)
    (body : ∀ (p : Program) (e : Env) (s : State) (m : MethodId) (args : Array Value) (below : List Frame) (meth : Method) (c : Code) (D : va_G) (E : Nat → ClassId) (b : Nat), CX p s m args meth c cc nL y.cls D E cl Ext (fun q => b ≤ q) → meth.sig.returnType = none → meth.name = "<init>" → s.heap.size = b + n →
      WN p l e (mkN rf mc ms rl) s m args below meth c nL D E cl sh b (MQ below (QN D cl E sh b n1 Rf1 M1) args s mc ms (fun q => b ≤ q)) n Rf M 0 0 0 (lv_args 0 (avs b)) []) :
    CtN l y cc nL rf rl cl sh Ext avs n n1 Rf Rf1 M M1 mc ms := by
  intro D E b
  refine Met.ofW (cc := cc) (maxL := nL) (ret := none) hy rfl ?_
  intro p e s m args below meth c s₁ B hml hv
  obtain ⟨ha, hz, hP, hK, hX⟩ := hv
  subst ha
  rw [lg_entry_eq]
  have hts : ∀ w ∈ gws, w.before (avs b).toArray s = true := fun w hw => atoms_spec (ws := .code y cc nL none :: gws) B.pre w (List.mem_cons_of_mem _ hw)
  have hnm : meth.name = "<init>" := ((name_of_methodNamed B.named B.method).1).trans hyn
  exact body p e s m (avs b).toArray below meth c D E b ⟨B.exec, B.bytes, hml, findClass_of_methodNamed B.named, hts, hK, B.notSynchronized, fun U h1 h2 h3 => hE _ s U hX h1 h2 h3⟩ B.returns hnm hz s.heap [] _ hP va_S.rf (lv_entry (avs b) (hlen b))
